/-! the relation, taken apart and put together -/
theorem bdE4 {α1 α2 α3 α4 β : Type} (x1 : α1) (x2 : α2) (x3 : α3) (x4 : α4) (k : α1 → α2 → α3 → α4 → Option β) : bd4 (some (x1, x2, x3, x4)) k = k x1 x2 x3 x4 := (rfl)
theorem bdE5 {α1 α2 α3 α4 α5 β : Type} (x1 : α1) (x2 : α2) (x3 : α3) (x4 : α4) (x5 : α5) (k : α1 → α2 → α3 → α4 → α5 → Option β) : bd5 (some (x1, x2, x3, x4, x5)) k = k x1 x2 x3 x4 x5 := (rfl)
theorem bdE6 {α1 α2 α3 α4 α5 α6 β : Type} (x1 : α1) (x2 : α2) (x3 : α3) (x4 : α4) (x5 : α5) (x6 : α6) (k : α1 → α2 → α3 → α4 → α5 → α6 → Option β) : bd6 (some (x1, x2, x3, x4, x5, x6)) k = k x1 x2 x3 x4 x5 x6 := (rfl)
theorem bdE7 {α1 α2 α3 α4 α5 α6 α7 β : Type} (x1 : α1) (x2 : α2) (x3 : α3) (x4 : α4) (x5 : α5) (x6 : α6) (x7 : α7) (k : α1 → α2 → α3 → α4 → α5 → α6 → α7 → Option β) : bd7 (some (x1, x2, x3, x4, x5, x6, x7)) k = k x1 x2 x3 x4 x5 x6 x7 := (rfl)
theorem bdE8 {α1 α2 α3 α4 α5 α6 α7 α8 β : Type} (x1 : α1) (x2 : α2) (x3 : α3) (x4 : α4) (x5 : α5) (x6 : α6) (x7 : α7) (x8 : α8) (k : α1 → α2 → α3 → α4 → α5 → α6 → α7 → α8 → Option β) : bd8 (some (x1, x2, x3, x4, x5, x6, x7, x8)) k = k x1 x2 x3 x4 x5 x6 x7 x8 := (rfl)
theorem bdE9 {α1 α2 α3 α4 α5 α6 α7 α8 α9 β : Type} (x1 : α1) (x2 : α2) (x3 : α3) (x4 : α4) (x5 : α5) (x6 : α6) (x7 : α7) (x8 : α8) (x9 : α9) (k : α1 → α2 → α3 → α4 → α5 → α6 → α7 → α8 → α9 → Option β) : bd9 (some (x1, x2, x3, x4, x5, x6, x7, x8, x9)) k = k x1 x2 x3 x4 x5 x6 x7 x8 x9 := (rfl)
theorem bdE10 {α1 α2 α3 α4 α5 α6 α7 α8 α9 α10 β : Type} (x1 : α1) (x2 : α2) (x3 : α3) (x4 : α4) (x5 : α5) (x6 : α6) (x7 : α7) (x8 : α8) (x9 : α9) (x10 : α10) (k : α1 → α2 → α3 → α4 → α5 → α6 → α7 → α8 → α9 → α10 → Option β) : bd10 (some (x1, x2, x3, x4, x5, x6, x7, x8, x9, x10)) k = k x1 x2 x3 x4 x5 x6 x7 x8 x9 x10 := (rfl)
theorem bdE11 {α1 α2 α3 α4 α5 α6 α7 α8 α9 α10 α11 β : Type} (x1 : α1) (x2 : α2) (x3 : α3) (x4 : α4) (x5 : α5) (x6 : α6) (x7 : α7) (x8 : α8) (x9 : α9) (x10 : α10) (x11 : α11) (k : α1 → α2 → α3 → α4 → α5 → α6 → α7 → α8 → α9 → α10 → α11 → Option β) : bd11 (some (x1, x2, x3, x4, x5, x6, x7, x8, x9, x10, x11)) k = k x1 x2 x3 x4 x5 x6 x7 x8 x9 x10 x11 := (rfl)
theorem bdE12 {α1 α2 α3 α4 α5 α6 α7 α8 α9 α10 α11 α12 β : Type} (x1 : α1) (x2 : α2) (x3 : α3) (x4 : α4) (x5 : α5) (x6 : α6) (x7 : α7) (x8 : α8) (x9 : α9) (x10 : α10) (x11 : α11) (x12 : α12) (k : α1 → α2 → α3 → α4 → α5 → α6 → α7 → α8 → α9 → α10 → α11 → α12 → Option β) : bd12 (some (x1, x2, x3, x4, x5, x6, x7, x8, x9, x10, x11, x12)) k = k x1 x2 x3 x4 x5 x6 x7 x8 x9 x10 x11 x12 := (rfl)
theorem bdE13 {α1 α2 α3 α4 α5 α6 α7 α8 α9 α10 α11 α12 α13 β : Type} (x1 : α1) (x2 : α2) (x3 : α3) (x4 : α4) (x5 : α5) (x6 : α6) (x7 : α7) (x8 : α8) (x9 : α9) (x10 : α10) (x11 : α11) (x12 : α12) (x13 : α13) (k : α1 → α2 → α3 → α4 → α5 → α6 → α7 → α8 → α9 → α10 → α11 → α12 → α13 → Option β) : bd13 (some (x1, x2, x3, x4, x5, x6, x7, x8, x9, x10, x11, x12, x13)) k = k x1 x2 x3 x4 x5 x6 x7 x8 x9 x10 x11 x12 x13 := (rfl)
theorem bdE14 {α1 α2 α3 α4 α5 α6 α7 α8 α9 α10 α11 α12 α13 α14 β : Type} (x1 : α1) (x2 : α2) (x3 : α3) (x4 : α4) (x5 : α5) (x6 : α6) (x7 : α7) (x8 : α8) (x9 : α9) (x10 : α10) (x11 : α11) (x12 : α12) (x13 : α13) (x14 : α14) (k : α1 → α2 → α3 → α4 → α5 → α6 → α7 → α8 → α9 → α10 → α11 → α12 → α13 → α14 → Option β) : bd14 (some (x1, x2, x3, x4, x5, x6, x7, x8, x9, x10, x11, x12, x13, x14)) k = k x1 x2 x3 x4 x5 x6 x7 x8 x9 x10 x11 x12 x13 x14 := (rfl)
theorem PplR_out {size : Int32} {kind mark horn brass open_ health d : Nat → Int32} (h : PplR size kind mark horn brass open_ health d) : ∃ n, n ≤ 8 ∧ size = nI n ∧ d 0 = nI n ∧ FW kind mark horn brass open_ health ∧ FD kind mark horn brass open_ health d := by
  obtain ⟨n, hn, e⟩ := h.1
  exact ⟨n, hn, e, h.2.1.trans e, PplR_FW h, PplR_FD h⟩
theorem PplR_of {n : Nat} {kind mark horn brass open_ health d : Nat → Int32} (hn : n ≤ 8) (h0 : d 0 = nI n) (H : FW kind mark horn brass open_ health) (D : FD kind mark horn brass open_ health d) : PplR (nI n) kind mark horn brass open_ health d := ⟨⟨n, hn, rfl⟩, h0, fun p hp => ⟨H p hp, D p hp⟩⟩
def QR (quorum favour d : Nat → Int32) : Prop := ∀ i, i < 6 → rg 99 (quorum i) ∧ rg 255 (favour i) ∧ d (58 + 3 * i) = quorum i ∧ d (59 + 3 * i) = favour i
theorem MotR_out {motions : Int32} {quorum favour : Nat → Int32} {laws : Int32} {d : Nat → Int32} (h : MotR motions quorum favour laws d) : ∃ mo w, motions = nI mo ∧ laws = nI w ∧ LD mo w d ∧ QR quorum favour d := by
  obtain ⟨h1, ⟨n, w, a1, a2, a3, a4, a5⟩, h3⟩ := h
  exact ⟨n, w, a2, a4, ⟨a1, a3, h1.trans a2, a5⟩, h3⟩
theorem MotR_of {mo w : Nat} {quorum favour : Nat → Int32} {d : Nat → Int32} (h : LD mo w d) (q : QR quorum favour d) : MotR (nI mo) quorum favour (nI w) d := ⟨h.2.2.1, ⟨mo, w, h.1, rfl, h.2.1, rfl, h.2.2.2⟩, q⟩
theorem QR.frame {quorum favour d d' : Nat → Int32} (h : QR quorum favour d) (e : ∀ i, 58 ≤ i → i < 76 → i % 3 ≠ 0 → d' i = d i) : QR quorum favour d' := fun i hi => by
  obtain ⟨a, b, c, f⟩ := h i hi
  exact ⟨a, b, by rw [e _ (by omega) (by omega) (by omega)]; exact c, by rw [e _ (by omega) (by omega) (by omega)]; exact f⟩
theorem if01 {β : Type} {r : Int32} {f : Int32 → β} (h : r = 0 ∨ r = 1) : (if r = 0 then f 0 else f 1) = f r := by
  rcases h with rfl | rfl
  · exact if_pos rfl
  · exact if_neg (by decide)
theorem rest_fr {tape : Nat → Int32} {taped : Int32} {waiting : Nat → Int32} {waits : Int32} {chc : Nat → Int32} {chs : Int32} {coc : Nat → Int32} {cos : Int32} {d d' : Nat → Int32} (hTa : TapeR tape taped d) (hWa : WaitR waiting waits d) (hCh : TextR chc chs (d 76) (fun k => d (98 + k))) (hCo : TextR coc cos (d 77) (fun k => d (148 + k))) (F : ∀ i, i = 8 ∨ i = 9 ∨ 76 ≤ i → d' i = d i) : TapeR tape taped d' ∧ WaitR waiting waits d' ∧ TextR chc chs (d' 76) (fun k => d' (98 + k)) ∧ TextR coc cos (d' 77) (fun k => d' (148 + k)) :=
  ⟨hTa.frame (fun i hi => F i (by omega)), hWa.frame (fun i hi => F i (by omega)), hCh.frame (F 76 (by omega)) (fun k _ => F (98 + k) (by omega)), hCo.frame (F 77 (by omega)) (fun k _ => F (148 + k) (by omega))⟩
