theorem arrOf_kind {s : State} {cA : ClassId} {kA : Class} {comp : ClassId} {ty : FieldType} (h1 : s.vm.classes[cA]? = some kA) (h2 : kA.kind = .array comp ty) : ArrOfT s cA ty := by
  intro n z
  unfold State.isArrayOf
  simp [arrV, h1, h2]
set_option maxRecDepth 100000 in
theorem st_ABOVE_of {b : Nat} {s : State} (hgv : (Jvm.Cond.and given_1 narrow_1).before #[Value.ref b] s = true) (hts : ∀ w ∈ lw_tbl, w.before #[Value.ref b] s = true) : ∃ t : Nat, StaZ t "ABOVE" 7 s_ABOVE (fun q : Nat => s.heap.size ≤ q) s s.heap := by
  have hs := flat_of_before _ hgv
  have hA : ∀ a : Nat, a < s.heap.size → ¬ (fun q : Nat => s.heap.size ≤ q) a := fun a h => Nat.not_le.mpr h
  obtain ⟨t, h1, h2⟩ := va_Tof (args := #[Value.ref b]) (s := s) (tm := (.static RX6 "ABOVE" "[I")) (ty := .int) (N := 7) (f := fun j => .int (s_ABOVE j)) (by decide) (hs _ (by decide +kernel)) (va_eqt (t := .length (.static RX6 "ABOVE" "[I")) (z := 7) (hs _ (by decide +kernel))) (fun j hj => match j, hj with | 0, _ => va_eqt (t := .elem (.static RX6 "ABOVE" "[I") (.int 0)) (z := (-1)) (hs _ (by decide +kernel)) | 1, _ => va_eqt (t := .elem (.static RX6 "ABOVE" "[I") (.int 1)) (z := 0) (hs _ (by decide +kernel)) | 2, _ => va_eqt (t := .elem (.static RX6 "ABOVE" "[I") (.int 2)) (z := 0) (hs _ (by decide +kernel)) | 3, _ => va_eqt (t := .elem (.static RX6 "ABOVE" "[I") (.int 3)) (z := 0) (hs _ (by decide +kernel)) | 4, _ => va_eqt (t := .elem (.static RX6 "ABOVE" "[I") (.int 4)) (z := 1) (hs _ (by decide +kernel)) | 5, _ => va_eqt (t := .elem (.static RX6 "ABOVE" "[I") (.int 5)) (z := 2) (hs _ (by decide +kernel)) | 6, _ => va_eqt (t := .elem (.static RX6 "ABOVE" "[I") (.int 6)) (z := 3) (hs _ (by decide +kernel)) | j + 7, h => absurd h (by omega)) hA
  exact ⟨t, va_Zref (hts _ ls_ABOVE) (hts _ (wl_all _ wd1_2)) h1 hA, h2⟩
set_option maxRecDepth 100000 in
theorem st_MANNER_of {b : Nat} {s : State} (hgv : (Jvm.Cond.and given_1 narrow_1).before #[Value.ref b] s = true) (hts : ∀ w ∈ lw_tbl, w.before #[Value.ref b] s = true) : ∃ t : Nat, StaZ t "MANNER" 7 s_MANNER (fun q : Nat => s.heap.size ≤ q) s s.heap := by
  have hs := flat_of_before _ hgv
  have hA : ∀ a : Nat, a < s.heap.size → ¬ (fun q : Nat => s.heap.size ≤ q) a := fun a h => Nat.not_le.mpr h
  obtain ⟨t, h1, h2⟩ := va_Tof (args := #[Value.ref b]) (s := s) (tm := (.static RX6 "MANNER" "[I")) (ty := .int) (N := 7) (f := fun j => .int (s_MANNER j)) (by decide) (hs _ (by decide +kernel)) (va_eqt (t := .length (.static RX6 "MANNER" "[I")) (z := 7) (hs _ (by decide +kernel))) (fun j hj => match j, hj with | 0, _ => va_eqt (t := .elem (.static RX6 "MANNER" "[I") (.int 0)) (z := 0) (hs _ (by decide +kernel)) | 1, _ => va_eqt (t := .elem (.static RX6 "MANNER" "[I") (.int 1)) (z := 0) (hs _ (by decide +kernel)) | 2, _ => va_eqt (t := .elem (.static RX6 "MANNER" "[I") (.int 2)) (z := 2) (hs _ (by decide +kernel)) | 3, _ => va_eqt (t := .elem (.static RX6 "MANNER" "[I") (.int 3)) (z := 3) (hs _ (by decide +kernel)) | 4, _ => va_eqt (t := .elem (.static RX6 "MANNER" "[I") (.int 4)) (z := 0) (hs _ (by decide +kernel)) | 5, _ => va_eqt (t := .elem (.static RX6 "MANNER" "[I") (.int 5)) (z := 2) (hs _ (by decide +kernel)) | 6, _ => va_eqt (t := .elem (.static RX6 "MANNER" "[I") (.int 6)) (z := 3) (hs _ (by decide +kernel)) | j + 7, h => absurd h (by omega)) hA
  exact ⟨t, va_Zref (hts _ ls_MANNER) (hts _ (wl_all _ wd1_2)) h1 hA, h2⟩
set_option maxRecDepth 100000 in
theorem st_BUTTONS_of {b : Nat} {s : State} (hgv : (Jvm.Cond.and given_1 narrow_1).before #[Value.ref b] s = true) (hts : ∀ w ∈ lw_tbl, w.before #[Value.ref b] s = true) : ∃ t : Nat, StaZ t "BUTTONS" 7 s_BUTTONS (fun q : Nat => s.heap.size ≤ q) s s.heap := by
  have hs := flat_of_before _ hgv
  have hA : ∀ a : Nat, a < s.heap.size → ¬ (fun q : Nat => s.heap.size ≤ q) a := fun a h => Nat.not_le.mpr h
  obtain ⟨t, h1, h2⟩ := va_Tof (args := #[Value.ref b]) (s := s) (tm := (.static RX6 "BUTTONS" "[I")) (ty := .int) (N := 7) (f := fun j => .int (s_BUTTONS j)) (by decide) (hs _ (by decide +kernel)) (va_eqt (t := .length (.static RX6 "BUTTONS" "[I")) (z := 7) (hs _ (by decide +kernel))) (fun j hj => match j, hj with | 0, _ => va_eqt (t := .elem (.static RX6 "BUTTONS" "[I") (.int 0)) (z := 1) (hs _ (by decide +kernel)) | 1, _ => va_eqt (t := .elem (.static RX6 "BUTTONS" "[I") (.int 1)) (z := 1) (hs _ (by decide +kernel)) | 2, _ => va_eqt (t := .elem (.static RX6 "BUTTONS" "[I") (.int 2)) (z := 0) (hs _ (by decide +kernel)) | 3, _ => va_eqt (t := .elem (.static RX6 "BUTTONS" "[I") (.int 3)) (z := 1) (hs _ (by decide +kernel)) | 4, _ => va_eqt (t := .elem (.static RX6 "BUTTONS" "[I") (.int 4)) (z := 1) (hs _ (by decide +kernel)) | 5, _ => va_eqt (t := .elem (.static RX6 "BUTTONS" "[I") (.int 5)) (z := 0) (hs _ (by decide +kernel)) | 6, _ => va_eqt (t := .elem (.static RX6 "BUTTONS" "[I") (.int 6)) (z := 2) (hs _ (by decide +kernel)) | j + 7, h => absurd h (by omega)) hA
  exact ⟨t, va_Zref (hts _ ls_BUTTONS) (hts _ (wl_all _ wd1_2)) h1 hA, h2⟩
set_option maxRecDepth 100000 in
theorem st_BODIES_of {b : Nat} {s : State} (hgv : (Jvm.Cond.and given_1 narrow_1).before #[Value.ref b] s = true) (hts : ∀ w ∈ lw_tbl, w.before #[Value.ref b] s = true) : ∃ t : Nat, StaZ t "BODIES" 28 s_BODIES (fun q : Nat => s.heap.size ≤ q) s s.heap := by
  have hs := flat_of_before _ hgv
  have hA : ∀ a : Nat, a < s.heap.size → ¬ (fun q : Nat => s.heap.size ≤ q) a := fun a h => Nat.not_le.mpr h
  obtain ⟨t, h1, h2⟩ := va_Tof (args := #[Value.ref b]) (s := s) (tm := (.static RX6 "BODIES" "[I")) (ty := .int) (N := 28) (f := fun j => .int (s_BODIES j)) (by decide) (hs _ (by decide +kernel)) (va_eqt (t := .length (.static RX6 "BODIES" "[I")) (z := 28) (hs _ (by decide +kernel))) (fun j hj => match j, hj with | 0, _ => va_eqt (t := .elem (.static RX6 "BODIES" "[I") (.int 0)) (z := 10) (hs _ (by decide +kernel)) | 1, _ => va_eqt (t := .elem (.static RX6 "BODIES" "[I") (.int 1)) (z := 11) (hs _ (by decide +kernel)) | 2, _ => va_eqt (t := .elem (.static RX6 "BODIES" "[I") (.int 2)) (z := 12) (hs _ (by decide +kernel)) | 3, _ => va_eqt (t := .elem (.static RX6 "BODIES" "[I") (.int 3)) (z := 13) (hs _ (by decide +kernel)) | 4, _ => va_eqt (t := .elem (.static RX6 "BODIES" "[I") (.int 4)) (z := 0) (hs _ (by decide +kernel)) | 5, _ => va_eqt (t := .elem (.static RX6 "BODIES" "[I") (.int 5)) (z := 0) (hs _ (by decide +kernel)) | 6, _ => va_eqt (t := .elem (.static RX6 "BODIES" "[I") (.int 6)) (z := 20) (hs _ (by decide +kernel)) | 7, _ => va_eqt (t := .elem (.static RX6 "BODIES" "[I") (.int 7)) (z := 0) (hs _ (by decide +kernel)) | 8, _ => va_eqt (t := .elem (.static RX6 "BODIES" "[I") (.int 8)) (z := 30) (hs _ (by decide +kernel)) | 9, _ => va_eqt (t := .elem (.static RX6 "BODIES" "[I") (.int 9)) (z := 0) (hs _ (by decide +kernel)) | 10, _ => va_eqt (t := .elem (.static RX6 "BODIES" "[I") (.int 10)) (z := 0) (hs _ (by decide +kernel)) | 11, _ => va_eqt (t := .elem (.static RX6 "BODIES" "[I") (.int 11)) (z := 0) (hs _ (by decide +kernel)) | 12, _ => va_eqt (t := .elem (.static RX6 "BODIES" "[I") (.int 12)) (z := 0) (hs _ (by decide +kernel)) | 13, _ => va_eqt (t := .elem (.static RX6 "BODIES" "[I") (.int 13)) (z := 40) (hs _ (by decide +kernel)) | 14, _ => va_eqt (t := .elem (.static RX6 "BODIES" "[I") (.int 14)) (z := 0) (hs _ (by decide +kernel)) | 15, _ => va_eqt (t := .elem (.static RX6 "BODIES" "[I") (.int 15)) (z := 0) (hs _ (by decide +kernel)) | 16, _ => va_eqt (t := .elem (.static RX6 "BODIES" "[I") (.int 16)) (z := 0) (hs _ (by decide +kernel)) | 17, _ => va_eqt (t := .elem (.static RX6 "BODIES" "[I") (.int 17)) (z := 0) (hs _ (by decide +kernel)) | 18, _ => va_eqt (t := .elem (.static RX6 "BODIES" "[I") (.int 18)) (z := 50) (hs _ (by decide +kernel)) | 19, _ => va_eqt (t := .elem (.static RX6 "BODIES" "[I") (.int 19)) (z := 51) (hs _ (by decide +kernel)) | 20, _ => va_eqt (t := .elem (.static RX6 "BODIES" "[I") (.int 20)) (z := 0) (hs _ (by decide +kernel)) | 21, _ => va_eqt (t := .elem (.static RX6 "BODIES" "[I") (.int 21)) (z := 0) (hs _ (by decide +kernel)) | 22, _ => va_eqt (t := .elem (.static RX6 "BODIES" "[I") (.int 22)) (z := 0) (hs _ (by decide +kernel)) | 23, _ => va_eqt (t := .elem (.static RX6 "BODIES" "[I") (.int 23)) (z := 60) (hs _ (by decide +kernel)) | 24, _ => va_eqt (t := .elem (.static RX6 "BODIES" "[I") (.int 24)) (z := 0) (hs _ (by decide +kernel)) | 25, _ => va_eqt (t := .elem (.static RX6 "BODIES" "[I") (.int 25)) (z := 70) (hs _ (by decide +kernel)) | 26, _ => va_eqt (t := .elem (.static RX6 "BODIES" "[I") (.int 26)) (z := 0) (hs _ (by decide +kernel)) | 27, _ => va_eqt (t := .elem (.static RX6 "BODIES" "[I") (.int 27)) (z := 0) (hs _ (by decide +kernel)) | j + 28, h => absurd h (by omega)) hA
  exact ⟨t, va_Zref (hts _ ls_BODIES) (hts _ (wl_all _ wd1_2)) h1 hA, h2⟩
theorem sta_of {b : Nat} {s : State} (hgv : (Jvm.Cond.and given_1 narrow_1).before #[Value.ref b] s = true) (hts : ∀ w ∈ lw_tbl, w.before #[Value.ref b] s = true) : ∃ T : Nat → Nat, Sta T (fun q : Nat => s.heap.size ≤ q) s s.heap := by
  obtain ⟨t0, h0⟩ := st_ABOVE_of hgv hts
  obtain ⟨t1, h1⟩ := st_MANNER_of hgv hts
  obtain ⟨t2, h2⟩ := st_BUTTONS_of hgv hts
  obtain ⟨t3, h3⟩ := st_BODIES_of hgv hts
  have nw : ∀ {w : Cond}, w.onTables = true → w ∈ lw_tbl → va_Nw w s := fun ho h => va_Nw.of ho (hts _ h)
  exact ⟨fun k => if k = 0 then t0 else if k = 1 then t1 else if k = 2 then t2 else t3, ⟨nw rfl nw1, nw rfl nw2, nw rfl nw3, nw rfl nw4, nw rfl nw5, nw rfl nw6, nw rfl nw7, nw rfl nw8, nw rfl nw9, nw rfl nw10, nw rfl nw11, va_AO.of (hts _ ao_S)⟩, h0, h1, h2, h3⟩
theorem know_of {b : Nat} {s : State} (hts : ∀ w ∈ wsL_law, w.before #[Value.ref b] s = true) (hao : (Cond.arrayOver (.object RX2)).before #[Value.ref b] s = true) : ∃ (D : va_G) (cI cS : ClassId), va_K D vwCl (tysX cI cS) s := by
  obtain ⟨k0, i0, hk0⟩ := u_known (C := RX0) (T := TX0) (N := 7) (n := 7) hts inlX0 (hts _ wd1_19)
  obtain ⟨k1, i1, hk1⟩ := u_known (C := RX1) (T := TX1) (N := 7) (n := 7) hts inlX1 (hts _ wd1_23)
  obtain ⟨k2, i2, hk2⟩ := u_known (C := RX2) (T := TX2) (N := 3) (n := 3) hts inlX2 (hts _ wd2_11)
  obtain ⟨k3, i3, hk3⟩ := u_known (C := RX3) (T := TX3) (N := 4) (n := 4) hts inlX3 (hts _ wd2_23)
  obtain ⟨k4, i4, hk4⟩ := u_known (C := RX4) (T := TX4) (N := 5) (n := 5) hts inlX4 (hts _ wd2_3)
  obtain ⟨k5, i5, hk5⟩ := u_known (C := RX5) (T := TX5) (N := 17) (n := 17) hts inlX5 (hts _ wd1_14)
  obtain ⟨k6, i6, hk6⟩ := u_known (C := RX6) (T := TX6) (N := 9) (n := 9) hts inlX6 (hts _ wd1_1)
  obtain ⟨k7, i7, hk7⟩ := u_known (C := RX7) (T := TX7) (N := 30) (n := 30) hts inlX7 (hts _ wd1_4)
  obtain ⟨cI, kI, cpI, f1, f2, f3⟩ := Cond.arrayClass_spec (hts (.arrayClass .int) wd2_8)
  obtain ⟨cpS, cS, kS, g1, g2, g3, g4, g5⟩ := Cond.arrayOver_spec hao
  refine ⟨(fun k => if k = 0 then k0 else if k = 1 then k1 else if k = 2 then k2 else if k = 3 then k3 else if k = 4 then k4 else if k = 5 then k5 else if k = 6 then k6 else k7, fun k => if k = 0 then i0 else if k = 1 then i1 else if k = 2 then i2 else if k = 3 then i3 else if k = 4 then i4 else if k = 5 then i5 else if k = 6 then i6 else i7), cI, cS, ?_, ?_⟩
  · intro k q hq
    match k, hq with
    | 0, hq => cases hq; exact hk0
    | 1, hq => cases hq; exact hk1
    | 2, hq => cases hq; exact hk2
    | 3, hq => cases hq; exact hk3
    | 4, hq => cases hq; exact hk4
    | 5, hq => cases hq; exact hk5
    | 6, hq => cases hq; exact hk6
    | 7, hq => cases hq; exact hk7
    | k + 8, hq => simp [vwCl] at hq
  · intro k q hq
    match k, hq with
    | 0, hq => cases hq; exact ⟨arrOf_kind f2 f3, f1⟩
    | 1, hq => cases hq; exact ⟨arrOf_kind g3 g4, kS, cpS, g3, g4, g1, g5⟩
    | k + 2, hq => simp at hq
