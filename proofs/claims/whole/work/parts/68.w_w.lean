/-! reading a text, for class and reference -/
abbrev PC := (Nat → Int32) → Int32 → Int32 → Int32 → Option ((Nat → Int32) × Int32 × Int32 × Int32)
abbrev PR := Int32 → Int32 → Int32 → (Nat → Int32) → Int32 → Option (Int32 × Int32 × Int32 × (Nat → Int32) × Int32)
abbrev PL := (Nat → Int32) → Int32 → Int32 → Int32 → Int32 → Int32 → (Nat → Int32) → Int32 → Int32 → Option ((Nat → Int32) × Int32 × Int32 × Int32)
def nxB (bytes : Nat → Int32) (len a : Nat) : Int32 := if a < len then bytes a else -1
theorem nx1 {bytes : Nat → Int32} {len a : Nat} (hl : len ≤ 50) (ha : a ≤ len) : f_X1_next (nI len) (nI a) (-1) bytes = some (nxB bytes len a) := by
  unfold f_X1_next nxB
  rw [if_neg (by decide)]
  by_cases h : a < len
  · rw [if_neg (nI_ge h (by omega)), rdA_i rfl (by omega), if_pos h]
  · rw [if_pos (nI_le (by omega) (by omega)), if_neg h]
theorem nx1f {bytes : Nat → Int32} {f : Nat} {L x : Int32} (hf : f ≤ 50) : f_X1_next L x (nI f) bytes = some (-1) := by
  unfold f_X1_next
  rw [if_pos (nI_pos' (by omega))]
theorem nh7 {d bytes : Nat → Int32} {len a : Nat} (hl : len ≤ 50) (ha : a ≤ len) (hd : ∀ i, i < 50 → d (198 + i) = bytes i) : f_X7_here d 198 (nI a) (nI len) (-1) = some (nxB bytes len a) := by
  unfold f_X7_here nxB
  by_cases h : a < len
  · rw [if_neg (nI_ge h (by omega)), if_neg (by decide), rdA_i (show (198 : Int32) + nI a = nI (198 + a) from nI_add 198 a) (by omega), hd a (by omega), if_pos h]
  · rw [if_pos (nI_le (by omega) (by omega)), if_neg h]
theorem nh7f {d : Nat → Int32} {f : Nat} {b x L : Int32} (hf : f ≤ 50) : f_X7_here d b x L (nI f) = some (-1) := by
  unfold f_X7_here
  by_cases h : L ≤ x
  · rw [if_pos h]
  · rw [if_neg h, if_pos (nI_pos' (by omega))]
theorem emC1 {codes : Nat → Int32} {s : Nat} {v : Int32} (h : s < 50) : f_X1_emit codes (nI s) (-1) v = some (upd codes s v, nI (s + 1)) := by
  unfold f_X1_emit
  rw [if_neg (by decide), if_neg (show ¬ (50 : Int32) ≤ nI s from nI_ge (b := 50) h (by decide)), wrA_i rfl h]
  simp only [nmE]
  rw [nI_1]
theorem emC1f {codes : Nat → Int32} {f : Nat} {s v : Int32} (h : f ≤ 50) : f_X1_emit codes s (nI f) v = some (codes, s) := by
  unfold f_X1_emit
  rw [if_pos (nI_pos' (by omega))]
theorem la7 {code : Nat → Int32} {s : Nat} {v : Int32} (h : s < 60) : f_X7_lay (-1) code (nI s) v = some (upd code s v, nI (s + 1)) := by
  unfold f_X7_lay
  rw [if_neg (by decide), wrA_i rfl h]
  simp only [nmE]
  rw [nI_1]
theorem la7f {code : Nat → Int32} {f : Nat} {s v : Int32} (h : f ≤ 50) : f_X7_lay (nI f) code s v = some (code, s) := by
  unfold f_X7_lay
  rw [if_pos (nI_pos' (by omega))]
theorem st1x {x : Int32} : f_X1_stop x (-1) = some x := by
  unfold f_X1_stop
  rw [if_neg (by decide)]
theorem st1f {x : Int32} {f : Nat} (h : f ≤ 50) : f_X1_stop x (nI f) = some (nI f) := by
  unfold f_X1_stop
  rw [if_pos (nI_pos' (by omega))]
theorem wr7 {x : Int32} : f_X7_wrong x (-1) = some x := by
  unfold f_X7_wrong
  simp only [jnE]
  rw [if_neg (by decide)]
theorem wr7f {x : Int32} {f : Nat} (h : f ≤ 50) : f_X7_wrong x (nI f) = some (nI f) := by
  unfold f_X7_wrong
  simp only [jnE]
  rw [if_pos (nI_pos' (by omega))]
def MS (l : Nat) (x : Int32) : Prop := (l = 0 ∧ x = 124) ∨ (l = 1 ∧ x = 38) ∨ (l = 2 ∧ (x = 60 ∨ x = 61 ∨ x = 62)) ∨ (l = 3 ∧ (x = 43 ∨ x = 45)) ∨ (l = 4 ∧ (x = 42 ∨ x = 47 ∨ x = 37))
theorem ms0 {x : Int32} : MS 0 x ↔ x = 124 := by
  unfold MS
  constructor
  · rintro (⟨-, h⟩ | ⟨h, -⟩ | ⟨h, -⟩ | ⟨h, -⟩ | ⟨h, -⟩)
    · exact h
    · exact absurd h (by decide)
    · exact absurd h (by decide)
    · exact absurd h (by decide)
    · exact absurd h (by decide)
  · exact fun h => Or.inl ⟨rfl, h⟩
theorem ms1 {x : Int32} : MS 1 x ↔ x = 38 := by
  unfold MS
  constructor
  · rintro (⟨h, -⟩ | ⟨-, h⟩ | ⟨h, -⟩ | ⟨h, -⟩ | ⟨h, -⟩)
    · exact absurd h (by decide)
    · exact h
    · exact absurd h (by decide)
    · exact absurd h (by decide)
    · exact absurd h (by decide)
  · exact fun h => Or.inr (Or.inl ⟨rfl, h⟩)
theorem ms2 {x : Int32} : MS 2 x ↔ (x = 60 ∨ x = 61 ∨ x = 62) := by
  unfold MS
  constructor
  · rintro (⟨h, -⟩ | ⟨h, -⟩ | ⟨-, h⟩ | ⟨h, -⟩ | ⟨h, -⟩)
    · exact absurd h (by decide)
    · exact absurd h (by decide)
    · exact h
    · exact absurd h (by decide)
    · exact absurd h (by decide)
  · exact fun h => Or.inr (Or.inr (Or.inl ⟨rfl, h⟩))
theorem ms3 {x : Int32} : MS 3 x ↔ (x = 43 ∨ x = 45) := by
  unfold MS
  constructor
  · rintro (⟨h, -⟩ | ⟨h, -⟩ | ⟨h, -⟩ | ⟨-, h⟩ | ⟨h, -⟩)
    · exact absurd h (by decide)
    · exact absurd h (by decide)
    · exact absurd h (by decide)
    · exact h
    · exact absurd h (by decide)
  · exact fun h => Or.inr (Or.inr (Or.inr (Or.inl ⟨rfl, h⟩)))
theorem ms4 {x : Int32} : MS 4 x ↔ (x = 42 ∨ x = 47 ∨ x = 37) := by
  unfold MS
  constructor
  · rintro (⟨h, -⟩ | ⟨h, -⟩ | ⟨h, -⟩ | ⟨h, -⟩ | ⟨-, h⟩)
    · exact absurd h (by decide)
    · exact absurd h (by decide)
    · exact absurd h (by decide)
    · exact absurd h (by decide)
    · exact h
  · exact fun h => Or.inr (Or.inr (Or.inr (Or.inr ⟨rfl, h⟩)))
theorem ms_g {l : Nat} {x : Int32} (h : MS l x) : ∃ g, SG g ∧ x = nI g := by
  unfold MS at h
  unfold SG
  rcases h with ⟨-, rfl⟩ | ⟨-, rfl⟩ | ⟨-, rfl | rfl | rfl⟩ | ⟨-, rfl | rfl⟩ | ⟨-, rfl | rfl | rfl⟩
  · exact ⟨124, by decide, rfl⟩
  · exact ⟨38, by decide, rfl⟩
  · exact ⟨60, by decide, rfl⟩
  · exact ⟨61, by decide, rfl⟩
  · exact ⟨62, by decide, rfl⟩
  · exact ⟨43, by decide, rfl⟩
  · exact ⟨45, by decide, rfl⟩
  · exact ⟨42, by decide, rfl⟩
  · exact ⟨47, by decide, rfl⟩
  · exact ⟨37, by decide, rfl⟩
def lvI (x : Int32) : Int32 := if x = 37 then 4 else if x = 38 then 1 else if x = 42 then 4 else if x = 43 then 3 else if x = 45 then 3 else if x = 47 then 4 else if x = 60 then 2 else if x = 61 then 2 else if x = 62 then 2 else if x = 124 then 0 else -1
theorem lv_e (x : Int32) : f_X1_levelOf x = some (lvI x) := by
  unfold f_X1_levelOf lvI
  by_cases h1 : x = 37
  · rw [if_pos h1, if_pos h1]
  rw [if_neg h1, if_neg h1]
  by_cases h2 : x = 38
  · rw [if_pos h2, if_pos h2]
  rw [if_neg h2, if_neg h2]
  by_cases h3 : x = 42
  · rw [if_pos h3, if_pos h3]
  rw [if_neg h3, if_neg h3]
  by_cases h4 : x = 43
  · rw [if_pos h4, if_pos h4]
  rw [if_neg h4, if_neg h4]
  by_cases h5 : x = 45
  · rw [if_pos h5, if_pos h5]
  rw [if_neg h5, if_neg h5]
  by_cases h6 : x = 47
  · rw [if_pos h6, if_pos h6]
  rw [if_neg h6, if_neg h6]
  by_cases h7 : x = 60
  · rw [if_pos h7, if_pos h7]
  rw [if_neg h7, if_neg h7]
  by_cases h8 : x = 61
  · rw [if_pos h8, if_pos h8]
  rw [if_neg h8, if_neg h8]
  by_cases h9 : x = 62
  · rw [if_pos h9, if_pos h9]
  rw [if_neg h9, if_neg h9]
  by_cases h0 : x = 124
  · rw [if_pos h0, if_pos h0]
  rw [if_neg h0, if_neg h0]
theorem lv_ms {l : Nat} (hl : l < 5) (x : Int32) : lvI x = nI l ↔ MS l x := by
  constructor
  · intro h
    unfold lvI at h
    have dec : ∀ l, l < 5 → ((4 : Int32) = nI l → l = 4) ∧ ((3 : Int32) = nI l → l = 3) ∧ ((2 : Int32) = nI l → l = 2) ∧ ((1 : Int32) = nI l → l = 1) ∧ ((0 : Int32) = nI l → l = 0) ∧ ¬ (-1 : Int32) = nI l := by decide +kernel
    obtain ⟨k4, k3, k2, k1, k0, kn⟩ := dec l hl
    unfold MS
    by_cases h1 : x = 37
    · rw [if_pos h1] at h; exact Or.inr (Or.inr (Or.inr (Or.inr ⟨k4 h, Or.inr (Or.inr h1)⟩)))
    rw [if_neg h1] at h
    by_cases h2 : x = 38
    · rw [if_pos h2] at h; exact Or.inr (Or.inl ⟨k1 h, h2⟩)
    rw [if_neg h2] at h
    by_cases h3 : x = 42
    · rw [if_pos h3] at h; exact Or.inr (Or.inr (Or.inr (Or.inr ⟨k4 h, Or.inl h3⟩)))
    rw [if_neg h3] at h
    by_cases h4 : x = 43
    · rw [if_pos h4] at h; exact Or.inr (Or.inr (Or.inr (Or.inl ⟨k3 h, Or.inl h4⟩)))
    rw [if_neg h4] at h
    by_cases h5 : x = 45
    · rw [if_pos h5] at h; exact Or.inr (Or.inr (Or.inr (Or.inl ⟨k3 h, Or.inr h5⟩)))
    rw [if_neg h5] at h
    by_cases h6 : x = 47
    · rw [if_pos h6] at h; exact Or.inr (Or.inr (Or.inr (Or.inr ⟨k4 h, Or.inr (Or.inl h6)⟩)))
    rw [if_neg h6] at h
    by_cases h7 : x = 60
    · rw [if_pos h7] at h; exact Or.inr (Or.inr (Or.inl ⟨k2 h, Or.inl h7⟩))
    rw [if_neg h7] at h
    by_cases h8 : x = 61
    · rw [if_pos h8] at h; exact Or.inr (Or.inr (Or.inl ⟨k2 h, Or.inr (Or.inl h8)⟩))
    rw [if_neg h8] at h
    by_cases h9 : x = 62
    · rw [if_pos h9] at h; exact Or.inr (Or.inr (Or.inl ⟨k2 h, Or.inr (Or.inr h9)⟩))
    rw [if_neg h9] at h
    by_cases h0 : x = 124
    · rw [if_pos h0] at h; exact Or.inl ⟨k0 h, h0⟩
    rw [if_neg h0] at h
    exact absurd h kn
  · intro h
    unfold MS at h
    rcases h with ⟨rfl, rfl⟩ | ⟨rfl, rfl⟩ | ⟨rfl, rfl | rfl | rfl⟩ | ⟨rfl, rfl | rfl⟩ | ⟨rfl, rfl | rfl | rfl⟩ <;> decide
theorem cd_push {codes : Nat → Int32} {s t : Nat} {v : Int32} (h : cdepth codes s = some t) (hv : -3 ≤ v) : cdepth (upd codes s v) (s + 1) = some (t + 1) := by
  simp only [cdepth]
  rw [cd_congr (fun k hk => upd_n (f := codes) (v := v) (show k ≠ s by omega)), h]
  show cdp (upd codes s v s) t = _
  rw [upd_s]
  unfold cdp
  rw [if_pos hv]
theorem cd_op {codes : Nat → Int32} {s t g : Nat} (h : cdepth codes s = some (t + 2)) (hg : SG g) : cdepth (upd codes s (-nI g)) (s + 1) = some (t + 1) := by
  obtain ⟨g1, g2, g3⟩ := SG_neg hg
  simp only [cdepth]
  rw [cd_congr (fun k hk => upd_n (f := codes) (v := -nI g) (show k ≠ s by omega)), h]
  show cdp (upd codes s (-nI g) s) (t + 2) = _
  rw [upd_s]
  unfold cdp
  rw [if_neg g3, if_neg g2, if_pos (by omega)]
  rfl
theorem cd_bang {codes : Nat → Int32} {s t : Nat} (h : cdepth codes s = some (t + 1)) : cdepth (upd codes s (-33)) (s + 1) = some (t + 1) := by
  simp only [cdepth]
  rw [cd_congr (fun k hk => upd_n (f := codes) (v := -33) (show k ≠ s by omega)), h]
  show cdp (upd codes s (-33) s) (t + 1) = _
  rw [upd_s]
  unfold cdp
  rw [if_neg (by decide), if_pos rfl, if_pos (by omega)]
theorem cd_up {codes code : Nat → Int32} {s : Nat} {v w : Int32} (h : ∀ k, k < s → Cd (codes k) (code k)) (hv : Cd v w) : ∀ k, k < s + 1 → Cd (upd codes s v k) (upd code s w k) := by
  intro k hk
  by_cases e : k = s
  · subst e
    rw [upd_s, upd_s]
    exact hv
  · rw [upd_n e, upd_n e]
    exact h k (by omega)
theorem cd_sg {g : Nat} (h : SG g) : Cd (-nI g) (20000 + nI g) := by
  refine Or.inr (Or.inr (Or.inr (Or.inr ⟨g, ?_, rfl, nI_add 20000 g⟩)))
  simp only [List.mem_cons, List.not_mem_nil, or_false]
  exact Or.inr h
/-- how a piece of a text is read by both -/
def Out (len op lo s a t : Nat) (x : Option ((Nat → Int32) × Int32 × Int32 × Int32)) (y : Option (Int32 × Int32 × Int32 × (Nat → Int32) × Int32)) : Prop :=
  (∃ (codes' code' : Nat → Int32) (s' a' : Nat), x = some (codes', nI s', nI a', -1) ∧ y = some (nI a', -1, nI op, code', nI s') ∧ (∀ k, k < s' → Cd (codes' k) (code' k)) ∧ cdepth codes' s' = some t ∧ lo ≤ a' ∧ a' ≤ len ∧ s' + a ≤ s + a') ∨ (∃ (f : Nat) (codes' : Nat → Int32) (s' a' a2 o : Int32) (c : Nat → Int32) (cd : Int32), f ≤ 50 ∧ x = some (codes', s', a', nI f) ∧ y = some (a2, nI f, o, c, cd))
def SimP (len op : Nat) (cf : PC) (rf : PR) : Prop := ∀ (codes code : Nat → Int32) (s a t : Nat), (∀ k, k < s → Cd (codes k) (code k)) → cdepth codes s = some t → s ≤ a → a ≤ len → Out len op (a + 1) s a (t + 1) (cf codes (nI s) (nI a) (-1)) (rf (nI a) (-1) (nI op) code (nI s))
theorem L34_1 {rc0 : PL} {len l op b fu s a l4 : Nat} {use bnd : Int32} {bytes codes : Nat → Int32} (hl : len ≤ 50) (ha : a ≤ len) (h5 : l < 5) (hb : bnd = nI b) (hb2 : b ≤ 50) (hb3 : l4 < b) (h : MS l (nxB bytes len a)) : f_X1_readLevelB_L34 rc0 (nI len) use bytes (nI l) (nI op) bnd (fu + 1) codes (nI s) (nI a) (-1) (nI l4) = bd4 (rc0 codes (nI s) (nI len) use (nI (a + 1)) (-1) bytes (nI (l + 1)) (nI op)) (fun codes size at_ fault => bd2 (f_X1_emit codes size fault (-nxB bytes len a)) (fun codes size => f_X1_readLevelB_L34 rc0 (nI len) use bytes (nI l) (nI op) bnd fu codes size at_ fault (nI (l4 + 1)))) := by
  simp only [f_X1_readLevelB_L34, nmE, nI_1]
  rw [hb, if_neg (nI_ge hb3 (by omega)), nx1 hl ha, bdE1, lv_e, bdE1, if_pos ((lv_ms h5 _).mpr h), bdE1]
theorem L34_2 {rc0 : PL} {len l op b fu s a l4 : Nat} {use bnd : Int32} {bytes codes : Nat → Int32} (hl : len ≤ 50) (ha : a ≤ len) (h5 : l < 5) (h : ¬ MS l (nxB bytes len a)) : f_X1_readLevelB_L34 rc0 (nI len) use bytes (nI l) (nI op) bnd (fu + 1) codes (nI s) (nI a) (-1) (nI l4) = some (codes, nI s, nI a, -1) := by
  simp only [f_X1_readLevelB_L34, nmE]
  rw [nx1 hl ha, bdE1, lv_e, bdE1, if_neg (fun e => h ((lv_ms h5 _).mp e))]
  by_cases q : bnd ≤ nI l4
  · rw [if_pos q]
  · rw [if_neg q]
theorem L34_f {rc0 : PL} {len l op fu f : Nat} {use bnd s a l4 : Int32} {bytes codes : Nat → Int32} (hf : f ≤ 50) (h5 : l < 5) : f_X1_readLevelB_L34 rc0 (nI len) use bytes (nI l) (nI op) bnd (fu + 1) codes s a (nI f) l4 = some (codes, s, a, nI f) := by
  simp only [f_X1_readLevelB_L34, nmE]
  have e : ¬ lvI (-1) = nI l := by
    have : ∀ l, l < 5 → ¬ lvI (-1) = nI l := by decide +kernel
    exact this l h5
  rw [nx1f hf, bdE1, lv_e, bdE1, if_neg e]
  by_cases q : bnd ≤ l4
  · rw [if_pos q]
  · rw [if_neg q]
theorem ms_at {l len a : Nat} {bytes : Nat → Int32} (h : MS l (nxB bytes len a)) : a < len := by
  rcases Nat.lt_or_ge a len with q | q
  · exact q
  · have e : nxB bytes len a = -1 := if_neg (by omega)
    rw [e] at h
    obtain ⟨g, hg, e2⟩ := ms_g h
    rcases hg with rfl | rfl | rfl | rfl | rfl | rfl | rfl | rfl | rfl | rfl <;> exact absurd e2 (by decide)
theorem loop_sim {rc0 : PL} {len l op : Nat} {use : Int32} {bytes : Nat → Int32} {rsub : PR} {RLp : Nat → PR} (hl : len ≤ 50) (h5 : l < 5) (hs : SimP len op (fun codes size at_ fault => rc0 codes size (nI len) use at_ fault bytes (nI (l + 1)) (nI op)) rsub) (R1 : ∀ (fu a : Nat) (code : Nat → Int32) (s : Nat), a ≤ len → MS l (nxB bytes len a) → RLp (fu + 1) (nI a) (-1) (nI op) code (nI s) = bd5 (rsub (nI (a + 1)) (-1) (nI op) code (nI s)) (fun at_ f o c cd => bd2 (f_X7_lay f c cd (20000 + nxB bytes len a)) (fun c cd => RLp fu at_ f o c cd))) (R2 : ∀ (fu a : Nat) (code : Nat → Int32) (s : Nat), a ≤ len → ¬ MS l (nxB bytes len a) → RLp (fu + 1) (nI a) (-1) (nI op) code (nI s) = some (nI a, -1, nI op, code, nI s)) (R3 : ∀ (fu f : Nat) (at_ o cd : Int32) (c : Nat → Int32), f ≤ 50 → RLp (fu + 1) at_ (nI f) o c cd = some (at_, nI f, o, c, cd)) : ∀ (B a s t l4 fu fu2 : Nat) (codes code : Nat → Int32), len ≤ a + B → B < fu → B < fu2 → 2 * l4 ≤ a → (∀ k, k < s → Cd (codes k) (code k)) → cdepth codes s = some (t + 1) → s ≤ a → a ≤ len → Out len op a s a (t + 1) (f_X1_readLevelB_L34 rc0 (nI len) use bytes (nI l) (nI op) 50 fu codes (nI s) (nI a) (-1) (nI l4)) (RLp fu2 (nI a) (-1) (nI op) code (nI s)) := by
  intro B
  induction B with
  | zero =>
    intro a s t l4 fu fu2 codes code hB hf hf2 h4 hC hD hsa hal
    obtain ⟨fu, rfl⟩ : ∃ q, fu = q + 1 := ⟨fu - 1, by omega⟩
    obtain ⟨fu2, rfl⟩ : ∃ q, fu2 = q + 1 := ⟨fu2 - 1, by omega⟩
    have nm : ¬ MS l (nxB bytes len a) := fun h => by have := ms_at h; omega
    rw [L34_2 (b := 50) hl hal h5 nm, R2 fu2 a code s hal nm]
    exact Or.inl ⟨codes, code, s, a, rfl, rfl, hC, hD, Nat.le_refl _, hal, by omega⟩
  | succ B ih =>
    intro a s t l4 fu fu2 codes code hB hf hf2 h4 hC hD hsa hal
    obtain ⟨fu, rfl⟩ : ∃ q, fu = q + 1 := ⟨fu - 1, by omega⟩
    obtain ⟨fu2, rfl⟩ : ∃ q, fu2 = q + 1 := ⟨fu2 - 1, by omega⟩
    by_cases nm : MS l (nxB bytes len a)
    · have hlt := ms_at nm
      obtain ⟨g, hg, eg⟩ := ms_g nm
      rw [L34_1 (b := 50) (bnd := 50) hl hal h5 rfl (Nat.le_refl _) (by omega) nm, R1 fu2 a code s hal nm]
      rcases hs codes code s (a + 1) (t + 1) hC hD (by omega) (by omega) with ⟨c1, k1, s1, a1, e1, e2, hC1, hD1, hlo, ha1, hsl⟩ | ⟨f, c1, s1, a1, a2, o, k1, cd, hf50, e1, e2⟩
      · have e1' : rc0 codes (nI s) (nI len) use (nI (a + 1)) (-1) bytes (nI (l + 1)) (nI op) = some (c1, nI s1, nI a1, -1) := e1
        rw [e1', bdE4, e2, bdE5, eg, emC1 (by omega), bdE2, la7 (by omega), bdE2]
        rcases ih a1 (s1 + 1) t (l4 + 1) fu fu2 (upd c1 s1 (-nI g)) (upd k1 s1 (20000 + nI g)) (by omega) (by omega) (by omega) (by omega) (cd_up hC1 (cd_sg hg)) (cd_op hD1 hg) (by omega) ha1 with ⟨c2, k2, s2, a2, x1, x2, x3, x4, x5, x6, x7⟩ | w
        · exact Or.inl ⟨c2, k2, s2, a2, x1, x2, x3, x4, by omega, x6, by omega⟩
        · exact Or.inr w
      · have e1' : rc0 codes (nI s) (nI len) use (nI (a + 1)) (-1) bytes (nI (l + 1)) (nI op) = some (c1, s1, a1, nI f) := e1
        obtain ⟨fu, rfl⟩ : ∃ q, fu = q + 1 := ⟨fu - 1, by omega⟩
        obtain ⟨fu2, rfl⟩ : ∃ q, fu2 = q + 1 := ⟨fu2 - 1, by omega⟩
        rw [e1', bdE4, e2, bdE5, emC1f hf50, bdE2, la7f hf50, bdE2, L34_f hf50 h5, R3 fu2 f a2 o cd k1 hf50]
        exact Or.inr ⟨f, c1, s1, a1, a2, o, k1, cd, hf50, rfl, rfl⟩
    · rw [L34_2 (b := 50) hl hal h5 nm, R2 fu2 a code s hal nm]
      exact Or.inl ⟨codes, code, s, a, rfl, rfl, hC, hD, Nat.le_refl _, hal, by omega⟩
/-- a level of the class over the one behind it -/
theorem level_sim {rc0 : PL} {rc1 : (Nat → Int32) → Int32 → Int32 → Int32 → Int32 → Int32 → (Nat → Int32) → Int32 → Option ((Nat → Int32) × Int32 × Int32 × Int32)} {len l op : Nat} {use : Int32} {bytes : Nat → Int32} {rsub : PR} {RLp : Nat → PR} (hl : len ≤ 50) (h5 : l < 5) (h2 : l ≠ 2) (hs : SimP len op (fun codes size at_ fault => rc0 codes size (nI len) use at_ fault bytes (nI (l + 1)) (nI op)) rsub) (R1 : ∀ (fu a : Nat) (code : Nat → Int32) (s : Nat), a ≤ len → MS l (nxB bytes len a) → RLp (fu + 1) (nI a) (-1) (nI op) code (nI s) = bd5 (rsub (nI (a + 1)) (-1) (nI op) code (nI s)) (fun at_ f o c cd => bd2 (f_X7_lay f c cd (20000 + nxB bytes len a)) (fun c cd => RLp fu at_ f o c cd))) (R2 : ∀ (fu a : Nat) (code : Nat → Int32) (s : Nat), a ≤ len → ¬ MS l (nxB bytes len a) → RLp (fu + 1) (nI a) (-1) (nI op) code (nI s) = some (nI a, -1, nI op, code, nI s)) (R3 : ∀ (fu f : Nat) (at_ o cd : Int32) (c : Nat → Int32), f ≤ 50 → RLp (fu + 1) at_ (nI f) o c cd = some (at_, nI f, o, c, cd)) : SimP len op (fun codes size at_ fault => f_X1_readLevelB rc0 rc1 codes size (nI len) use at_ fault bytes (nI l) (nI op)) (fun at_ f o c cd => bd5 (rsub at_ f o c cd) (fun at_ f o c cd => RLp 300 at_ f o c cd)) := by
  intro codes code s a t hC hD hsa hal
  have n2 : ¬ nI l = 2 := by
    intro e
    exact h2 ((nI_eq (b := 2) (by omega) (by decide)).mp e)
  show Out len op (a + 1) s a (t + 1) (f_X1_readLevelB rc0 rc1 codes (nI s) (nI len) use (nI a) (-1) bytes (nI l) (nI op)) (bd5 (rsub (nI a) (-1) (nI op) code (nI s)) (fun at_ f o c cd => RLp 300 at_ f o c cd))
  unfold f_X1_readLevelB
  simp only [jnE, nI_1]
  rw [if_pos (show nI l < (5 : Int32) from nI_lt (b := 5) h5 (by decide))]
  rcases hs codes code s a t hC hD hsa hal with ⟨c1, k1, s1, a1, e1, e2, hC1, hD1, hlo, ha1, hsl⟩ | ⟨f, c1, s1, a1, a2, o, k1, cd, hf50, e1, e2⟩
  · have e1' : rc0 codes (nI s) (nI len) use (nI a) (-1) bytes (nI (l + 1)) (nI op) = some (c1, nI s1, nI a1, -1) := e1
    rw [e1', bdE4, if_neg n2, e2, bdE5]
    rcases loop_sim (rc0 := rc0) (use := use) hl h5 hs R1 R2 R3 50 a1 s1 t 0 300 300 c1 k1 (by omega) (by omega) (by omega) (by omega) hC1 hD1 (by omega) ha1 with ⟨c2, k2, s2, a2, x1, x2, x3, x4, x5, x6, x7⟩ | w
    · exact Or.inl ⟨c2, k2, s2, a2, x1, x2, x3, x4, by omega, x6, by omega⟩
    · exact Or.inr w
  · have e1' : rc0 codes (nI s) (nI len) use (nI a) (-1) bytes (nI (l + 1)) (nI op) = some (c1, s1, a1, nI f) := e1
    rw [e1', bdE4, if_neg n2, e2, bdE5]
    exact Or.inr ⟨f, c1, s1, a1, a2, o, k1, cd, hf50, L34_f (fu := 299) hf50 h5, R3 299 f a2 o cd k1 hf50⟩
