/-! reading a text: the reference's levels, units -/
theorem L34_b {rc0 : PL} {use bnd L l op s a f l4 : Int32} {fu : Nat} {bytes codes : Nat → Int32} (h : bnd ≤ l4) : f_X1_readLevelB_L34 rc0 L use bytes l op bnd (fu + 1) codes s a f l4 = some (codes, s, a, f) := by
  simp only [f_X1_readLevelB_L34]
  rw [if_pos h]
abbrev PO := (Nat → Int32) → Int32 → Int32 → Int32 → Int32 → Int32 → Int32 → (Nat → Int32) → Int32 → Int32 → Option (Int32 × Int32 × Int32 × (Nat → Int32) × Int32)
abbrev PQ := (Nat → Int32) → Int32 → Int32 → Int32 → Int32 → Int32 → (Nat → Int32) → Int32 → Option ((Nat → Int32) × Int32 × Int32 × Int32)
theorem product_sim {rc0 : PL} {rc1 : PQ} {rc : PO} {len op : Nat} {use isC : Int32} {bytes d : Nat → Int32} (hl : len ≤ 50) (hd : ∀ i, i < 50 → d (198 + i) = bytes i) (hs : SimP len op (fun codes size at_ fault => rc0 codes size (nI len) use at_ fault bytes (nI (4 + 1)) (nI op)) (fun at_ f o c cd => f_X7_unit rc d 198 at_ (nI len) f o isC c cd)) : SimP len op (fun codes size at_ fault => f_X1_readLevelB rc0 rc1 codes size (nI len) use at_ fault bytes (nI 4) (nI op)) (fun at_ f o c cd => f_X7_product rc d 198 at_ (nI len) f o isC c cd) := by
  refine level_sim (RLp := fun fu at_ f o c cd => f_X7_product_L4 rc d 198 (nI len) isC fu at_ f o c cd) hl (by decide) (by decide) hs (fun fu a code s ha h => ?_) (fun fu a code s ha h => ?_) (fun fu f at_ o cd c hf => ?_)
  · simp only [f_X7_product_L4, jnE, nmE, nI_1, nh7 hl ha hd, bdE1]
    rw [ifo, ifo, if_pos (or_assoc.mpr (ms4.mp h))]
  · simp only [f_X7_product_L4, jnE, nmE, nI_1, nh7 hl ha hd, bdE1]
    rw [ifo, ifo, if_neg (fun q => h (ms4.mpr (or_assoc.mp q)))]
  · simp only [f_X7_product_L4, jnE, nmE, nh7f hf, bdE1]
    rw [if_neg (by decide), if_neg (by decide), if_neg (by decide)]
theorem sum_sim {rc0 : PL} {rc1 : PQ} {rc : PO} {len op : Nat} {use isC : Int32} {bytes d : Nat → Int32} (hl : len ≤ 50) (hd : ∀ i, i < 50 → d (198 + i) = bytes i) (hs : SimP len op (fun codes size at_ fault => rc0 codes size (nI len) use at_ fault bytes (nI (3 + 1)) (nI op)) (fun at_ f o c cd => f_X7_product rc d 198 at_ (nI len) f o isC c cd)) : SimP len op (fun codes size at_ fault => f_X1_readLevelB rc0 rc1 codes size (nI len) use at_ fault bytes (nI 3) (nI op)) (fun at_ f o c cd => f_X7_sum rc d 198 at_ (nI len) f o isC c cd) := by
  refine level_sim (RLp := fun fu at_ f o c cd => f_X7_sum_L4 rc d 198 (nI len) isC fu at_ f o c cd) hl (by decide) (by decide) hs (fun fu a code s ha h => ?_) (fun fu a code s ha h => ?_) (fun fu f at_ o cd c hf => ?_)
  · simp only [f_X7_sum_L4, jnE, nmE, nI_1, nh7 hl ha hd, bdE1]
    rw [ifo, if_pos (ms3.mp h)]
  · simp only [f_X7_sum_L4, jnE, nmE, nI_1, nh7 hl ha hd, bdE1]
    rw [ifo, if_neg (fun q => h (ms3.mpr q))]
  · simp only [f_X7_sum_L4, jnE, nmE, nh7f hf, bdE1]
    rw [if_neg (by decide), if_neg (by decide)]
theorem both_sim {rc0 : PL} {rc1 : PQ} {rc : PO} {len op : Nat} {use isC : Int32} {bytes d : Nat → Int32} (hl : len ≤ 50) (hd : ∀ i, i < 50 → d (198 + i) = bytes i) (hs : SimP len op (fun codes size at_ fault => rc0 codes size (nI len) use at_ fault bytes (nI (1 + 1)) (nI op)) (fun at_ f o c cd => f_X7_compared rc d 198 at_ (nI len) f o isC c cd)) : SimP len op (fun codes size at_ fault => f_X1_readLevelB rc0 rc1 codes size (nI len) use at_ fault bytes (nI 1) (nI op)) (fun at_ f o c cd => f_X7_both rc d 198 at_ (nI len) f o isC c cd) := by
  refine level_sim (RLp := fun fu at_ f o c cd => f_X7_both_L4 rc d 198 (nI len) isC fu at_ f o c cd) hl (by decide) (by decide) hs (fun fu a code s ha h => ?_) (fun fu a code s ha h => ?_) (fun fu f at_ o cd c hf => ?_)
  · simp only [f_X7_both_L4, f_X7_takes, nmE, nI_1, nh7 hl ha hd, bdE1]
    rw [if_pos (ms1.mp h), bdE2, if_neg (by decide), ms1.mp h]
    rfl
  · simp only [f_X7_both_L4, f_X7_takes, nmE, nI_1, nh7 hl ha hd, bdE1]
    rw [if_neg (fun q => h (ms1.mpr q)), bdE2, if_pos rfl]
  · simp only [f_X7_both_L4, f_X7_takes, nmE, nh7f hf, bdE1]
    rw [if_neg (by decide), bdE2, if_pos rfl]
theorem either_sim {rc0 : PL} {rc1 : PQ} {rc : PO} {len op : Nat} {use isC : Int32} {bytes d : Nat → Int32} (hl : len ≤ 50) (hd : ∀ i, i < 50 → d (198 + i) = bytes i) (hs : SimP len op (fun codes size at_ fault => rc0 codes size (nI len) use at_ fault bytes (nI (0 + 1)) (nI op)) (fun at_ f o c cd => f_X7_both rc d 198 at_ (nI len) f o isC c cd)) : SimP len op (fun codes size at_ fault => f_X1_readLevelB rc0 rc1 codes size (nI len) use at_ fault bytes (nI 0) (nI op)) (fun at_ f o c cd => f_X7_either rc d 198 at_ (nI len) f o isC c cd) := by
  refine level_sim (RLp := fun fu at_ f o c cd => f_X7_either_L4 rc d 198 (nI len) isC fu at_ f o c cd) hl (by decide) (by decide) hs (fun fu a code s ha h => ?_) (fun fu a code s ha h => ?_) (fun fu f at_ o cd c hf => ?_)
  · simp only [f_X7_either_L4, f_X7_takes, nmE, nI_1, nh7 hl ha hd, bdE1]
    rw [if_pos (ms0.mp h), bdE2, if_neg (by decide), ms0.mp h]
    rfl
  · simp only [f_X7_either_L4, f_X7_takes, nmE, nI_1, nh7 hl ha hd, bdE1]
    rw [if_neg (fun q => h (ms0.mpr q)), bdE2, if_pos rfl]
  · simp only [f_X7_either_L4, f_X7_takes, nmE, nh7f hf, bdE1]
    rw [if_neg (by decide), bdE2, if_pos rfl]
theorem compared_sim {rc0 : PL} {rc1 : PQ} {rc : PO} {len op : Nat} {use isC : Int32} {bytes d : Nat → Int32} (hl : len ≤ 50) (hd : ∀ i, i < 50 → d (198 + i) = bytes i) (hs : SimP len op (fun codes size at_ fault => rc0 codes size (nI len) use at_ fault bytes (nI (2 + 1)) (nI op)) (fun at_ f o c cd => f_X7_sum rc d 198 at_ (nI len) f o isC c cd)) : SimP len op (fun codes size at_ fault => f_X1_readLevelB rc0 rc1 codes size (nI len) use at_ fault bytes (nI 2) (nI op)) (fun at_ f o c cd => f_X7_compared rc d 198 at_ (nI len) f o isC c cd) := by
  intro codes code s a t hC hD hsa hal
  show Out len op (a + 1) s a (t + 1) (f_X1_readLevelB rc0 rc1 codes (nI s) (nI len) use (nI a) (-1) bytes (nI 2) (nI op)) (f_X7_compared rc d 198 (nI a) (nI len) (-1) (nI op) isC code (nI s))
  unfold f_X1_readLevelB f_X7_compared
  simp only [jnE, nI_1, nmE]
  rw [if_pos (show nI 2 < (5 : Int32) by decide)]
  have e2 : nI 2 = (2 : Int32) := rfl
  rcases hs codes code s a t hC hD hsa hal with ⟨c1, k1, s1, a1, q1, q2, hC1, hD1, hlo, ha1, hsl⟩ | ⟨f, c1, s1, a1, a2, o, k1, cd, hf50, q1, q2⟩
  · have q1' : rc0 codes (nI s) (nI len) use (nI a) (-1) bytes (nI (2 + 1)) (nI op) = some (c1, nI s1, nI a1, -1) := q1
    have q2' : f_X7_sum rc d 198 (nI a) (nI len) (-1) (nI op) isC code (nI s) = some (nI a1, -1, nI op, k1, nI s1) := q2
    rw [q1', bdE4, if_pos e2, q2', bdE5, nh7 hl ha1 hd, bdE1, ifo, ifo]
    by_cases nm : MS 2 (nxB bytes len a1)
    · have hlt := ms_at nm
      obtain ⟨g, hg, eg⟩ := ms_g nm
      rw [if_pos (or_assoc.mpr (ms2.mp nm))]
      rw [show f_X1_readLevelB_L34 rc0 (nI len) use bytes (nI 2) (nI op) 1 300 c1 (nI s1) (nI a1) (-1) 0 = _ from L34_1 (b := 1) (bnd := 1) (fu := 299) (l4 := 0) hl ha1 (by decide) rfl (by decide) (by decide) nm]
      simp only [nI_1]
      rcases hs c1 k1 s1 (a1 + 1) (t + 1) hC1 hD1 (by omega) (by omega) with ⟨c2, k2, s2, a2, r1, r2, hC2, hD2, hlo2, ha2, hsl2⟩ | ⟨f, c2, s2, a2, a3, o, k2, cd, hf50, r1, r2⟩
      · have r1' : rc0 c1 (nI s1) (nI len) use (nI (a1 + 1)) (-1) bytes (nI (2 + 1)) (nI op) = some (c2, nI s2, nI a2, -1) := r1
        have r2' : f_X7_sum rc d 198 (nI (a1 + 1)) (nI len) (-1) (nI op) isC k1 (nI s1) = some (nI a2, -1, nI op, k2, nI s2) := r2
        rw [r1', bdE4, r2', bdE5, eg, emC1 (by omega), bdE2, la7 (by omega), bdE2]
        exact Or.inl ⟨upd c2 s2 (-nI g), upd k2 s2 (20000 + nI g), s2 + 1, a2, L34_b (by decide), rfl, cd_up hC2 (cd_sg hg), cd_op hD2 hg, by omega, ha2, by omega⟩
      · have r1' : rc0 c1 (nI s1) (nI len) use (nI (a1 + 1)) (-1) bytes (nI (2 + 1)) (nI op) = some (c2, s2, a2, nI f) := r1
        have r2' : f_X7_sum rc d 198 (nI (a1 + 1)) (nI len) (-1) (nI op) isC k1 (nI s1) = some (a3, nI f, o, k2, cd) := r2
        rw [r1', bdE4, r2', bdE5, emC1f hf50, bdE2, la7f hf50, bdE2]
        exact Or.inr ⟨f, c2, s2, a2, a3, o, k2, cd, hf50, L34_b (by decide), rfl⟩
    · rw [if_neg (fun q => nm (ms2.mpr (or_assoc.mp q)))]
      exact Or.inl ⟨c1, k1, s1, a1, L34_2 (b := 1) (fu := 299) (l4 := 0) hl ha1 (by decide) nm, rfl, hC1, hD1, hlo, ha1, hsl⟩
  · have q1' : rc0 codes (nI s) (nI len) use (nI a) (-1) bytes (nI (2 + 1)) (nI op) = some (c1, s1, a1, nI f) := q1
    have q2' : f_X7_sum rc d 198 (nI a) (nI len) (-1) (nI op) isC code (nI s) = some (a2, nI f, o, k1, cd) := q2
    rw [q1', bdE4, if_pos e2, q2', bdE5, nh7f hf50, bdE1, if_neg (by decide), if_neg (by decide), if_neg (by decide)]
    exact Or.inr ⟨f, c1, s1, a1, a2, o, k1, cd, hf50, L34_f (fu := 299) hf50 (by decide), rfl⟩
/-- names -/
def nkN (u g : Nat) : Nat := if u = 0 then (if g = 99 then 1 else if g = 111 then 2 else if g = 104 then 3 else 0) else (if g = 100 then 1 else if g = 119 then 2 else if g = 108 then 3 else 0)
theorem nk_1 : ∀ u, u < 2 → ∀ g, g < 256 → f_X1_nameOf (nI u) (nI g) = some (nI (nkN u g)) := by decide +kernel
theorem nk_7 : ∀ u, u < 2 → ∀ g, g < 256 → f_X7_nameOf (nI u) (nI g) = some (nI (nkN u g) - 1) := by decide +kernel
theorem nk_m : ∀ u, u < 2 → f_X1_nameOf (nI u) (-1) = some 0 ∧ f_X7_nameOf (nI u) (-1) = some (-1) := by decide +kernel
theorem nk_p : ∀ u, u < 2 → ∀ g, g < 256 → (nkN u g = 0 ∨ (nkN u g ≤ 3 ∧ (g = 99 ∨ g = 111 ∨ g = 104 ∨ g = 100 ∨ g = 119 ∨ g = 108))) := by decide +kernel
def dgI (x : Int32) : Prop := 48 ≤ x.toInt ∧ x.toInt ≤ 57
theorem dg_at {bytes : Nat → Int32} {len a : Nat} (hl : len ≤ 50) (hb : ∀ i, i < 50 → rg 255 (bytes i)) (h : dgI (nxB bytes len a)) : a < len ∧ ∃ g, 48 ≤ g ∧ g ≤ 57 ∧ nxB bytes len a = nI g := by
  rcases Nat.lt_or_ge a len with q | q
  · refine ⟨q, ?_⟩
    have e : nxB bytes len a = bytes a := if_pos q
    obtain ⟨g, hg, eg⟩ := hb a (by omega)
    rw [e, eg] at h ⊢
    unfold dgI at h
    rw [nI_toInt (by omega)] at h
    exact ⟨g, by omega, by omega, rfl⟩
  · have e : nxB bytes len a = -1 := if_neg (by omega)
    rw [e] at h
    have : (-1 : Int32).toInt = -1 := by decide
    unfold dgI at h
    omega
theorem dg_in (x : Int32) : f_X7_in (x.toInt64) 48 57 = some (if 48 ≤ x.toInt ∧ x.toInt ≤ 57 then 1 else 0) := by
  rw [e7_in, Int32.toInt_toInt64]
  have h1 : (48 : Int64).toInt = 48 := by decide
  have h2 : (57 : Int64).toInt = 57 := by decide
  rw [h1, h2]
theorem num_sim {bytes d : Nat → Int32} {len : Nat} (hl : len ≤ 50) (hb : ∀ i, i < 50 → rg 255 (bytes i)) (hd : ∀ i, i < 50 → d (198 + i) = bytes i) : ∀ (m k a v fu fu2 : Nat), k + m = 4 → m < fu → m < fu2 → a ≤ len → v < 10 ^ k → ∃ a' v' k', a ≤ a' ∧ a' ≤ len ∧ v' ≤ 9999 ∧ a' + k = a + k' ∧ (dgI (nxB bytes len a) → k < 4 → k < k') ∧ (∀ J : Int32 → Int32 → Option ((Nat → Int32) × (Int32) × (Int32)), f_X1_readNumber_L4 (nI len) (-1) bytes J fu (nI a) (nI v) (nI k) = J (nI a') (nI v')) ∧ (∀ J : Int32 → Int32 → Int32 → Option ((Int32) × (Int32) × (Int32) × (Nat → Int32) × (Int32)), f_X7_unit_L58 d 198 (nI len) (-1) J fu2 (nI a) (nI v) (nI k) = J (nI a') (nI v') (nI k')) := by
  have c48 : (48 : Int32).toInt = 48 := by decide
  have c57 : (57 : Int32).toInt = 57 := by decide
  intro m
  induction m with
  | zero =>
    intro k a v fu fu2 hk hf hf2 ha hv
    obtain ⟨fu, rfl⟩ : ∃ q, fu = q + 1 := ⟨fu - 1, by omega⟩
    obtain ⟨fu2, rfl⟩ : ∃ q, fu2 = q + 1 := ⟨fu2 - 1, by omega⟩
    obtain rfl : k = 4 := by omega
    have p4 : 10 ^ 4 = 10000 := by decide
    refine ⟨a, v, 4, Nat.le_refl _, ha, by omega, rfl, fun _ h => absurd h (by decide), fun J => ?_, fun J => ?_⟩
    · simp only [f_X1_readNumber_L4]
      rw [if_pos (show (4 : Int32) ≤ nI 4 by decide)]
    · simp only [f_X7_unit_L58]
      rw [if_pos (show (4 : Int32) ≤ nI 4 by decide)]
  | succ m ih =>
    intro k a v fu fu2 hk hf hf2 ha hv
    obtain ⟨fu, rfl⟩ : ∃ q, fu = q + 1 := ⟨fu - 1, by omega⟩
    obtain ⟨fu2, rfl⟩ : ∃ q, fu2 = q + 1 := ⟨fu2 - 1, by omega⟩
    have n4 : ¬ (4 : Int32) ≤ nI k := nI_ge (b := 4) (by omega) (by decide)
    have pk4 : 10 ^ k ≤ 1000 := Nat.pow_le_pow_right (n := 10) (by decide) (show k ≤ 3 by omega)
    by_cases g0 : dgI (nxB bytes len a)
    · obtain ⟨hlt, g, g1, g2, eg⟩ := dg_at hl hb g0
      have ps : 10 ^ (k + 1) = 10 ^ k * 10 := Nat.pow_succ ..
      have ev : ((10 : Int32) * nI v + nI g) - 48 = nI (10 * v + g - 48) := by
        rw [show (10 : Int32) * nI v = nI (10 * v) from pk_mul 10 v, nI_add, show nI (10 * v + g) - 48 = nI (10 * v + g - 48) from pk_sub (b := 48) (by omega)]
      obtain ⟨a', v', k', h1, h2, h3, h4, h5, h6, h7⟩ := ih (k + 1) (a + 1) (10 * v + g - 48) fu fu2 (by omega) (by omega) (by omega) (by omega) (by omega)
      refine ⟨a', v', k', by omega, h2, h3, by omega, fun _ _ => by omega, fun J => ?_, fun J => ?_⟩
      · simp only [f_X1_readNumber_L4, nmE, nI_1]
        rw [if_neg n4, nx1 hl ha, bdE1, eg, if_neg (show ¬ nI g < 48 from nI_nlt (b := 48) (by omega) (by omega)), bdE1, if_neg (show ¬ (57 : Int32) < nI g from nI_nlt (a := 57) (by omega) (by decide)), bdE1, ev]
        exact h6 J
      · simp only [f_X7_unit_L58, nmE, nI_1]
        rw [if_neg n4, nh7 hl ha hd, bdE1, dg_in, bdE1, b01, if_pos (show 48 ≤ (nxB bytes len a).toInt ∧ (nxB bytes len a).toInt ≤ 57 from g0), bdE1, eg, ev]
        exact h7 J
    · refine ⟨a, v, k, Nat.le_refl _, ha, by omega, rfl, fun h => absurd h g0, fun J => ?_, fun J => ?_⟩
      · simp only [f_X1_readNumber_L4, nmE]
        rw [if_neg n4, nx1 hl ha, bdE1]
        by_cases x : nxB bytes len a < 48
        · rw [if_pos x]
        · rw [if_neg x, bdE1, if_pos]
          unfold dgI at g0
          rw [Int32.lt_iff_toInt_lt] at x ⊢
          omega
      · simp only [f_X7_unit_L58, nmE]
        rw [if_neg n4, nh7 hl ha hd, bdE1, dg_in, bdE1, b01, if_neg (show ¬ (48 ≤ (nxB bytes len a).toInt ∧ (nxB bytes len a).toInt ≤ 57) from g0)]
