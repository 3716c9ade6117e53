/-! reading a text: units, all of it -/
theorem L58_0 {d bytes : Nat → Int32} {len a fu : Nat} {v : Int32} (hl : len ≤ 50) (ha : a ≤ len) (hd : ∀ i, i < 50 → d (198 + i) = bytes i) (h : ¬ dgI (nxB bytes len a)) (J : Int32 → Int32 → Int32 → Option ((Int32) × (Int32) × (Int32) × (Nat → Int32) × (Int32))) : f_X7_unit_L58 d 198 (nI len) (-1) J (fu + 1) (nI a) v 0 = J (nI a) v 0 := by
  simp only [f_X7_unit_L58]
  rw [if_neg (by decide), nh7 hl ha hd, bdE1, dg_in, bdE1, b01, if_neg (show ¬ (48 ≤ (nxB bytes len a).toInt ∧ (nxB bytes len a).toInt ≤ 57) from h)]
theorem nm_of {u len a : Nat} {bytes : Nat → Int32} (hl : len ≤ 50) (hu : u < 2) (hb : ∀ i, i < 50 → rg 255 (bytes i)) : ∃ kk, kk ≤ 3 ∧ f_X1_nameOf (nI u) (nxB bytes len a) = some (nI kk) ∧ f_X7_nameOf (nI u) (nxB bytes len a) = some (nI kk - 1) ∧ (0 < kk → a < len ∧ ¬ nxB bytes len a = 33 ∧ ¬ nxB bytes len a = 40 ∧ ¬ dgI (nxB bytes len a)) := by
  rcases Nat.lt_or_ge a len with q | q
  · have e : nxB bytes len a = bytes a := if_pos q
    obtain ⟨g, hg, eg⟩ := hb a (by omega)
    rw [e, eg]
    rcases nk_p u hu g (by omega) with z | ⟨z, y⟩
    · refine ⟨nkN u g, by omega, nk_1 u hu g (by omega), nk_7 u hu g (by omega), fun h => by omega⟩
    · refine ⟨nkN u g, z, nk_1 u hu g (by omega), nk_7 u hu g (by omega), fun h => ⟨q, fun w => ?_, fun w => ?_, fun w => ?_⟩⟩
      · have := (nI_eq (b := 33) (by omega) (by decide)).mp w
        omega
      · have := (nI_eq (b := 40) (by omega) (by decide)).mp w
        omega
      · unfold dgI at w
        rw [nI_toInt (by omega)] at w
        omega
  · have e : nxB bytes len a = -1 := if_neg (by omega)
    rw [e]
    exact ⟨0, by decide, (nk_m u hu).1, (nk_m u hu).2, fun h => absurd h (by decide)⟩
theorem cd_name : ∀ kk, 0 < kk → kk ≤ 3 → Cd (-nI kk) (10000 + (nI kk - 1)) ∧ -3 ≤ -nI kk := by
  intro kk h1 h2
  rcases (show kk = 1 ∨ kk = 2 ∨ kk = 3 by omega) with rfl | rfl | rfl
  · exact ⟨Or.inr (Or.inl ⟨by decide, by decide⟩), by decide⟩
  · exact ⟨Or.inr (Or.inr (Or.inl ⟨by decide, by decide⟩)), by decide⟩
  · exact ⟨Or.inr (Or.inr (Or.inr (Or.inl ⟨by decide, by decide⟩))), by decide⟩
theorem nx_lt {bytes : Nat → Int32} {len a : Nat} {v : Int32} (h : nxB bytes len a = v) (hv : ¬ v = -1) : a < len := by
  rcases Nat.lt_or_ge a len with q | q
  · exact q
  · have e : nxB bytes len a = -1 := if_neg (by omega)
    rw [e] at h
    exact absurd h.symm hv
theorem unit_sim {rc0 : PL} {rc1 : PQ} {len op u G : Nat} {bytes d : Nat → Int32} (hl : len ≤ 50) (hu : u < 2) (hop : op ≤ 5) (hb : ∀ i, i < 50 → rg 255 (bytes i)) (hd : ∀ i, i < 50 → d (198 + i) = bytes i) (H1 : op < 5 → SimP len (op + 1) (fun codes size at_ fault => rc1 codes size (nI len) (nI u) at_ fault bytes (nI (op + 1))) (fun at_ f o c cd => f_X7_unit (f_X7_opens G) d 198 at_ (nI len) f o (nI u) c cd)) (H2 : op < 5 → SimP len (op + 1) (fun codes size at_ fault => rc0 codes size (nI len) (nI u) at_ fault bytes (nI 0) (nI (op + 1))) (fun at_ f o c cd => f_X7_either (f_X7_opens G) d 198 at_ (nI len) f o (nI u) c cd)) : SimP len op (fun codes size at_ fault => f_X1_readQB rc0 rc1 codes size (nI len) (nI u) at_ fault bytes (nI op)) (fun at_ f o c cd => f_X7_unit (f_X7_opens (G + 1)) d 198 at_ (nI len) f o (nI u) c cd) := by
  intro codes code s a t hC hD hsa hal
  show Out len op (a + 1) s a (t + 1) (f_X1_readQB rc0 rc1 codes (nI s) (nI len) (nI u) (nI a) (-1) bytes (nI op)) (f_X7_unit (f_X7_opens (G + 1)) d 198 (nI a) (nI len) (-1) (nI op) (nI u) code (nI s))
  have c48 : (48 : Int32).toInt = 48 := by decide
  have c57 : (57 : Int32).toInt = 57 := by decide
  obtain ⟨kk, hk3, k1, k7, kp⟩ := nm_of (a := a) hl hu hb
  have nd : ¬ dgI (nxB bytes len a) → (nxB bytes len a < 48 ∨ 57 < nxB bytes len a) := by
    intro h
    unfold dgI at h
    rw [Int32.lt_iff_toInt_lt, Int32.lt_iff_toInt_lt]
    omega
  unfold f_X1_readQB f_X7_unit
  simp only [jnE, nmE, nI_1]
  rw [nx1 hl hal, bdE1, nh7 hl hal hd, bdE1, ifo]
  rcases Nat.eq_zero_or_pos kk with z | z
  · subst z
    by_cases g0 : dgI (nxB bytes len a)
    · -- a number
      obtain ⟨hlt, g, g1, g2, eg⟩ := dg_at hl hb g0
      obtain ⟨a', v', k', h1, h2, h3, h4, h5, h6, h7⟩ := num_sim hl hb hd 4 0 a 0 300 300 (by omega) (by omega) (by omega) hal (by decide)
      have hk' : 0 < k' := h5 g0 (by decide)
      have h6' : ∀ J : Int32 → Int32 → Option ((Nat → Int32) × (Int32) × (Int32)), f_X1_readNumber_L4 (nI len) (-1) bytes J 300 (nI a) 0 0 = J (nI a') (nI v') := h6
      have h7' : ∀ J : Int32 → Int32 → Int32 → Option ((Int32) × (Int32) × (Int32) × (Nat → Int32) × (Int32)), f_X7_unit_L58 d 198 (nI len) (-1) J 300 (nI a) 0 0 = J (nI a') (nI v') (nI k') := h7
      have x33 : ¬ nxB bytes len a = 33 := by
        intro w
        rw [eg] at w
        have := (nI_eq (b := 33) (by omega) (by decide)).mp w
        omega
      have x40 : ¬ nxB bytes len a = 40 := by
        intro w
        rw [eg] at w
        have := (nI_eq (b := 40) (by omega) (by decide)).mp w
        omega
      have nn : ¬ (nxB bytes len a < 48 ∨ 57 < nxB bytes len a) := by
        unfold dgI at g0
        rw [Int32.lt_iff_toInt_lt, Int32.lt_iff_toInt_lt]
        omega
      unfold f_X1_readNumber
      simp only [jnE]
      rw [if_neg nn, h6', emC1 (by omega), bdE2, bdE3, if_neg x33, if_neg x40, k7, bdE1, if_pos (by decide), h7', if_neg (nI_ne0 hk' (by omega)), la7 (by omega), bdE2]
      exact Or.inl ⟨_, _, s + 1, a', rfl, rfl, cd_up hC (Or.inl ⟨v', h3, rfl, rfl⟩), cd_push hD (num_neg h3).2.1, by omega, h2, by omega⟩
    · rw [if_pos (nd g0), k1, bdE1, if_pos (show nI 0 ≤ (0 : Int32) by decide)]
      by_cases x33 : nxB bytes len a = 33
      · have hlt := nx_lt x33 (by decide)
        rw [if_pos x33, if_pos x33, if_pos x33]
        by_cases h5 : op = 5
        · subst h5
          rw [if_pos (show (5 : Int32) ≤ nI 5 by decide), st1x, bdE1]
          show Out len 5 (a + 1) s a (t + 1) _ (bd5 (f_X7_opensB (f_X7_opens G) d 198 (nI a) (nI len) (-1) (nI 5) (nI u) code (nI s) (nxB bytes len a)) _)
          unfold f_X7_opensB
          rw [if_pos (show nI 5 = (5 : Int32) from rfl), wr7, bdE1, bdE5]
          exact Or.inr ⟨a, codes, nI s, nI a, nI a, nI 5, code, nI s, by omega, rfl, rfl⟩
        · have op5 : op < 5 := by omega
          rw [if_neg (show ¬ (5 : Int32) ≤ nI op from nI_ge (b := 5) op5 (by decide))]
          show Out len op (a + 1) s a (t + 1) _ (bd5 (f_X7_opensB (f_X7_opens G) d 198 (nI a) (nI len) (-1) (nI op) (nI u) code (nI s) (nxB bytes len a)) _)
          unfold f_X7_opensB
          simp only [jnE, nmE, nI_1]
          rw [if_neg (show ¬ nI op = (5 : Int32) from fun q => h5 ((nI_eq (b := 5) (by omega) (by decide)).mp q)), if_pos x33, x33]
          rcases H1 op5 codes code s (a + 1) t hC hD (by omega) (by omega) with ⟨c1, q1, s1, a1, e1, e2, hC1, hD1, hlo, ha1, hsl⟩ | ⟨f, c1, s1, a1, a2, o, q1, cd, hf50, e1, e2⟩
          · have e1' : rc1 codes (nI s) (nI len) (nI u) (nI (a + 1)) (-1) bytes (nI (op + 1)) = some (c1, nI s1, nI a1, -1) := e1
            have e2' : f_X7_unit (f_X7_opens G) d 198 (nI (a + 1)) (nI len) (-1) (nI (op + 1)) (nI u) code (nI s) = some (nI a1, -1, nI (op + 1), q1, nI s1) := e2
            rw [e1', bdE4, emC1 (by omega), bdE2, e2', bdE5, la7 (by omega), bdE2, bdE5, nI_pred]
            exact Or.inl ⟨_, _, s1 + 1, a1, rfl, rfl, cd_up hC1 (Or.inr (Or.inr (Or.inr (Or.inr ⟨33, by decide, rfl, rfl⟩)))), cd_bang hD1, by omega, ha1, by omega⟩
          · have e1' : rc1 codes (nI s) (nI len) (nI u) (nI (a + 1)) (-1) bytes (nI (op + 1)) = some (c1, s1, a1, nI f) := e1
            have e2' : f_X7_unit (f_X7_opens G) d 198 (nI (a + 1)) (nI len) (-1) (nI (op + 1)) (nI u) code (nI s) = some (a2, nI f, o, q1, cd) := e2
            rw [e1', bdE4, emC1f hf50, bdE2, e2', bdE5, la7f hf50, bdE2, bdE5]
            exact Or.inr ⟨f, c1, s1, a1, a2, o - 1, q1, cd, hf50, rfl, rfl⟩
      · rw [if_neg x33, if_neg x33, if_neg x33]
        by_cases x40 : nxB bytes len a = 40
        · have hlt := nx_lt x40 (by decide)
          rw [if_pos x40, if_pos x40]
          by_cases h5 : op = 5
          · subst h5
            rw [if_pos (show (5 : Int32) ≤ nI 5 by decide), st1x, bdE1]
            show Out len 5 (a + 1) s a (t + 1) _ (bd5 (f_X7_opensB (f_X7_opens G) d 198 (nI a) (nI len) (-1) (nI 5) (nI u) code (nI s) (nxB bytes len a)) _)
            unfold f_X7_opensB
            rw [if_pos (show nI 5 = (5 : Int32) from rfl), wr7, bdE1, bdE5]
            exact Or.inr ⟨a, codes, nI s, nI a, nI a, nI 5, code, nI s, by omega, rfl, rfl⟩
          · have op5 : op < 5 := by omega
            rw [if_neg (show ¬ (5 : Int32) ≤ nI op from nI_ge (b := 5) op5 (by decide))]
            show Out len op (a + 1) s a (t + 1) _ (bd5 (f_X7_opensB (f_X7_opens G) d 198 (nI a) (nI len) (-1) (nI op) (nI u) code (nI s) (nxB bytes len a)) _)
            unfold f_X7_opensB
            simp only [jnE, nmE, nI_1]
            rw [if_neg (show ¬ nI op = (5 : Int32) from fun q => h5 ((nI_eq (b := 5) (by omega) (by decide)).mp q)), if_neg x33]
            rcases H2 op5 codes code s (a + 1) t hC hD (by omega) (by omega) with ⟨c1, q1, s1, a1, e1, e2, hC1, hD1, hlo, ha1, hsl⟩ | ⟨f, c1, s1, a1, a2, o, q1, cd, hf50, e1, e2⟩
            · have e1' : rc0 codes (nI s) (nI len) (nI u) (nI (a + 1)) (-1) bytes 0 (nI (op + 1)) = some (c1, nI s1, nI a1, -1) := e1
              have e2' : f_X7_either (f_X7_opens G) d 198 (nI (a + 1)) (nI len) (-1) (nI (op + 1)) (nI u) code (nI s) = some (nI a1, -1, nI (op + 1), q1, nI s1) := e2
              rw [e1', bdE4, e2', bdE5]
              unfold f_X1_close f_X7_takes
              simp only [nmE, nI_1]
              rw [nx1 hl ha1, bdE1, nh7 hl ha1 hd, bdE1]
              by_cases y : nxB bytes len a1 = 41
              · have hlt1 := nx_lt y (by decide)
                rw [if_pos y, if_pos y, bdE2, bdE2, if_neg (by decide), bdE5, nI_pred]
                exact Or.inl ⟨_, _, s1, a1 + 1, rfl, rfl, hC1, hD1, by omega, by omega, by omega⟩
              · rw [if_neg y, if_neg y, st1x, bdE1, bdE2, bdE2, if_pos rfl, wr7, bdE1, bdE5]
                exact Or.inr ⟨a1, c1, nI s1, nI a1, nI a1, _, q1, nI s1, by omega, rfl, rfl⟩
            · have e1' : rc0 codes (nI s) (nI len) (nI u) (nI (a + 1)) (-1) bytes 0 (nI (op + 1)) = some (c1, s1, a1, nI f) := e1
              have e2' : f_X7_either (f_X7_opens G) d 198 (nI (a + 1)) (nI len) (-1) (nI (op + 1)) (nI u) code (nI s) = some (a2, nI f, o, q1, cd) := e2
              rw [e1', bdE4, e2', bdE5]
              unfold f_X1_close f_X7_takes
              simp only [nmE]
              rw [nx1f hf50, bdE1, if_neg (by decide), st1f hf50, bdE1, bdE2, nh7f hf50, bdE1, if_neg (by decide), bdE2, if_pos rfl, wr7f hf50, bdE1, bdE5]
              exact Or.inr ⟨f, c1, s1, a1, a2, _, q1, cd, hf50, rfl, rfl⟩
        · rw [if_neg x40, if_neg x40, st1x, bdE1, k7, bdE1, if_pos (by decide), show f_X7_unit_L58 d 198 (nI len) (-1) _ 300 (nI a) 0 0 = _ from L58_0 (fu := 299) hl hal hd g0 _, if_pos rfl, wr7, bdE1, la7f (by omega), bdE2]
          exact Or.inr ⟨a, codes, nI s, nI a, nI a, nI op, code, nI s, by omega, rfl, rfl⟩
  · -- a name
    obtain ⟨hlt, x33, x40, ng⟩ := kp z
    have p1 : ¬ (nI kk - 1) < 0 := by
      obtain ⟨q, rfl⟩ : ∃ q, kk = q + 1 := ⟨kk - 1, by omega⟩
      rw [nI_pred]
      exact nI_pos (by omega)
    obtain ⟨n1, n2⟩ := cd_name kk z hk3
    rw [if_pos (nd ng), k1, bdE1, if_neg (nI_nle z (by omega)), bdE1, emC1 (by omega), bdE2, if_neg x33, if_neg x40, k7, bdE1, if_neg p1, la7 (by omega), bdE2]
    exact Or.inl ⟨_, _, s + 1, a + 1, rfl, rfl, cd_up hC n1, cd_push hD n2, Nat.le_refl _, hlt, by omega⟩
theorem bd4_id {α1 α2 α3 α4 : Type} {x : Option (α1 × α2 × α3 × α4)} : bd4 x (fun a b c d => some (a, b, c, d)) = x := by
  rcases x with _ | ⟨a, b, c, d⟩ <;> rfl
theorem lev_sim {len op u F G : Nat} {bytes d : Nat → Int32} (hl : len ≤ 50) (hd : ∀ i, i < 50 → d (198 + i) = bytes i) (h : SimP len op (fun codes size at_ fault => (g_X1_readLevel F).2 codes size (nI len) (nI u) at_ fault bytes (nI op)) (fun at_ f o c cd => f_X7_unit (f_X7_opens G) d 198 at_ (nI len) f o (nI u) c cd)) : SimP len op (fun codes size at_ fault => (g_X1_readLevel (F + 6)).1 codes size (nI len) (nI u) at_ fault bytes (nI 0) (nI op)) (fun at_ f o c cd => f_X7_either (f_X7_opens G) d 198 at_ (nI len) f o (nI u) c cd) := by
  have h5 : SimP len op (fun codes size at_ fault => (g_X1_readLevel (F + 1)).1 codes size (nI len) (nI u) at_ fault bytes (nI (4 + 1)) (nI op)) (fun at_ f o c cd => f_X7_unit (f_X7_opens G) d 198 at_ (nI len) f o (nI u) c cd) := by
    have e : ∀ codes size at_ fault, (g_X1_readLevel (F + 1)).1 codes size (nI len) (nI u) at_ fault bytes (nI (4 + 1)) (nI op) = (g_X1_readLevel F).2 codes size (nI len) (nI u) at_ fault bytes (nI op) := by
      intro codes size at_ fault
      show f_X1_readLevelB (g_X1_readLevel F).1 (g_X1_readLevel F).2 codes size (nI len) (nI u) at_ fault bytes (nI 5) (nI op) = _
      unfold f_X1_readLevelB
      rw [if_neg (by decide)]
      exact bd4_id
    simp only [e]
    exact h
  have h4 := product_sim (rc0 := (g_X1_readLevel (F + 1)).1) (rc1 := (g_X1_readLevel (F + 1)).2) hl hd h5
  have h3 := sum_sim (rc0 := (g_X1_readLevel (F + 2)).1) (rc1 := (g_X1_readLevel (F + 2)).2) hl hd h4
  have h2 := compared_sim (rc0 := (g_X1_readLevel (F + 3)).1) (rc1 := (g_X1_readLevel (F + 3)).2) hl hd h3
  have h1 := both_sim (rc0 := (g_X1_readLevel (F + 4)).1) (rc1 := (g_X1_readLevel (F + 4)).2) hl hd h2
  exact either_sim (rc0 := (g_X1_readLevel (F + 5)).1) (rc1 := (g_X1_readLevel (F + 5)).2) hl hd h1
theorem read_sim {len u : Nat} {bytes d : Nat → Int32} (hl : len ≤ 50) (hu : u < 2) (hb : ∀ i, i < 50 → rg 255 (bytes i)) (hd : ∀ i, i < 50 → d (198 + i) = bytes i) : ∀ (m op F G : Nat), op + m = 5 → 7 * m + 1 ≤ F → m + 1 ≤ G → SimP len op (fun codes size at_ fault => (g_X1_readLevel F).2 codes size (nI len) (nI u) at_ fault bytes (nI op)) (fun at_ f o c cd => f_X7_unit (f_X7_opens G) d 198 at_ (nI len) f o (nI u) c cd) := by
  intro m
  induction m with
  | zero =>
    intro op F G h hF hG
    obtain ⟨F, rfl⟩ : ∃ q, F = q + 1 := ⟨F - 1, by omega⟩
    obtain ⟨G, rfl⟩ : ∃ q, G = q + 1 := ⟨G - 1, by omega⟩
    exact unit_sim (rc0 := (g_X1_readLevel F).1) (rc1 := (g_X1_readLevel F).2) hl hu (by omega) hb hd (fun q => by omega) (fun q => by omega)
  | succ m ih =>
    intro op F G h hF hG
    obtain ⟨F, rfl⟩ : ∃ q, F = q + 7 := ⟨F - 7, by omega⟩
    obtain ⟨G, rfl⟩ : ∃ q, G = q + 1 := ⟨G - 1, by omega⟩
    exact unit_sim (rc0 := (g_X1_readLevel (F + 6)).1) (rc1 := (g_X1_readLevel (F + 6)).2) hl hu (by omega) hb hd (fun q => ih (op + 1) (F + 6) G (by omega) (by omega) (by omega)) (fun q => lev_sim hl hd (ih (op + 1) F G (by omega) (by omega) (by omega)))
theorem text_sim {len u : Nat} {bytes d : Nat → Int32} (hl : len ≤ 50) (hu : u < 2) (hb : ∀ i, i < 50 → rg 255 (bytes i)) (hd : ∀ i, i < 50 → d (198 + i) = bytes i) (pc code0 : Nat → Int32) (ps pl pu pa pf b0 a0 s0 f0 o0 i0 cd0 : Int32) : (∃ (c' k' : Nat → Int32) (n : Nat) (L U A B At Sz Op Is : Int32), n ≤ 50 ∧ f_X1_read pc ps pl pu pa pf bytes (nI len) (nI u) = some (c', nI n, L, U, A, -1, -1) ∧ f_X7_reads d b0 a0 s0 f0 o0 i0 code0 cd0 198 (nI len) (nI u) = some (B, At, Sz, -1, Op, Is, k', nI n) ∧ (∀ k, k < n → Cd (c' k) (k' k)) ∧ cdepth c' n = some 1) ∨ (∃ (f : Nat) (c' k' : Nat → Int32) (S L U A B At Sz Op Is K : Int32), f ≤ 50 ∧ f_X1_read pc ps pl pu pa pf bytes (nI len) (nI u) = some (c', S, L, U, A, nI f, nI f) ∧ f_X7_reads d b0 a0 s0 f0 o0 i0 code0 cd0 198 (nI len) (nI u) = some (B, At, Sz, nI f, Op, Is, k', K)) := by
  have top := lev_sim (F := 42) (G := 7) (u := u) hl hd (read_sim hl hu hb hd 5 0 42 7 (by omega) (by omega) (by omega))
  have ml : minI (nI len) 50 = nI len := by
    unfold minI
    rw [if_neg (show ¬ (50 : Int32) < nI len from nI_nlt (a := 50) hl (by decide))]
  have rd : f_X7_reads d b0 a0 s0 f0 o0 i0 code0 cd0 198 (nI len) (nI u) = bd5 (f_X7_either (f_X7_opens 7) d 198 0 (nI len) (-1) 0 (nI u) code0 0) (fun v_at_2 v_fault_3 v_opened_4 v_code_5 v_coded_6 => (if 0 ≤ v_fault_3 then some (198, v_at_2, nI len, v_fault_3, v_opened_4, nI u, v_code_5, v_coded_6) else (if nI len ≤ v_at_2 then some (198, v_at_2, nI len, v_fault_3, v_opened_4, nI u, v_code_5, v_coded_6) else bd1 (f_X7_wrong v_at_2 v_fault_3) (fun v_fault_7 => some (198, v_at_2, nI len, v_fault_7, v_opened_4, nI u, v_code_5, v_coded_6))))) := by
    unfold f_X7_reads
    simp only [jnE]
    rcases (show u = 0 ∨ u = 1 by omega) with rfl | rfl
    · rw [if_neg (show ¬ nI 0 = (1 : Int32) by decide)]
      exact bzA_0
    · rw [if_pos (show nI 1 = (1 : Int32) from rfl)]
      exact bzA_1
  rw [rd]
  unfold f_X1_read
  simp only [nmE]
  rw [ml]
  rcases top pc code0 0 0 0 (fun k hk => absurd hk (Nat.not_lt_zero k)) rfl (Nat.le_refl _) (Nat.zero_le _) with ⟨c1, q1, s1, a1, e1, e2, hC1, hD1, hlo, ha1, hsl⟩ | ⟨f, c1, s1, a1, a2, o, q1, cd, hf50, e1, e2⟩
  · have e1' : (g_X1_readLevel 48).1 pc 0 (nI len) (nI u) 0 (-1) bytes 0 0 = some (c1, nI s1, nI a1, -1) := e1
    have e2' : f_X7_either (f_X7_opens 7) d 198 0 (nI len) (-1) 0 (nI u) code0 0 = some (nI a1, -1, nI 0, q1, nI s1) := e2
    rw [e1', bdE4, e2', bdE5, if_neg (show ¬ (0 : Int32) ≤ -1 by decide)]
    by_cases y : len ≤ a1
    · rw [if_pos (nI_le y (by omega)), if_pos (nI_le y (by omega))]
      exact Or.inl ⟨c1, q1, s1, _, _, _, _, _, _, _, _, by omega, rfl, rfl, hC1, hD1⟩
    · rw [if_neg (nI_ge (by omega) (by omega)), if_neg (nI_ge (by omega) (by omega)), st1x, bdE1, wr7, bdE1]
      exact Or.inr ⟨a1, c1, q1, _, _, _, _, _, _, _, _, _, _, by omega, rfl, rfl⟩
  · have e1' : (g_X1_readLevel 48).1 pc 0 (nI len) (nI u) 0 (-1) bytes 0 0 = some (c1, s1, a1, nI f) := e1
    have e2' : f_X7_either (f_X7_opens 7) d 198 0 (nI len) (-1) 0 (nI u) code0 0 = some (a2, nI f, o, q1, cd) := e2
    rw [e1', bdE4, e2', bdE5, if_pos (nI_pos' (by omega))]
    refine Or.inr ⟨f, c1, q1, s1, nI len, nI u, a1, 198, a2, nI len, o, nI u, cd, hf50, ?_, rfl⟩
    by_cases y : nI len ≤ a1
    · rw [if_pos y]
    · rw [if_neg y, st1f hf50, bdE1]
