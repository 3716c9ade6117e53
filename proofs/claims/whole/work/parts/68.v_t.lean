/-! plans, gone through by both -/
theorem day_sim {kind mark health quorum favour which d : Nat → Int32} {n mo S c C N k : Nat} (hn : n ≤ 8) (hmo : mo ≤ 6) (hS : S < 64) (hSm : S < 2 ^ mo) (hc : cntN S 6 = c) (hc3 : c ≤ 3) (q : QR quorum favour d) (h0 : d 0 = nI n) (hN0 : 0 < N) (hN : N ≤ 5) (hC : C < 125) (hk : k < 5) (hw : ∀ q, q < c → which q = nI (bitN S q)) (J6 : (Nat → Int32) → (Nat → Int32) → (Nat → Int32) → Int32 → Int32 → Option ((Nat → Int32) × (Nat → Int32) × (Int32) × (Nat → Int32) × (Nat → Int32) × (Nat → Int32) × (Nat → Int32) × (Nat → Int32) × (Nat → Int32) × (Int32))) (J7 : (Nat → Int32) → Int32 → Int32 → Int32 → Option ((Nat → Int32) × (Nat → Int32) × (Nat → Int32) × (Nat → Int32) × (Int32) × (Int32) × (Int32) × (Int32) × (Int32))) : ∀ (m i fu fu2 w P : Nat) (uh ub a b l5 l6 : Int32) (ho br op dk : Nat → Int32), i + m = mo → m < fu → m < fu2 → FW kind mark ho br op health → FD kind mark ho br op health dk → rg 999 uh → rg 999 ub → dk 2 = uh → dk 3 = ub → LD mo w dk → (cntN S i < c → l5 = nI (C % N ^ (c - cntN S i)) ∧ l6 = nI (N ^ (c - 1 - cntN S i))) → (∀ i, i ≠ 2 → i ≠ 3 → ¬ (10 ≤ i ∧ i < 58) → ¬ (60 ≤ i ∧ i < 76 ∧ i % 3 = 0) → dk i = d i) → ∃ (w' P' : Nat) (uh' ub' a' b' : Int32) (ho' br' op' d' : Nat → Int32), P' ≤ P + (c - cntN S i) ∧ f_X6_playPlan_L44 (nI mo) quorum favour (nI S) (nI N) (nI C) (nI n) kind mark health (nI k) J6 fu ho br op (nI w) (nI P) (nI (c - cntN S i)) (nI i) = J6 ho' br' op' (nI w') (nI P') ∧ f_X7_tries_L48 which (nI c) (nI N) (nI k) J7 fu2 dk a b (nI P) l5 l6 (nI (cntN S i)) = J7 d' a' b' (nI P') ∧ FW kind mark ho' br' op' health ∧ FD kind mark ho' br' op' health d' ∧ rg 999 uh' ∧ rg 999 ub' ∧ d' 2 = uh' ∧ d' 3 = ub' ∧ LD mo w' d' ∧ (∀ i, i ≠ 2 → i ≠ 3 → ¬ (10 ≤ i ∧ i < 58) → ¬ (60 ≤ i ∧ i < 76 ∧ i % 3 = 0) → d' i = d i) := by
  intro m
  induction m with
  | zero =>
    intro i fu fu2 w P uh ub a b l5 l6 ho br op dk him hf hf2 H D u2 u3 d2 d3 L hl F
    obtain ⟨fu, rfl⟩ : ∃ q, fu = q + 1 := ⟨fu - 1, by omega⟩
    obtain ⟨fu2, rfl⟩ : ∃ q, fu2 = q + 1 := ⟨fu2 - 1, by omega⟩
    obtain rfl : i = mo := by omega
    have e : cntN S i = c := (cn_mo i (by omega) S hS hSm).trans hc
    refine ⟨w, P, uh, ub, a, b, ho, br, op, dk, by omega, ?_, ?_, H, D, u2, u3, d2, d3, L, F⟩
    · simp only [f_X6_playPlan_L44]
      rw [if_pos (nI_le (Nat.le_refl _) (by omega))]
    · simp only [f_X7_tries_L48]
      rw [e, if_pos (nI_le (Nat.le_refl _) (by omega))]
  | succ m ih =>
    intro i fu fu2 w P uh ub a b l5 l6 ho br op dk him hf hf2 H D u2 u3 d2 d3 L hl F
    obtain ⟨fu, rfl⟩ : ∃ q, fu = q + 1 := ⟨fu - 1, by omega⟩
    have c1 := cn_s S hS i (by omega)
    have c2 := cn_le S hS (i + 1) (by omega)
    rw [hc] at c2
    have bt := cn_bt S hS i (by omega)
    by_cases z : S / 2 ^ i % 2 = 1
    · obtain ⟨fu2, rfl⟩ : ∃ q, fu2 = q + 1 := ⟨fu2 - 1, by omega⟩
      have cq : cntN S (i + 1) = cntN S i + 1 := by omega
      obtain ⟨qq, hqq⟩ : ∃ qq, qq = cntN S i := ⟨_, rfl⟩
      have wq : which qq = nI i := by rw [hw qq (by omega), hqq, cn_b S hS i (by omega) z]
      rw [← hqq] at hl cq c1 ⊢
      obtain ⟨pl, hpl⟩ : ∃ pl, c - qq = pl + 1 := ⟨c - qq - 1, by omega⟩
      obtain ⟨l5e, l6e⟩ := hl (by omega)
      rw [hpl] at l5e
      rw [show c - 1 - qq = pl by omega] at l6e
      have pb := pw_b (N := N) (c := pl) hN (by omega)
      have pp : 0 < N ^ pl := Nat.pow_pos hN0
      have dig : rmI (l5 / l6) (nI N) = nI (C / N ^ pl % N) := by
        have b1 : C % N ^ (pl + 1) ≤ C := Nat.mod_le _ _
        have b2 : C % N ^ (pl + 1) / N ^ pl ≤ C % N ^ (pl + 1) := Nat.div_le_self _ _
        rw [l5e, l6e, pk_div (by omega) pp (by omega), rm_nI (by omega) hN0 (by omega), Nat.pow_succ, Nat.mod_mul_right_div_self, Nat.mod_mod]
      have nxt : rmI l5 l6 = nI (C % N ^ pl) := by
        have b1 : C % N ^ (pl + 1) ≤ C := Nat.mod_le _ _
        rw [l5e, l6e, rm_nI (by omega) pp (by omega), Nat.pow_succ, Nat.mod_mod_of_dvd _ (Nat.dvd_mul_right _ _)]
      have hl6 : ¬ l6 = 0 := by rw [l6e]; exact nI_ne0 pp (by omega)
      have tl : ∀ (X : Int32 → Option ((Nat → Int32) × (Nat → Int32) × (Nat → Int32) × (Nat → Int32) × (Int32) × (Int32) × (Int32) × (Int32) × (Int32))), nzA l6 (if nI N ≤ 1 then nzA 1 (X (l6 / 1)) else nzA (nI N) (X (l6 / nI N))) = X (nI (N ^ pl / N)) := by
        intro X
        rw [nzA_k hl6, l6e]
        by_cases y : N = 1
        · rw [if_pos (show nI N ≤ 1 by rw [y]; decide), nzA_k (by decide), show nI (N ^ pl) / 1 = nI (N ^ pl / 1) from pk_div (d := 1) (by omega) (by decide) (by decide), y]
        · rw [if_neg (show ¬ nI N ≤ 1 from nI_ge (a := 1) (by omega) (by omega)), nzA_k (nI_ne0 hN0 (by omega)), pk_div (by omega) hN0 (by omega)]
      have dr : f_X6_dayInRow (nI C) (nI N) (nI pl) = some (nI (C / N ^ pl % N)) := e6_dir (by omega) hN0 (by omega) (by omega)
      have go : ∀ (w1 P1 : Nat) (uh1 ub1 a1 b1 : Int32) (ho1 br1 op1 d1 : Nat → Int32), P1 ≤ P + 1 → FW kind mark ho1 br1 op1 health → FD kind mark ho1 br1 op1 health d1 → rg 999 uh1 → rg 999 ub1 → d1 2 = uh1 → d1 3 = ub1 → LD mo w1 d1 → (∀ i, i ≠ 2 → i ≠ 3 → ¬ (10 ≤ i ∧ i < 58) → ¬ (60 ≤ i ∧ i < 76 ∧ i % 3 = 0) → d1 i = d i) → ∃ (w' P' : Nat) (uh' ub' a' b' : Int32) (ho' br' op' d' : Nat → Int32), P' ≤ P + (c - qq) ∧ f_X6_playPlan_L44 (nI mo) quorum favour (nI S) (nI N) (nI C) (nI n) kind mark health (nI k) J6 fu ho1 br1 op1 (nI w1) (nI P1) (nI pl) (nI (i + 1)) = J6 ho' br' op' (nI w') (nI P') ∧ nzA l6 (if nI N ≤ 1 then nzA 1 (f_X7_tries_L48 which (nI c) (nI N) (nI k) J7 fu2 d1 a1 b1 (nI P1) (rmI l5 l6) (l6 / 1) (nI (qq + 1))) else nzA (nI N) (f_X7_tries_L48 which (nI c) (nI N) (nI k) J7 fu2 d1 a1 b1 (nI P1) (rmI l5 l6) (l6 / nI N) (nI (qq + 1)))) = J7 d' a' b' (nI P') ∧ FW kind mark ho' br' op' health ∧ FD kind mark ho' br' op' health d' ∧ rg 999 uh' ∧ rg 999 ub' ∧ d' 2 = uh' ∧ d' 3 = ub' ∧ LD mo w' d' ∧ (∀ i, i ≠ 2 → i ≠ 3 → ¬ (10 ≤ i ∧ i < 58) → ¬ (60 ≤ i ∧ i < 76 ∧ i % 3 = 0) → d' i = d i) := by
        intro w1 P1 uh1 ub1 a1 b1 ho1 br1 op1 d1 hP H1 D1 g2 g3 f2 f3 L1 F1
        obtain ⟨w', P', uh', ub', a', b', ho', br', op', d', i1, i2, i3, i4⟩ := ih (i + 1) fu fu2 w1 P1 uh1 ub1 a1 b1 (rmI l5 l6) (nI (N ^ pl / N)) ho1 br1 op1 d1 (by omega) (by omega) (by omega) H1 D1 g2 g3 f2 f3 L1 (fun hlt => by
          rw [cq] at hlt ⊢
          obtain ⟨pm, hpm⟩ : ∃ pm, pl = pm + 1 := ⟨pl - 1, by omega⟩
          refine ⟨?_, ?_⟩
          · rw [nxt, show c - (qq + 1) = pl by omega]
          · rw [hpm, pw_div hN0, show c - 1 - (qq + 1) = pm by omega]) F1
        rw [cq] at i1 i2 i3
        rw [show c - (qq + 1) = pl by omega] at i1 i2
        refine ⟨w', P', uh', ub', a', b', ho', br', op', d', by omega, i2, ?_, i4⟩
        exact (tl (fun z => f_X7_tries_L48 which (nI c) (nI N) (nI k) J7 fu2 d1 a1 b1 (nI P1) (rmI l5 l6) z (nI (qq + 1)))).trans i3
      have hpl2 : nI (c - qq) = nI (pl + 1) := by rw [hpl]
      have bz : ¬ btI (nI S) (nI i) = 0 := by rw [bt, z]; decide
      have e6i : f_X6_isIn (nI S) (nI i) = some 1 := by rw [e6_isIn, if_neg bz]
      by_cases y : C / N ^ pl % N = k
      · -- the day of this one
        obtain ⟨q1, ⟨s, hs, q2⟩, q3, q4⟩ := q i (by omega)
        obtain ⟨d', a1, b1, e1, D2, V1, V2, L2, F2⟩ := e7_votes (d := dk) (mm := i) H hn ((F 0 (by omega) (by omega) (by omega) (by omega)).trans h0) u2 u3 d2 d3 L (by omega) ((F _ (by omega) (by omega) (by omega) (by omega)).trans (q4.trans q2)) hs D a b
        rw [F (58 + 3 * i) (by omega) (by omega) (by omega) (by omega), q3] at e1 L2
        have F3 : ∀ i, i ≠ 2 → i ≠ 3 → ¬ (10 ≤ i ∧ i < 58) → ¬ (60 ≤ i ∧ i < 76 ∧ i % 3 = 0) → d' i = d i := fun j h1 h2 h3 h4 => (F2 j h1 h2 h3 (by omega)).trans (F j h1 h2 h3 h4)
        have g2 := ur_rg (n := n) u2 hn (fun p hp => (cH_rg (p := p) H (by omega)).1)
        have g3 := ur_rg (n := n) u3 hn (fun p hp => (cH_rg (p := p) H (by omega)).2.1)
        rcases (wp01 (kind := kind) (mark := mark) (horn := ho) (brass := br) (health := health) (n := n) (s := nI s) (q := quorum i)) with r | r
        · rw [r] at e1 L2
          rw [if_pos rfl] at L2
          obtain ⟨w', P', uh', ub', a', b', ho', br', op', dd, i1, i2, i3, i4⟩ := go w P _ _ a1 b1 _ _ _ d' (by omega) H.cut D2 g2 g3 V1 V2 L2 F3
          refine ⟨w', P', uh', ub', a', b', ho', br', op', dd, i1, ?_, ?_, i4⟩
          · simp only [f_X6_playPlan_L44, jnE, nmE, nI_1]
            rw [if_neg (nI_ge (by omega) (by omega)), e6i, bdE1, if_neg (show ¬ (1 : Int32) = 0 by decide), hpl2, pk_m1, dr, bdE1, if_pos (by rw [y]), rdA_i rfl (by omega), rdA_i rfl (by omega), q2, e0_wouldPass H hn, bdE1, r, if_pos rfl, e0_cutAll H hn, bdE3]
            exact i2
          · simp only [f_X7_tries_L48, jnE, nmE, nI_1, Int32.add_zero]
            rw [if_neg (nI_ge (by omega) (by omega)), nzA_k hl6, nzA_k (nI_ne0 hN0 (by omega)), if_pos (by rw [dig, y]), rdA_i rfl (by omega), wq, e1, bdE4, if_pos rfl]
            exact i3
        · rw [r] at e1 L2
          rw [if_neg (by decide)] at L2
          obtain ⟨w', P', uh', ub', a', b', ho', br', op', dd, i1, i2, i3, i4⟩ := go (lawN w i) (P + 1) _ _ a1 b1 _ _ _ d' (by omega) H.cut D2 g2 g3 V1 V2 L2 F3
          refine ⟨w', P', uh', ub', a', b', ho', br', op', dd, i1, ?_, ?_, i4⟩
          · simp only [f_X6_playPlan_L44, jnE, nmE, nI_1]
            rw [if_neg (nI_ge (by omega) (by omega)), e6i, bdE1, if_neg (show ¬ (1 : Int32) = 0 by decide), hpl2, pk_m1, dr, bdE1, if_pos (by rw [y]), rdA_i rfl (by omega), rdA_i rfl (by omega), q2, e0_wouldPass H hn, bdE1, r, if_neg (show ¬ (1 : Int32) = 0 by decide), e0_cutAll H hn, bdE3, (lawN_e hmo (show i < mo by omega) L.2.1).2.1]
            exact i2
          · simp only [f_X7_tries_L48, jnE, nmE, nI_1, Int32.add_zero]
            rw [if_neg (nI_ge (by omega) (by omega)), nzA_k hl6, nzA_k (nI_ne0 hN0 (by omega)), if_pos (by rw [dig, y]), rdA_i rfl (by omega), wq, e1, bdE4, if_neg (show ¬ (1 : Int32) = 0 by decide)]
            exact i3
      · obtain ⟨w', P', uh', ub', a', b', ho', br', op', dd, i1, i2, i3, i4⟩ := go w P uh ub a b ho br op dk (by omega) H D u2 u3 d2 d3 L F
        have b3 : C / N ^ pl % N < N := Nat.mod_lt _ hN0
        have ny : ¬ nI (C / N ^ pl % N) = nI k := fun e => y ((nI_eq (by omega) (by omega)).mp e)
        refine ⟨w', P', uh', ub', a', b', ho', br', op', dd, i1, ?_, ?_, i4⟩
        · simp only [f_X6_playPlan_L44, jnE, nmE, nI_1]
          rw [if_neg (nI_ge (by omega) (by omega)), e6i, bdE1, if_neg (show ¬ (1 : Int32) = 0 by decide), hpl2, pk_m1, dr, bdE1, if_neg ny]
          exact i2
        · simp only [f_X7_tries_L48, jnE, nmE, nI_1, Int32.add_zero]
          rw [if_neg (nI_ge (by omega) (by omega)), nzA_k hl6, nzA_k (nI_ne0 hN0 (by omega)), dig, if_neg ny]
          exact i3
    · have cq : cntN S (i + 1) = cntN S i := by omega
      have bz : btI (nI S) (nI i) = 0 := by rw [bt, show S / 2 ^ i % 2 = 0 by omega]; rfl
      obtain ⟨w', P', uh', ub', a', b', ho', br', op', dd, i1, i2, i3, i4⟩ := ih (i + 1) fu fu2 w P uh ub a b l5 l6 ho br op dk (by omega) (by omega) (by omega) H D u2 u3 d2 d3 L (by rw [cq]; exact hl) F
      rw [cq] at i1 i2 i3
      refine ⟨w', P', uh', ub', a', b', ho', br', op', dd, i1, ?_, i3, i4⟩
      simp only [f_X6_playPlan_L44, jnE, nmE, nI_1]
      rw [if_neg (nI_ge (by omega) (by omega)), e6_isIn, if_pos bz, bdE1, if_pos rfl]
      exact i2
theorem play_sim {kind mark quorum favour which d f g : Nat → Int32} {n mo S c C N nc ng : Nat} {day winter : Int32} (hn : n ≤ 8) (hmo : mo ≤ 6) (hS : S < 64) (hSm : S < 2 ^ mo) (hc : cntN S 6 = c) (hc0 : 0 < c) (hc3 : c ≤ 3) (q : QR quorum favour d) (h0 : d 0 = nI n) (hN0 : 0 < N) (hN : N ≤ 5) (hC : C < N ^ c) (hw : ∀ q, q < c → which q = nI (bitN S q)) (h : TX f nc) (h2 : TD f nc 0 d) (hg : TX g ng) (hg2 : TD g ng 1 d) (h5 : d 5 = winter) (h6 : d 6 = day) (J7 : (Nat → Int32) → (Nat → Int32) → (Nat → Int32) → Int32 → Int32 → Int32 → Option ((Nat → Int32) × (Nat → Int32) × (Nat → Int32) × (Nat → Int32) × (Int32) × (Int32) × (Int32) × (Int32) × (Int32))) : ∀ (m k fu fu2 w P : Nat) (uh ub a b : Int32) (ho br op he dk st1 st2 names pile : Nat → Int32), k + m = N → m < fu → m < fu2 → FW kind mark ho br op he → FD kind mark ho br op he dk → rg 999 uh → rg 999 ub → dk 2 = uh → dk 3 = ub → LD mo w dk → dk 6 = day + nI k → P ≤ 3 * k → (∀ i, i ≠ 2 → i ≠ 3 → i ≠ 6 → ¬ (10 ≤ i ∧ i < 58) → ¬ (60 ≤ i ∧ i < 76 ∧ i % 3 = 0) → dk i = d i) → ∃ (P' : Nat) (a' b' : Int32) (ho' br' op' he' d' s1 s2 n' p' : Nat → Int32), P' ≤ 3 * N ∧ f_X6_playPlan_L29 (nI mo) quorum favour winter day 0 f (nI nc) 1 g (nI ng) (nI S) (nI N) (nI C) (nI n) kind mark fu st1 st2 ho br op he (nI w) (nI P) (nI k) = some (s1, s2, nI n, kind, mark, ho', br', op', he', nI (10 * P' + pcN (lvN he' n))) ∧ f_X7_tries_L9 which (nI c) (nI C) (nI N) J7 fu2 dk names pile a b (nI P) (nI k) = J7 d' n' p' a' b' (nI P') ∧ f_X7_alive d' = some (nI (pcN (lvN he' n))) ∧ ∀ i, 76 ≤ i → d' i = d i := by
  have hpow := pw_b (N := N) (c := c) hN hc3
  intro m
  induction m with
  | zero =>
    intro k fu fu2 w P uh ub a b ho br op he dk st1 st2 names pile hk hf hf2 H D u2 u3 d2 d3 L d6 hP F
    obtain ⟨fu, rfl⟩ : ∃ q, fu = q + 1 := ⟨fu - 1, by omega⟩
    obtain ⟨fu2, rfl⟩ : ∃ q, fu2 = q + 1 := ⟨fu2 - 1, by omega⟩
    obtain rfl : k = N := by omega
    refine ⟨P, a, b, ho, br, op, he, dk, st1, st2, names, pile, hP, ?_, ?_, e7_alive (fun p hp => (D p hp).2.2.2.2.2) ((F 0 (by omega) (by omega) (by omega) (by omega) (by omega)).trans h0) hn, fun i hi => F i (by omega) (by omega) (by omega) (by omega) (by omega)⟩
    · simp only [f_X6_playPlan_L29]
      rw [if_pos (nI_le (Nat.le_refl _) (by omega)), e0_living (fun p hp => (H p hp).2.2.2.2.2) hn, bdE1, pc_lv hn, bdE1, show (10 : Int32) * nI P = nI (10 * P) from pk_mul 10 P, nI_add]
    · simp only [f_X7_tries_L9]
      rw [if_pos (nI_le (Nat.le_refl _) (by omega))]
  | succ m ih =>
    intro k fu fu2 w P uh ub a b ho br op he dk st1 st2 names pile hk hf hf2 H D u2 u3 d2 d3 L d6 hP F
    obtain ⟨fu, rfl⟩ : ∃ q, fu = q + 1 := ⟨fu - 1, by omega⟩
    obtain ⟨fu2, rfl⟩ : ∃ q, fu2 = q + 1 := ⟨fu2 - 1, by omega⟩
    have z0 : cntN S 0 = 0 := rfl
    have hS8 : pcN S = c := (cn_pc S hS).trans hc
    -- the reference's row as it stands on this day
    have q2 : QR quorum favour dk := q.frame (fun i h1 h2 h3 => F i (by omega) (by omega) (by omega) (by omega) (by omega))
    have h02 : dk 0 = nI n := (F 0 (by omega) (by omega) (by omega) (by omega) (by omega)).trans h0
    obtain ⟨w', P', uh', ub', a', b', ho', br', op', d', i1, i2, i3, H2, D2, g2, g3, f2, f3, L2, F2⟩ := day_sim (d := dk) (C := C) (N := N) (k := k) hn hmo hS hSm hc hc3 q2 h02 hN0 hN (by omega) (by omega) hw (fun v_thought_horn_20 v_thought_brass_21 v_thought_open_22 l4_23 l5_24 => bd2 (f_X5_coldOf 1 g (nI ng) st2 (day + nI k) winter l4_23) (fun v_now_cold_stack_25 r_26 => bd2 (f_X0_passDay (nI n) kind mark v_thought_open_22 he 0 f (nI nc) st1 r_26) (fun v_thought_health_27 v_now_chill_stack_28 => f_X6_playPlan_L29 (nI mo) quorum favour winter day 0 f (nI nc) 1 g (nI ng) (nI S) (nI N) (nI C) (nI n) kind mark fu v_now_chill_stack_28 v_now_cold_stack_25 v_thought_horn_20 v_thought_brass_21 v_thought_open_22 v_thought_health_27 l4_23 l5_24 (nI (k + 1))))) (fun v_d_18 v_horn_19 v_brass_20 l3_21 => bd3 (f_X7_dayGoes v_d_18 names pile) (fun v_d_22 v_names_23 v_pile_24 => f_X7_tries_L9 which (nI c) (nI C) (nI N) J7 fu2 v_d_22 v_names_23 v_pile_24 v_horn_19 v_brass_20 l3_21 (nI (k + 1)))) mo 0 300 300 w P uh ub a b (nI C) (nI (N ^ (c - 1))) ho br op dk (by omega) (by omega) (by omega) H D u2 u3 d2 d3 L (fun _ => ⟨by rw [z0, Nat.sub_zero, Nat.mod_eq_of_lt hC], by rw [z0, Nat.sub_zero]⟩) (fun i _ _ _ _ => rfl)
    have F3 : ∀ i, i ≠ 2 → i ≠ 3 → i ≠ 6 → ¬ (10 ≤ i ∧ i < 58) → ¬ (60 ≤ i ∧ i < 76 ∧ i % 3 = 0) → d' i = d i := fun i x1 x2 x3 x4 x5 => (F2 i x1 x2 x4 x5).trans (F i x1 x2 x3 x4 x5)
    obtain ⟨t2, e2⟩ := e5_cold hg L2.w (day + nI k) winter st2
    obtain ⟨t1, e1⟩ := e0_passDay (c := clI g ng w' (day + nI k) winter) H2 hn h st1
    obtain ⟨d3', n1, p1, e3, D3, D6, F4⟩ := e7_day (n := n) (f := f) (g := g) (nc := nc) (ng := ng) (mo := mo) (w := w') (d := d') H2 hn ((F3 0 (by omega) (by omega) (by omega) (by omega) (by omega)).trans h0) h (h2.frame (fun i hi => F3 i (by omega) (by omega) (by omega) (by omega) (by omega))) hg (hg2.frame (fun i hi => F3 i (by omega) (by omega) (by omega) (by omega) (by omega))) L2 D2 names pile
    have d66 : d' 6 = day + nI k := (F2 6 (by omega) (by omega) (by omega) (by omega)).trans d6
    rw [d66, (F3 5 (by omega) (by omega) (by omega) (by omega) (by omega)).trans h5] at D3
    rw [d66, Int32.add_assoc, nI_1] at D6
    obtain ⟨P3, a3, b3, ho3, br3, op3, he3, dd, s1, s2, n3, p3, r1, r2, r3, r4⟩ := ih (k + 1) fu fu2 w' P' uh' ub' a' b' ho' br' op' _ d3' t1 t2 n1 p1 (by omega) (by omega) (by omega) H2.day D3 g2 g3 ((F4 2 (by unfold HP; omega) (by decide)).trans f2) ((F4 3 (by unfold HP; omega) (by decide)).trans f3) (L2.frame (fun i hi => F4 i (by unfold HP; omega) (by omega))) D6 (by omega) (fun i x1 x2 x3 x4 x5 => (F4 i (by unfold HP; omega) x3).trans (F3 i x1 x2 x3 x4 x5))
    refine ⟨P3, a3, b3, ho3, br3, op3, he3, dd, s1, s2, n3, p3, r1, ?_, ?_, r4⟩
    · simp only [f_X6_playPlan_L29, jnE, nmE, nI_1]
      rw [if_neg (nI_ge (by omega) (by omega)), pc_bits (show S < 256 by omega), bdE1, hS8]
      rw [z0, Nat.sub_zero] at i2
      refine Eq.trans i2 ?_
      show bd2 (f_X5_coldOf 1 g (nI ng) st2 (day + nI k) winter (nI w')) _ = _
      rw [e2, bdE2, e1, bdE2]
      exact r2
    · simp only [f_X7_tries_L9, jnE, nmE, nI_1]
      rw [if_neg (nI_ge (by omega) (by omega)), e7_pow hN hc0 hc3]
      rw [z0] at i3
      refine Eq.trans i3 ?_
      show bd3 (f_X7_dayGoes d' names pile) _ = _
      rw [e3, bdE3]
      exact r3
