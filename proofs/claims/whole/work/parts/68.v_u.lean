/-! plans, the best of them -/
def BI2 (best bw bp bl bc : Int32) : Prop := ∃ P L Cb, P ≤ 15 ∧ L ≤ 8 ∧ Cb < 125 ∧ best = nI Cb ∧ bw = nI (10 * P + L) ∧ bp = nI P ∧ bl = nI L ∧ bc = nI Cb
theorem bi_step {best bw bp bl bc : Int32} {P L C : Nat} (hP : P ≤ 15) (hL : L ≤ 8) (hC : C < 125) (hB : (best = 0 ∧ bw = -1 ∧ bc = -1) ∨ BI2 best bw bp bl bc) : ∃ best' bw' bp' bl' bc', BI2 best' bw' bp' bl' bc' ∧ (∀ {α : Type} (X : Int32 → Int32 → α), (if nI (10 * P + L) ≤ bw then X best bw else X (nI C) (nI (10 * P + L))) = X best' bw') ∧ (∀ {α : Type} (Y : Int32 → Int32 → Int32 → α), (if bc < 0 then Y (nI P) (nI L) (nI C) else (if bp < nI P then Y (nI P) (nI L) (nI C) else (if nI P = bp then (if nI L ≤ bl then Y bp bl bc else Y (nI P) (nI L) (nI C)) else Y bp bl bc))) = Y bp' bl' bc') := by
  have N : BI2 (nI C) (nI (10 * P + L)) (nI P) (nI L) (nI C) := ⟨P, L, C, hP, hL, hC, rfl, rfl, rfl, rfl, rfl⟩
  rcases hB with ⟨h1, h2, h3⟩ | ⟨P0, L0, C0, g1, g2, g3, rfl, rfl, rfl, rfl, rfl⟩
  · refine ⟨_, _, _, _, _, N, fun X => ?_, fun Y => ?_⟩
    · have e : ¬ nI (10 * P + L) ≤ bw := by
        rw [h2, Int32.le_iff_toInt_le, nI_toInt (by omega)]
        have : (-1 : Int32).toInt = -1 := by decide
        omega
      rw [if_neg e]
    · rw [if_pos (show bc < 0 by rw [h3]; decide)]
  · have O : BI2 (nI C0) (nI (10 * P0 + L0)) (nI P0) (nI L0) (nI C0) := ⟨P0, L0, C0, g1, g2, g3, rfl, rfl, rfl, rfl, rfl⟩
    have nb : ¬ nI C0 < 0 := nI_pos (by omega)
    by_cases x : 10 * P + L ≤ 10 * P0 + L0
    · refine ⟨_, _, _, _, _, O, fun X => if_pos (nI_le x (by omega)), fun Y => ?_⟩
      rw [if_neg nb, if_neg (nI_nlt (by omega) (by omega))]
      by_cases y : P = P0
      · rw [if_pos (by rw [y]), if_pos (nI_le (by omega) (by omega))]
      · rw [if_neg (fun e => y ((nI_eq (by omega) (by omega)).mp e))]
    · refine ⟨_, _, _, _, _, N, fun X => if_neg (nI_ge (by omega) (by omega)), fun Y => ?_⟩
      rw [if_neg nb]
      by_cases y : P0 < P
      · rw [if_pos (nI_lt y (by omega))]
      · have e : P = P0 := by omega
        rw [if_neg (nI_nlt (by omega) (by omega)), if_pos (by rw [e]), if_neg (nI_ge (by omega) (by omega))]
theorem tries_sim {kind mark horn brass open_ health quorum favour which d f g : Nat → Int32} {n mo S c C N nc ng w : Nat} {day winter uh ub : Int32} (H : FW kind mark horn brass open_ health) (D : FD kind mark horn brass open_ health d) (hn : n ≤ 8) (hmo : mo ≤ 6) (hS : S < 64) (hSm : S < 2 ^ mo) (hc : cntN S 6 = c) (hc0 : 0 < c) (hc3 : c ≤ 3) (q : QR quorum favour d) (h0 : d 0 = nI n) (hN0 : 0 < N) (hN : N ≤ 5) (hC : C < N ^ c) (hw : ∀ q, q < c → which q = nI (bitN S q)) (h : TX f nc) (h2 : TD f nc 0 d) (hg : TX g ng) (hg2 : TD g ng 1 d) (hl : LD mo w d) (u2 : rg 999 uh) (u3 : rg 999 ub) (d2 : d 2 = uh) (d3 : d 3 = ub) (h5 : d 5 = winter) (h6 : d 6 = day) {best bw bp bl bc : Int32} (hB : (best = 0 ∧ bw = -1 ∧ bc = -1) ∨ BI2 best bw bp bl bc) (ts a b : Int32) (st1 st2 tk tm th tb to tl aside names pile : Nat → Int32) : ∃ (r best' bw' bp' bl' bc' ts' a' b' : Int32) (s1 s2 tk' tm' th' tb' to' tl' n' p' : Nat → Int32), BI2 best' bw' bp' bl' bc' ∧ f_X6_playPlan (nI n) kind mark horn brass open_ health (nI mo) quorum favour (nI w) winter day 0 f (nI nc) st1 1 g (nI ng) st2 ts tk tm th tb to tl (nI S) (nI N) (nI C) = some (s1, s2, ts', tk', tm', th', tb', to', tl', r) ∧ (∀ {α : Type} (X : Int32 → Int32 → α), (if r ≤ bw then X best bw else X (nI C) r) = X best' bw') ∧ f_X7_tries d aside names pile a b which (nI c) bp bl bc (nI C) (nI N) = some (d, ovF d aside 76, n', p', a', b', bp', bl', bc') := by
  have hpow := pw_b (N := N) (c := c) hN hc3
  have D0 : FD (ovF kind tk 8) (ovF mark tm 8) (ovF horn th 8) (ovF brass tb 8) (ovF open_ to 8) (ovF health tl 8) d := D.cp
  obtain ⟨P, a', b', ho, br, op, he, d', s1, s2, n', p', hP, e1, e2, e3, F⟩ := play_sim (kind := ovF kind tk 8) (mark := ovF mark tm 8) hn hmo hS hSm hc hc0 hc3 q h0 hN0 hN hC hw h h2 hg hg2 h5 h6 (fun v_d_2 v_names_3 v_pile_4 v_horn_5 v_brass_6 l3_7 => bd1 (f_X7_alive v_d_2) (fun r_8 => bd1 (f_X7_putBack v_d_2 (ovF d aside 76)) (fun v_d_9 => jnA (some (v_d_9, ovF d aside 76, v_names_3, v_pile_4, v_horn_5, v_brass_6, l3_7, r_8, nI C)) (fun J171 => (if bc < 0 then J171 else (if bp < l3_7 then J171 else (if l3_7 = bp then (if r_8 ≤ bl then some (v_d_9, ovF d aside 76, v_names_3, v_pile_4, v_horn_5, v_brass_6, bp, bl, bc) else J171) else some (v_d_9, ovF d aside 76, v_names_3, v_pile_4, v_horn_5, v_brass_6, bp, bl, bc)))))))) N 0 300 300 w 0 uh ub a b (ovF horn th 8) (ovF brass tb 8) (ovF open_ to 8) (ovF health tl 8) d st1 st2 names pile (by omega) (by omega) (by omega) H.cp D0 u2 u3 d2 d3 hl (by rw [show nI 0 = (0 : Int32) from rfl, Int32.add_zero]; exact h6) (by omega) (fun i _ _ _ _ _ => rfl)
  have L8 := pc8 (lvN he n)
  obtain ⟨best', bw', bp', bl', bc', g1, g2, g3⟩ := bi_step (P := P) (L := pcN (lvN he n)) (C := C) (by omega) L8 (by omega) hB
  refine ⟨nI (10 * P + pcN (lvN he n)), best', bw', bp', bl', bc', nI n, a', b', s1, s2, ovF kind tk 8, ovF mark tm 8, ho, br, op, he, n', p', g1, ?_, g2, ?_⟩
  · unfold f_X6_playPlan
    rw [e0_copy, bdE7]
    exact e1
  · unfold f_X7_tries
    rw [e7_keep, bdE1, jnE]
    refine Eq.trans e2 ?_
    show bd1 (f_X7_alive d') _ = _
    rw [e3, bdE1, e7_back F, bdE1, jnE]
    exact g3 (fun u v z => some (d, ovF d aside 76, n', p', a', b', u, v, z))
theorem plan_loop {kind mark horn brass open_ health quorum favour which d f g : Nat → Int32} {n mo S c N nc ng w : Nat} {day winter uh ub : Int32} (H : FW kind mark horn brass open_ health) (D : FD kind mark horn brass open_ health d) (hn : n ≤ 8) (hmo : mo ≤ 6) (hS : S < 64) (hSm : S < 2 ^ mo) (hc : cntN S 6 = c) (hc0 : 0 < c) (hc3 : c ≤ 3) (q : QR quorum favour d) (h0 : d 0 = nI n) (hN0 : 0 < N) (hN : N ≤ 5) (hw : ∀ q, q < c → which q = nI (bitN S q)) (h : TX f nc) (h2 : TD f nc 0 d) (hg : TX g ng) (hg2 : TD g ng 1 d) (hl : LD mo w d) (u2 : rg 999 uh) (u3 : rg 999 ub) (d2 : d 2 = uh) (d3 : d 3 = ub) (h5 : d 5 = winter) (h6 : d 6 = day) : ∀ (m k fu fu2 : Nat) (best bw bp bl bc ts a b : Int32) (st1 st2 tk tm th tb to tl aside names pile : Nat → Int32), k + m = N ^ c → m < fu → m < fu2 → ((k = 0 ∧ best = 0 ∧ bw = -1 ∧ bc = -1) ∨ BI2 best bw bp bl bc) → ∃ (best' bw' bp' bl' bc' ts' a' b' : Int32) (s1 s2 tk' tm' th' tb' to' tl' as' n' p' : Nat → Int32), BI2 best' bw' bp' bl' bc' ∧ (∀ J6 : (Nat → Int32) → (Nat → Int32) → Int32 → (Nat → Int32) → (Nat → Int32) → (Nat → Int32) → (Nat → Int32) → (Nat → Int32) → (Nat → Int32) → Int32 → Int32 → Option ((Nat → Int32) × (Nat → Int32) × (Int32) × (Nat → Int32) × (Nat → Int32) × (Nat → Int32) × (Nat → Int32) × (Nat → Int32) × (Nat → Int32) × (Nat → Int32) × (Int32)), f_X6_plan_L102 (nI n) kind mark horn brass open_ health (nI mo) quorum favour (nI w) winter day 0 f (nI nc) 1 g (nI ng) (nI S) (nI N) (nI (N ^ c)) J6 fu st1 st2 ts tk tm th tb to tl best bw (nI k) = J6 s1 s2 ts' tk' tm' th' tb' to' tl' best' bw') ∧ (∀ J7 : (Nat → Int32) → (Nat → Int32) → (Nat → Int32) → (Nat → Int32) → Int32 → Int32 → Int32 → Int32 → Int32 → Option ((Nat → Int32) × (Nat → Int32) × (Nat → Int32) × (Nat → Int32) × (Nat → Int32) × (Int32) × (Int32) × (Nat → Int32) × (Int32) × (Int32) × (Int32) × (Int32) × (Int32)), f_X7_plan_L201 (nI N) which (nI c) (nI (N ^ c)) J7 fu2 d aside names pile a b bp bl bc (nI k) = J7 d as' n' p' a' b' bp' bl' bc') := by
  have hpow := pw_b (N := N) (c := c) hN hc3
  have hpp : 0 < N ^ c := Nat.pow_pos hN0
  intro m
  induction m with
  | zero =>
    intro k fu fu2 best bw bp bl bc ts a b st1 st2 tk tm th tb to tl aside names pile hk hf hf2 hB
    obtain ⟨fu, rfl⟩ : ∃ q, fu = q + 1 := ⟨fu - 1, by omega⟩
    obtain ⟨fu2, rfl⟩ : ∃ q, fu2 = q + 1 := ⟨fu2 - 1, by omega⟩
    refine ⟨best, bw, bp, bl, bc, ts, a, b, st1, st2, tk, tm, th, tb, to, tl, aside, names, pile, hB.resolve_left (fun e => absurd e.1 (by omega)), fun J6 => ?_, fun J7 => ?_⟩
    · simp only [f_X6_plan_L102]
      rw [if_pos (nI_le (by omega) (by omega))]
    · simp only [f_X7_plan_L201]
      rw [if_pos (nI_le (by omega) (by omega))]
  | succ m ih =>
    intro k fu fu2 best bw bp bl bc ts a b st1 st2 tk tm th tb to tl aside names pile hk hf hf2 hB
    obtain ⟨fu, rfl⟩ : ∃ q, fu = q + 1 := ⟨fu - 1, by omega⟩
    obtain ⟨fu2, rfl⟩ : ∃ q, fu2 = q + 1 := ⟨fu2 - 1, by omega⟩
    obtain ⟨r, best1, bw1, bp1, bl1, bc1, ts1, a1, b1, s1, s2, tk1, tm1, th1, tb1, to1, tl1, n1, p1, B1, e1, x1, e2⟩ := tries_sim (C := k) H D hn hmo hS hSm hc hc0 hc3 q h0 hN0 hN (by omega) hw h h2 hg hg2 hl u2 u3 d2 d3 h5 h6 (hB.imp (fun e => e.2) (fun e => e)) ts a b st1 st2 tk tm th tb to tl aside names pile
    obtain ⟨best2, bw2, bp2, bl2, bc2, ts2, a2, b2, s12, s22, tk2, tm2, th2, tb2, to2, tl2, as2, n2, p2, B2, i1, i2⟩ := ih (k + 1) fu fu2 best1 bw1 bp1 bl1 bc1 ts1 a1 b1 s1 s2 tk1 tm1 th1 tb1 to1 tl1 (ovF d aside 76) n1 p1 (by omega) (by omega) (by omega) (Or.inr B1)
    refine ⟨best2, bw2, bp2, bl2, bc2, ts2, a2, b2, s12, s22, tk2, tm2, th2, tb2, to2, tl2, as2, n2, p2, B2, fun J6 => ?_, fun J7 => ?_⟩
    · simp only [f_X6_plan_L102, jnE, nmE, nI_1]
      rw [if_neg (nI_ge (by omega) (by omega)), e1, bdE10]
      refine (x1 (fun u v => f_X6_plan_L102 (nI n) kind mark horn brass open_ health (nI mo) quorum favour (nI w) winter day 0 f (nI nc) 1 g (nI ng) (nI S) (nI N) (nI (N ^ c)) J6 fu s1 s2 ts1 tk1 tm1 th1 tb1 to1 tl1 u v (nI (k + 1)))).trans ?_
      exact i1 J6
    · simp only [f_X7_plan_L201, nmE, nI_1]
      rw [if_neg (nI_ge (by omega) (by omega)), e2, bdE9]
      exact i2 J7
theorem rngG {α : Type} {x c : Int32} {a b : α} (n : Nat) (hc : c.toInt = (n : Int) - 1) : (if x < 1 then a else (if c < x then a else b)) = if inb x n = true ∧ x ≠ 0 then b else a := by
  rw [← rngF n hc]
  by_cases h1 : x < 1
  · rw [if_pos h1, if_pos h1]
  · rw [if_neg h1, if_neg h1]
    by_cases h2 : c < x
    · rw [if_pos h2, if_neg (Int32.not_le.mpr h2)]
    · rw [if_neg h2, if_pos (Int32.not_lt.mp h2)]
theorem bc_some (x : Int32) : ∃ r, f_J6_bitCount_0f7a4 x = some r := ⟨_, rfl⟩
