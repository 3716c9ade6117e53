/-! sewing, feeding, images -/
theorem row0 : f_X0_rowOf (nI 0) = some 3 := rfl
theorem row1 : f_X0_rowOf (nI 1) = some 4 := rfl
theorem lb8 {x : Int64} {u : UInt64} {v : Int64} (s : Nat) (hs : s ≤ 56) (hu : (u.toBitVec % 64).toNat = s) (hv : (v.toBitVec.smod 64).toNat = s) : ((x.toUInt64 >>> u).toInt64 &&& 255) = ((x >>> v) &&& 255) := by
  apply Int64.toBitVec_inj.mp
  have e1 : ((x.toUInt64 >>> u).toInt64).toBitVec = x.toBitVec >>> s := by
    rw [← hu]
    exact UInt64.toBitVec_shiftRight _ _
  have e2 : (x >>> v).toBitVec = x.toBitVec.sshiftRight s := by
    rw [← hv]
    rfl
  show ((x.toUInt64 >>> u).toInt64).toBitVec &&& (255 : Int64).toBitVec = (x >>> v).toBitVec &&& (255 : Int64).toBitVec
  rw [e1, e2]
  apply BitVec.eq_of_getLsbD_eq
  intro i hi
  rw [BitVec.getLsbD_and, BitVec.getLsbD_and]
  by_cases h : i < 8
  · rw [BitVec.getLsbD_ushiftRight, BitVec.getLsbD_sshiftRight, if_pos (by omega)]
    have e : decide (64 ≤ i) = false := decide_eq_false (by omega)
    rw [e]
    rfl
  · have e : ∀ i, i < 64 → ¬ i < 8 → (255 : Int64).toBitVec.getLsbD i = false := by decide +kernel
    rw [e i hi h, Bool.and_false, Bool.and_false]
theorem by255 (y : Int64) : rg 255 (y &&& 255).toInt32 := by
  have e1 : (y &&& 255).toBitVec.toNat = y.toBitVec.toNat % 256 := by
    rw [Int64.toBitVec_and, BitVec.toNat_and]
    have e2 : (255 : Int64).toBitVec.toNat = 2 ^ 8 - 1 := by decide
    rw [e2, Nat.and_two_pow_sub_one_eq_mod]
  have e3 : (y &&& 255).toInt = ((y.toBitVec.toNat % 256 : Nat) : Int) := by
    show (y &&& 255).toBitVec.toInt = _
    rw [BitVec.toInt_eq_toNat_of_lt (by rw [e1]; omega), e1]
  refine ⟨y.toBitVec.toNat % 256, by omega, Int32.toInt_inj.mp ?_⟩
  rw [Int64.toInt_toInt32, e3, nI_toInt (by omega)]
  exact Int.bmod_eq_of_le (by omega) (by omega)
theorem fd8 (x : Int64) {k : Nat} (hk : k < 8) : ((ushL x (8 * nI k)) &&& 255).toInt32 = ((shrL x (8 * nI k)) &&& 255).toInt32 := by
  unfold ushL shrL
  congr 1
  rcases (show k = 0 ∨ k = 1 ∨ k = 2 ∨ k = 3 ∨ k = 4 ∨ k = 5 ∨ k = 6 ∨ k = 7 by omega) with rfl | rfl | rfl | rfl | rfl | rfl | rfl | rfl
  · exact lb8 0 (by decide) (by decide) (by decide)
  · exact lb8 8 (by decide) (by decide) (by decide)
  · exact lb8 16 (by decide) (by decide) (by decide)
  · exact lb8 24 (by decide) (by decide) (by decide)
  · exact lb8 32 (by decide) (by decide) (by decide)
  · exact lb8 40 (by decide) (by decide) (by decide)
  · exact lb8 48 (by decide) (by decide) (by decide)
  · exact lb8 56 (by decide) (by decide) (by decide)
theorem ush8 (z : Int32) : ∃ j, j < 2 ^ 24 ∧ ushI z 8 = nI j := by
  have e := pk_ushr z 8 8 (by decide)
  have h := z.toBitVec.isLt
  refine ⟨z.toBitVec.toNat / 2 ^ 8, by omega, ?_⟩
  apply Int32.toBitVec_inj.mp
  apply BitVec.eq_of_toNat_eq
  unfold ushI
  rw [e, pk_tn (by omega)]
theorem rm_nI {a d : Nat} (ha : a < 2 ^ 31) (h0 : 0 < d) (hd : d < 2 ^ 31) : rmI (nI a) (nI d) = nI (a % d) := pk_rem ha h0 hd
/-- loose days gone through by both -/
theorem loose_sim {kind mark quorum favour f g d err : Nat → Int32} {n nc ng mo N : Nat} (hn : n ≤ 8) (hN : N ≤ 40) (h0 : d 0 = nI n) (h : TX f nc) (h2 : TD f nc 0 d) (hg : TX g ng) (hg2 : TD g ng 1 d) (hmo : mo ≤ 6) (h1 : d 1 = nI mo) (q : QR quorum favour d) : ∀ (m k fu fu2 dy w : Nat) (uh ub wt z a b : Int32) (horn brass open_ health dk st1 st2 names pile : Nat → Int32), k + m = N → m < fu → m < fu2 → FW kind mark horn brass open_ health → FD kind mark horn brass open_ health dk → rg 999 uh → rg 999 ub → rg 9 wt → dk 2 = uh → dk 3 = ub → LD mo w dk → dk 5 = wt → dk 6 = nI dy → dk 7 = z → (∀ i, i = 0 ∨ i = 1 ∨ i = 4 ∨ i = 8 ∨ i = 9 ∨ (58 ≤ i ∧ i < 76 ∧ i % 3 ≠ 0) ∨ 76 ≤ i → dk i = d i) → ∃ (w' : Nat) (uh' ub' wt' z' a' b' r : Int32) (horn' brass' open3 health' d' s1 s2 n' p' : Nat → Int32), f_X6_loose_L40 (nI n) kind mark (nI mo) quorum favour 0 f (nI nc) 1 g (nI ng) err (nI N) fu horn brass open_ health (nI w) uh ub wt (nI dy) st1 st2 z (nI k) = some (horn', brass', open3, health', nI w', uh', ub', wt', nI (dy + m), s1, s2, z', err, r) ∧ f_X7_loose_L41 err (nI N) fu2 dk names pile a b (nI k) = some (d', err, n', p', a', b', r) ∧ FW kind mark horn' brass' open3 health' ∧ FD kind mark horn' brass' open3 health' d' ∧ rg 999 uh' ∧ rg 999 ub' ∧ rg 9 wt' ∧ d' 2 = uh' ∧ d' 3 = ub' ∧ LD mo w' d' ∧ d' 5 = wt' ∧ d' 6 = nI (dy + m) ∧ d' 7 = z' ∧ (∀ i, i = 0 ∨ i = 1 ∨ i = 4 ∨ i = 8 ∨ i = 9 ∨ (58 ≤ i ∧ i < 76 ∧ i % 3 ≠ 0) ∨ 76 ≤ i → d' i = d i) := by
  intro m
  induction m with
  | zero =>
    intro k fu fu2 dy w uh ub wt z a b horn brass open_ health dk st1 st2 names pile hk hf hf2 H D u2 u3 u5 d2 d3 L d5 d6 d7 F
    obtain ⟨fu, rfl⟩ : ∃ q, fu = q + 1 := ⟨fu - 1, by omega⟩
    obtain ⟨fu2, rfl⟩ : ∃ q, fu2 = q + 1 := ⟨fu2 - 1, by omega⟩
    obtain rfl : k = N := by omega
    simp only [f_X6_loose_L40, f_X7_loose_L41]
    rw [if_pos (nI_le (Nat.le_refl _) (by omega)), e0_living (fun p hp => (H p hp).2.2.2.2.2) hn, bdE1, pc_lv hn, bdE1, if_pos (nI_le (Nat.le_refl _) (by omega)), e7_alive (fun p hp => (D p hp).2.2.2.2.2) ((F 0 (by omega)).trans h0) hn, bdE1]
    exact ⟨w, uh, ub, wt, z, a, b, _, horn, brass, open_, health, dk, st1, st2, names, pile, rfl, rfl, H, D, u2, u3, u5, d2, d3, L, d5, d6, d7, F⟩
  | succ m ih =>
    intro k fu fu2 dy w uh ub wt z a b horn brass open_ health dk st1 st2 names pile hk hf hf2 H D u2 u3 u5 d2 d3 L d5 d6 d7 F
    obtain ⟨fu, rfl⟩ : ∃ q, fu = q + 1 := ⟨fu - 1, by omega⟩
    obtain ⟨fu2, rfl⟩ : ∃ q, fu2 = q + 1 := ⟨fu2 - 1, by omega⟩
    obtain ⟨j1, hj1, ej1⟩ := ush8 (z * 1103515245 + 12345)
    have er1 : rmI (ushI (z * 1103515245 + 12345) 8) 10 = nI (j1 % 10) := by
      rw [ej1]
      exact rm_nI (d := 10) (by omega) (by decide) (by decide)
    obtain ⟨dA, hdA⟩ : ∃ dA, dA = upd (upd dk 7 (z * 1103515245 + 12345)) 5 (nI (j1 % 10)) := ⟨_, rfl⟩
    have FA : ∀ i, i ≠ 5 → i ≠ 7 → dA i = dk i := fun i a b => by rw [hdA, upd_n a, upd_n b]
    have A5 : dA 5 = nI (j1 % 10) := by rw [hdA, upd_s]
    have A7 : dA 7 = z * 1103515245 + 12345 := by rw [hdA, upd_n (by decide), upd_s]
    have drA : f_X7_drawn dk = some (upd dk 7 (z * 1103515245 + 12345), ushI (z * 1103515245 + 12345) 8) := by
      unfold f_X7_drawn
      rw [rdA_i (i := 7) (k := 7) rfl (by decide), wrA_i (i := 7) (k := 7) rfl (by decide), rdA_i (i := 7) (k := 7) rfl (by decide), upd_s, d7]
    -- the rest of the day, behind the vote
    have tail : ∀ (w2 : Nat) (uh2 ub2 z2 a2 b2 : Int32) (horn2 brass2 open2 dB : Nat → Int32), FW kind mark horn2 brass2 open2 health → FD kind mark horn2 brass2 open2 health dB → rg 999 uh2 → rg 999 ub2 → dB 2 = uh2 → dB 3 = ub2 → LD mo w2 dB → dB 5 = nI (j1 % 10) → dB 6 = nI dy → dB 7 = z2 → (∀ i, i = 0 ∨ i = 1 ∨ i = 4 ∨ i = 8 ∨ i = 9 ∨ (58 ≤ i ∧ i < 76 ∧ i % 3 ≠ 0) ∨ 76 ≤ i → dB i = d i) → ∃ (w' : Nat) (uh' ub' wt' z' a' b' r : Int32) (horn' brass' open3 health' d' s1 s2 n' p' : Nat → Int32), (bd4 (f_X5_passDay (nI n) kind mark open2 health (nI w2) (nI (j1 % 10)) (nI dy) 0 f (nI nc) st1 1 g (nI ng) st2) (fun v_now_folk_health_28 v_now_day_29 v_now_chill_stack_30 v_now_cold_stack_31 => f_X6_loose_L40 (nI n) kind mark (nI mo) quorum favour 0 f (nI nc) 1 g (nI ng) err (nI N) fu horn2 brass2 open2 v_now_folk_health_28 (nI w2) uh2 ub2 (nI (j1 % 10)) v_now_day_29 v_now_chill_stack_30 v_now_cold_stack_31 z2 (nI (k + 1)))) = some (horn', brass', open3, health', nI w', uh', ub', wt', nI (dy + (m + 1)), s1, s2, z', err, r) ∧ (bd3 (f_X7_dayGoes dB names pile) (fun v_d_17 v_names_18 v_pile_19 => f_X7_loose_L41 err (nI N) fu2 v_d_17 v_names_18 v_pile_19 a2 b2 (nI (k + 1)))) = some (d', err, n', p', a', b', r) ∧ FW kind mark horn' brass' open3 health' ∧ FD kind mark horn' brass' open3 health' d' ∧ rg 999 uh' ∧ rg 999 ub' ∧ rg 9 wt' ∧ d' 2 = uh' ∧ d' 3 = ub' ∧ LD mo w' d' ∧ d' 5 = wt' ∧ d' 6 = nI (dy + (m + 1)) ∧ d' 7 = z' ∧ (∀ i, i = 0 ∨ i = 1 ∨ i = 4 ∨ i = 8 ∨ i = 9 ∨ (58 ≤ i ∧ i < 76 ∧ i % 3 ≠ 0) ∨ 76 ≤ i → d' i = d i) := by
      intro w2 uh2 ub2 z2 a2 b2 horn2 brass2 open2 dB H2 D2 g2 g3 B2 B3 LB B5 B6 B7 FB
      obtain ⟨t1, t2, e1⟩ := e5_passDay (winter := nI (j1 % 10)) (day := nI dy) H2 hn h hg LB.w st1 st2
      obtain ⟨d', n1, p1, e2, D3, D6, F2⟩ := e7_day (n := n) (f := f) (g := g) (nc := nc) (ng := ng) (mo := mo) (w := w2) (d := dB) H2 hn ((FB 0 (by omega)).trans h0) h (h2.frame (fun i hi => FB i (by omega))) hg (hg2.frame (fun i hi => FB i (by omega))) LB D2 names pile
      rw [B6, B5] at D3
      rw [B6, nI_1] at D6
      rw [e1, bdE4, e2, bdE3, nI_1]
      have R := ih (k + 1) fu fu2 (dy + 1) w2 uh2 ub2 (nI (j1 % 10)) z2 a2 b2 horn2 brass2 open2 _ d' t1 t2 n1 p1 (by omega) (by omega) (by omega) H2.day D3 g2 g3 ⟨_, by omega, rfl⟩ ((F2 2 (by unfold HP; omega) (by decide)).trans B2) ((F2 3 (by unfold HP; omega) (by decide)).trans B3) (LB.frame (fun i hi => F2 i (by unfold HP; omega) (by omega))) ((F2 5 (by unfold HP; omega) (by decide)).trans B5) D6 ((F2 7 (by unfold HP; omega) (by decide)).trans B7) (fun i hi => (F2 i (by unfold HP; omega) (by omega)).trans (FB i hi))
      rw [show dy + 1 + m = dy + (m + 1) by omega] at R
      exact R
    simp only [f_X6_loose_L40, f_X7_loose_L41, f_X5_draw, jnE, nmE, nI_1]
    rw [if_neg (nI_ge (by omega) (by omega)), bdE2, bdE2, nzA_k (show ¬ (10 : Int32) = 0 by decide), er1, if_neg (nI_ge (by omega) (by omega)), drA, bdE2, nzA_k (show ¬ (10 : Int32) = 0 by decide), er1, wrA_i (i := 5) (k := 5) rfl (by decide), ← hdA, rdA_i (i := 1) (k := 1) rfl (by decide), FA 1 (by decide) (by decide), F 1 (by omega), h1]
    have LA : LD mo w dA := L.frame (fun i hi => FA i (by omega) (by omega))
    have DA : FD kind mark horn brass open_ health dA := D.fr (fun i h1 h2 => FA i (by omega) (by omega))
    by_cases hz : mo = 0
    · have e0 : nI mo ≤ (0 : Int32) := by rw [hz]; decide
      rw [if_pos e0, if_pos e0]
      exact tail w uh ub _ a b horn brass open_ dA H DA u2 u3 ((FA 2 (by decide) (by decide)).trans d2) ((FA 3 (by decide) (by decide)).trans d3) LA A5 ((FA 6 (by decide) (by decide)).trans d6) A7 (fun i hi => (FA i (by omega) (by omega)).trans (F i hi))
    · have e0 : ¬ nI mo ≤ (0 : Int32) := nI_nle (by omega) (by omega)
      obtain ⟨j2, hj2, ej2⟩ := ush8 ((z * 1103515245 + 12345) * 1103515245 + 12345)
      have er2 : rmI (ushI ((z * 1103515245 + 12345) * 1103515245 + 12345) 8) (nI mo) = nI (j2 % mo) := by
        rw [ej2]
        exact rm_nI (by omega) (by omega) (by omega)
      have hmm : j2 % mo < mo := Nat.mod_lt _ (by omega)
      obtain ⟨mm, hmmd⟩ : ∃ mm, mm = j2 % mo := ⟨_, rfl⟩
      rw [← hmmd] at er2 hmm
      obtain ⟨dC, hdC⟩ : ∃ dC, dC = upd dA 7 ((z * 1103515245 + 12345) * 1103515245 + 12345) := ⟨_, rfl⟩
      have FC : ∀ i, i ≠ 7 → dC i = dA i := fun i a => by rw [hdC, upd_n a]
      have C7 : dC 7 = (z * 1103515245 + 12345) * 1103515245 + 12345 := by rw [hdC, upd_s]
      have drB : f_X7_drawn dA = some (dC, ushI ((z * 1103515245 + 12345) * 1103515245 + 12345) 8) := by
        unfold f_X7_drawn
        rw [rdA_i (i := 7) (k := 7) rfl (by decide), wrA_i (i := 7) (k := 7) rfl (by decide), A7, ← hdC, rdA_i (i := 7) (k := 7) rfl (by decide), C7]
      have hne : ¬ nI mo = 0 := nI_ne0 (by omega) (by omega)
      obtain ⟨q1, ⟨s, hs, q2⟩, q3, q4⟩ := q mm (by omega)
      have LC : LD mo w dC := LA.frame (fun i hi => FC i (by omega))
      have DC : FD kind mark horn brass open_ health dC := DA.fr (fun i h1 h2 => FC i (by omega))
      have FK : ∀ i, i = 0 ∨ i = 1 ∨ i = 4 ∨ i = 8 ∨ i = 9 ∨ (58 ≤ i ∧ i < 76 ∧ i % 3 ≠ 0) ∨ 76 ≤ i → dC i = d i := fun i hi => (FC i (by omega)).trans ((FA i (by omega) (by omega)).trans (F i hi))
      obtain ⟨dD, a2, b2, e1, D2, V1, V2, L2, F2⟩ := e7_votes (d := dC) (mm := mm) H hn ((FK 0 (by omega)).trans h0) u2 u3 ((FC 2 (by decide)).trans ((FA 2 (by decide) (by decide)).trans d2)) ((FC 3 (by decide)).trans ((FA 3 (by decide) (by decide)).trans d3)) LC hmm ((FK _ (by omega)).trans (q4.trans q2)) hs DC a b
      rw [FK (58 + 3 * mm) (by omega), q3] at e1 L2
      have C := e5_hold (quorum := quorum) (favour := favour) (uh := uh) (ub := ub) H hn hmo LC.2.1 hmm
      rw [q2] at C
      rw [if_neg e0, nzA_k hne, er2, C, bdE7, if_neg e0, drB, bdE2, rdA_i (i := 1) (k := 1) rfl (by decide), FK 1 (by omega), h1, nzA_k hne, er2, e1, bdE4]
      exact tail _ _ _ _ a2 b2 _ _ _ dD H.cut D2 (ur_rg u2 hn (fun p hp => (cH_rg (p := p) H (by omega)).1)) (ur_rg u3 hn (fun p hp => (cH_rg (p := p) H (by omega)).2.1)) V1 V2 L2 ((F2 5 (by decide) (by decide) (by decide) (by omega)).trans ((FC 5 (by decide)).trans A5)) ((F2 6 (by decide) (by decide) (by decide) (by omega)).trans ((FC 6 (by decide)).trans ((FA 6 (by decide) (by decide)).trans d6))) ((F2 7 (by decide) (by decide) (by decide) (by omega)).trans C7) (fun i hi => (F2 i (by omega) (by omega) (by omega) (by omega)).trans (FK i hi))
set_option maxHeartbeats 1000000 in
set_option maxRecDepth 10000 in
theorem st_loose {c_now_folk_size : Int32} {c_now_folk_kind : Nat → Int32} {c_now_folk_mark : Nat → Int32} {c_now_folk_horn : Nat → Int32} {c_now_folk_brass : Nat → Int32} {c_now_folk_open : Nat → Int32} {c_now_folk_health : Nat → Int32} {c_now_motions : Int32} {c_now_quorum : Nat → Int32} {c_now_favour : Nat → Int32} {c_now_laws : Int32} {c_now_urnHorn : Int32} {c_now_urnBrass : Int32} {c_now_thread : Int32} {c_now_winter : Int32} {c_now_day : Int32} {c_now_chill_use : Int32} {c_now_chill_codes : Nat → Int32} {c_now_chill_size : Int32} {c_now_chill_stack : Nat → Int32} {c_now_cold_use : Int32} {c_now_cold_codes : Nat → Int32} {c_now_cold_size : Int32} {c_now_cold_stack : Nat → Int32} {c_now_tape : Nat → Int32} {c_now_taped : Int32} {c_now_z : Int32} {c_now_waiting : Nat → Int32} {c_now_waits : Int32} {c_kept_folk_size : Int32} {c_kept_folk_kind : Nat → Int32} {c_kept_folk_mark : Nat → Int32} {c_kept_folk_horn : Nat → Int32} {c_kept_folk_brass : Nat → Int32} {c_kept_folk_open : Nat → Int32} {c_kept_folk_health : Nat → Int32} {c_kept_motions : Int32} {c_kept_quorum : Nat → Int32} {c_kept_favour : Nat → Int32} {c_kept_laws : Int32} {c_kept_urnHorn : Int32} {c_kept_urnBrass : Int32} {c_kept_thread : Int32} {c_kept_winter : Int32} {c_kept_day : Int32} {c_kept_chill_use : Int32} {c_kept_chill_codes : Nat → Int32} {c_kept_chill_size : Int32} {c_kept_cold_use : Int32} {c_kept_cold_codes : Nat → Int32} {c_kept_cold_size : Int32} {c_kept_tape : Nat → Int32} {c_kept_taped : Int32} {c_kept_z : Int32} {c_kept_waiting : Nat → Int32} {c_kept_waits : Int32} {c_voices_traces : Nat → Int32} {c_voices_traced : Int32} {c_sh_bits : Nat → Int32} {c_sh_size : Nat → Int32} {c_sh_numbers : Nat → Nat → Int32} {c_errors : Nat → Int32} {c_images : Int32} {m_d : Nat → Int32} {m_kept : Nat → Int32} {m_images : Int32} {m_found : Nat → Int32} {m_names : Nat → Int32} {m_pile : Nat → Int32} {m_horn : Int32} {m_brass : Int32} {m_traced : Nat → Int32} {m_traceMany : Int32} {m_bitsOf : Nat → Int32} {m_sizeOf : Nat → Int32} {m_number : Nat → Int32} (R : Rel c_now_folk_size c_now_folk_kind c_now_folk_mark c_now_folk_horn c_now_folk_brass c_now_folk_open c_now_folk_health c_now_motions c_now_quorum c_now_favour c_now_laws c_now_urnHorn c_now_urnBrass c_now_thread c_now_winter c_now_day c_now_chill_use c_now_chill_codes c_now_chill_size c_now_cold_use c_now_cold_codes c_now_cold_size c_now_tape c_now_taped c_now_z c_now_waiting c_now_waits c_kept_folk_size c_kept_folk_kind c_kept_folk_mark c_kept_folk_horn c_kept_folk_brass c_kept_folk_open c_kept_folk_health c_kept_motions c_kept_quorum c_kept_favour c_kept_laws c_kept_urnHorn c_kept_urnBrass c_kept_thread c_kept_winter c_kept_day c_kept_chill_use c_kept_chill_codes c_kept_chill_size c_kept_cold_use c_kept_cold_codes c_kept_cold_size c_kept_tape c_kept_taped c_kept_z c_kept_waiting c_kept_waits c_voices_traces c_voices_traced c_sh_bits c_sh_size c_sh_numbers c_errors c_images m_d m_kept m_images m_found m_traced m_traceMany m_bitsOf m_sizeOf m_number) (p0 : Int32) : ∃ (x_now_folk_horn : Nat → Int32) (x_now_folk_brass : Nat → Int32) (x_now_folk_open : Nat → Int32) (x_now_folk_health : Nat → Int32) (x_now_laws : Int32) (x_now_urnHorn : Int32) (x_now_urnBrass : Int32) (x_now_winter : Int32) (x_now_day : Int32) (x_now_chill_stack : Nat → Int32) (x_now_cold_stack : Nat → Int32) (x_now_z : Int32) (x_errors : Nat → Int32) (r : Int32) (y_d : Nat → Int32) (y_found : Nat → Int32) (y_names : Nat → Int32) (y_pile : Nat → Int32) (y_horn : Int32) (y_brass : Int32), f_X6_loose c_now_folk_size c_now_folk_kind c_now_folk_mark c_now_folk_horn c_now_folk_brass c_now_folk_open c_now_folk_health c_now_motions c_now_quorum c_now_favour c_now_laws c_now_urnHorn c_now_urnBrass c_now_winter c_now_day c_now_chill_use c_now_chill_codes c_now_chill_size c_now_chill_stack c_now_cold_use c_now_cold_codes c_now_cold_size c_now_cold_stack c_now_z c_errors p0 = some (x_now_folk_horn, x_now_folk_brass, x_now_folk_open, x_now_folk_health, x_now_laws, x_now_urnHorn, x_now_urnBrass, x_now_winter, x_now_day, x_now_chill_stack, x_now_cold_stack, x_now_z, x_errors, r) ∧ f_X7_loose m_d m_found m_names m_pile m_horn m_brass p0 = some (y_d, y_found, y_names, y_pile, y_horn, y_brass, r) ∧ Rel c_now_folk_size c_now_folk_kind c_now_folk_mark x_now_folk_horn x_now_folk_brass x_now_folk_open x_now_folk_health c_now_motions c_now_quorum c_now_favour x_now_laws x_now_urnHorn x_now_urnBrass c_now_thread x_now_winter x_now_day c_now_chill_use c_now_chill_codes c_now_chill_size c_now_cold_use c_now_cold_codes c_now_cold_size c_now_tape c_now_taped x_now_z c_now_waiting c_now_waits c_kept_folk_size c_kept_folk_kind c_kept_folk_mark c_kept_folk_horn c_kept_folk_brass c_kept_folk_open c_kept_folk_health c_kept_motions c_kept_quorum c_kept_favour c_kept_laws c_kept_urnHorn c_kept_urnBrass c_kept_thread c_kept_winter c_kept_day c_kept_chill_use c_kept_chill_codes c_kept_chill_size c_kept_cold_use c_kept_cold_codes c_kept_cold_size c_kept_tape c_kept_taped c_kept_z c_kept_waiting c_kept_waits c_voices_traces c_voices_traced c_sh_bits c_sh_size c_sh_numbers x_errors c_images y_d m_kept m_images y_found m_traced m_traceMany m_bitsOf m_sizeOf m_number := by
  obtain ⟨⟨hPp, hMo, hSc, hTa, hWa, hUs, hCh, hCo⟩, hIm, hKe, hKu, hEr, hTr, hTn, hTg, hSh⟩ := R
  subst hEr
  obtain ⟨n, hn, hsz, hD0, H, D⟩ := PplR_out hPp
  subst hsz
  obtain ⟨mo, w, hmo, hlw, hL, hQ⟩ := MotR_out hMo
  subst hmo
  subst hlw
  have hmo6 : mo ≤ 6 := hL.1
  have hUs0 := hUs
  obtain ⟨hU0, hU1⟩ := hUs0
  subst hU0
  subst hU1
  obtain ⟨nc, hnc, hX, hY⟩ := TextR_0 hCh
  subst hnc
  obtain ⟨ng, hng, hX1, hY1⟩ := TextR_1 hCo
  subst hng
  have hSc0 := hSc
  obtain ⟨⟨u1, u2⟩, ⟨u3, u4⟩, u5, ⟨u7, u8⟩, ⟨u9, ⟨dy, hdy, hdv⟩⟩, u11⟩ := hSc0
  by_cases hp : inb p0 41 = true ∧ p0 ≠ 0
  · obtain ⟨N, hN, rfl⟩ := inb_of hp.1 (by decide)
    by_cases hd : dy + N ≤ 9999
    · obtain ⟨w', uh', ub', wt', z', a', b', r, horn', brass', open3, health', d', s1, s2, n', p', e1, e2, H', D', g2, g3, g5, B2, B3, L', B5, B6, B7, F⟩ := loose_sim (err := c_errors) (N := N) hn (by omega) hD0 hX hY hX1 hY1 hmo6 hL.2.2.1 hQ N 0 300 300 dy w c_now_urnHorn c_now_urnBrass c_now_winter c_now_z m_horn m_brass c_now_folk_horn c_now_folk_brass c_now_folk_open c_now_folk_health m_d c_now_chill_stack c_now_cold_stack m_names m_pile (by omega) (by omega) (by omega) H D u2 u4 u8 u1 u3 hL u7 (u9.trans hdv) u11 (fun i _ => rfl)
      refine ⟨?_, ?_, ?_, ?_, ?_, ?_, ?_, ?_, ?_, ?_, ?_, ?_, ?_, ?_, ?_, ?_, ?_, ?_, ?_, ?_, ?c, ?m, ?r⟩
      case c =>
        simp only [f_X6_loose, jnE]
        rw [rngF 41 (by decide), if_pos hp, hdv, nI_add, if_pos (show nI (dy + N) ≤ (9999 : Int32) from nI_le (b := 9999) hd (by decide))]
        exact e1
      case m =>
        simp only [f_X7_loose]
        rw [e7_in1 41 (by decide), bdE1, b01, if_pos hp, rdA_i (i := 6) (k := 6) rfl (by decide), u9, hdv, nI_add, if_pos (show nI (dy + N) ≤ (9999 : Int32) from nI_le (b := 9999) hd (by decide))]
        exact e2
      case r =>
        obtain ⟨hTa', hWa', hCh', hCo'⟩ := rest_fr hTa hWa hCh hCo (fun i hi => F i (by omega))
        exact ⟨⟨PplR_of hn ((F 0 (by omega)).trans hD0) H' D', MotR_of L' (hQ.frame (fun i h1 h2 h3 => F i (by omega))), ⟨⟨B2, g2⟩, ⟨B3, g3⟩, by rw [F 4 (by omega)]; exact u5, ⟨B5, g5⟩, ⟨B6, ⟨_, hd, rfl⟩⟩, B7⟩, hTa', hWa', hUs, hCh', hCo'⟩, hIm, hKe, hKu, rfl, hTr, hTn, hTg, hSh⟩
    · refine ⟨?_, ?_, ?_, ?_, ?_, ?_, ?_, ?_, ?_, ?_, ?_, ?_, ?_, ?_, ?_, ?_, ?_, ?_, ?_, ?_, ?c, ?m, ?r⟩
      case c =>
        simp only [f_X6_loose, jnE]
        rw [rngF 41 (by decide), if_pos hp, hdv, nI_add, if_neg (show ¬ nI (dy + N) ≤ (9999 : Int32) from nI_ge (a := 9999) (by omega) (by omega)), ef3]
        rfl
      case m =>
        simp only [f_X7_loose]
        rw [e7_in1 41 (by decide), bdE1, b01, if_pos hp, rdA_i (i := 6) (k := 6) rfl (by decide), u9, hdv, nI_add, if_neg (show ¬ nI (dy + N) ≤ (9999 : Int32) from nI_ge (a := 9999) (by omega) (by omega)), eg3]
        rfl
      case r =>
        rw [← hdv]
        exact ⟨⟨hPp, hMo, hSc, hTa, hWa, hUs, hCh, hCo⟩, hIm, hKe, hKu, rfl, hTr, hTn, hTg, hSh⟩
  · refine ⟨?_, ?_, ?_, ?_, ?_, ?_, ?_, ?_, ?_, ?_, ?_, ?_, ?_, ?_, ?_, ?_, ?_, ?_, ?_, ?_, ?c, ?m, ?r⟩
    case c =>
      simp only [f_X6_loose, jnE]
      rw [rngF 41 (by decide), if_neg hp, ef1]
      rfl
    case m =>
      simp only [f_X7_loose]
      rw [e7_in1 41 (by decide), bdE1, b01, if_neg hp, eg1]
      rfl
    case r => exact ⟨⟨hPp, hMo, hSc, hTa, hWa, hUs, hCh, hCo⟩, hIm, hKe, hKu, rfl, hTr, hTn, hTg, hSh⟩
set_option maxHeartbeats 1000000 in
set_option maxRecDepth 10000 in
theorem st_feed {c_now_folk_size : Int32} {c_now_folk_kind : Nat → Int32} {c_now_folk_mark : Nat → Int32} {c_now_folk_horn : Nat → Int32} {c_now_folk_brass : Nat → Int32} {c_now_folk_open : Nat → Int32} {c_now_folk_health : Nat → Int32} {c_now_motions : Int32} {c_now_quorum : Nat → Int32} {c_now_favour : Nat → Int32} {c_now_laws : Int32} {c_now_urnHorn : Int32} {c_now_urnBrass : Int32} {c_now_thread : Int32} {c_now_winter : Int32} {c_now_day : Int32} {c_now_chill_use : Int32} {c_now_chill_codes : Nat → Int32} {c_now_chill_size : Int32} {c_now_cold_use : Int32} {c_now_cold_codes : Nat → Int32} {c_now_cold_size : Int32} {c_now_tape : Nat → Int32} {c_now_taped : Int32} {c_now_z : Int32} {c_now_waiting : Nat → Int32} {c_now_waits : Int32} {c_kept_folk_size : Int32} {c_kept_folk_kind : Nat → Int32} {c_kept_folk_mark : Nat → Int32} {c_kept_folk_horn : Nat → Int32} {c_kept_folk_brass : Nat → Int32} {c_kept_folk_open : Nat → Int32} {c_kept_folk_health : Nat → Int32} {c_kept_motions : Int32} {c_kept_quorum : Nat → Int32} {c_kept_favour : Nat → Int32} {c_kept_laws : Int32} {c_kept_urnHorn : Int32} {c_kept_urnBrass : Int32} {c_kept_thread : Int32} {c_kept_winter : Int32} {c_kept_day : Int32} {c_kept_chill_use : Int32} {c_kept_chill_codes : Nat → Int32} {c_kept_chill_size : Int32} {c_kept_cold_use : Int32} {c_kept_cold_codes : Nat → Int32} {c_kept_cold_size : Int32} {c_kept_tape : Nat → Int32} {c_kept_taped : Int32} {c_kept_z : Int32} {c_kept_waiting : Nat → Int32} {c_kept_waits : Int32} {c_voices_traces : Nat → Int32} {c_voices_traced : Int32} {c_sh_bits : Nat → Int32} {c_sh_size : Nat → Int32} {c_sh_numbers : Nat → Nat → Int32} {c_errors : Nat → Int32} {c_images : Int32} {m_d : Nat → Int32} {m_kept : Nat → Int32} {m_images : Int32} {m_found : Nat → Int32} {m_traced : Nat → Int32} {m_traceMany : Int32} {m_bitsOf : Nat → Int32} {m_sizeOf : Nat → Int32} {m_number : Nat → Int32} (R : Rel c_now_folk_size c_now_folk_kind c_now_folk_mark c_now_folk_horn c_now_folk_brass c_now_folk_open c_now_folk_health c_now_motions c_now_quorum c_now_favour c_now_laws c_now_urnHorn c_now_urnBrass c_now_thread c_now_winter c_now_day c_now_chill_use c_now_chill_codes c_now_chill_size c_now_cold_use c_now_cold_codes c_now_cold_size c_now_tape c_now_taped c_now_z c_now_waiting c_now_waits c_kept_folk_size c_kept_folk_kind c_kept_folk_mark c_kept_folk_horn c_kept_folk_brass c_kept_folk_open c_kept_folk_health c_kept_motions c_kept_quorum c_kept_favour c_kept_laws c_kept_urnHorn c_kept_urnBrass c_kept_thread c_kept_winter c_kept_day c_kept_chill_use c_kept_chill_codes c_kept_chill_size c_kept_cold_use c_kept_cold_codes c_kept_cold_size c_kept_tape c_kept_taped c_kept_z c_kept_waiting c_kept_waits c_voices_traces c_voices_traced c_sh_bits c_sh_size c_sh_numbers c_errors c_images m_d m_kept m_images m_found m_traced m_traceMany m_bitsOf m_sizeOf m_number) (p0 : Int64) (p1 : Int32) : ∃ (x_now_tape : Nat → Int32) (x_now_taped : Int32) (x_errors : Nat → Int32) (r : Int32) (y_d : Nat → Int32) (y_found : Nat → Int32), f_X6_feed c_now_tape c_now_taped c_errors p0 p1 = some (x_now_tape, x_now_taped, x_errors, r) ∧ f_X7_feed m_d m_found p0 p1 = some (y_d, y_found, r) ∧ Rel c_now_folk_size c_now_folk_kind c_now_folk_mark c_now_folk_horn c_now_folk_brass c_now_folk_open c_now_folk_health c_now_motions c_now_quorum c_now_favour c_now_laws c_now_urnHorn c_now_urnBrass c_now_thread c_now_winter c_now_day c_now_chill_use c_now_chill_codes c_now_chill_size c_now_cold_use c_now_cold_codes c_now_cold_size x_now_tape x_now_taped c_now_z c_now_waiting c_now_waits c_kept_folk_size c_kept_folk_kind c_kept_folk_mark c_kept_folk_horn c_kept_folk_brass c_kept_folk_open c_kept_folk_health c_kept_motions c_kept_quorum c_kept_favour c_kept_laws c_kept_urnHorn c_kept_urnBrass c_kept_thread c_kept_winter c_kept_day c_kept_chill_use c_kept_chill_codes c_kept_chill_size c_kept_cold_use c_kept_cold_codes c_kept_cold_size c_kept_tape c_kept_taped c_kept_z c_kept_waiting c_kept_waits c_voices_traces c_voices_traced c_sh_bits c_sh_size c_sh_numbers x_errors c_images y_d m_kept m_images y_found m_traced m_traceMany m_bitsOf m_sizeOf m_number := by
  obtain ⟨⟨hPp, hMo, hSc, hTa, hWa, hUs, hCh, hCo⟩, hIm, hKe, hKu, hEr, hTr, hTn, hTg, hSh⟩ := R
  subst hEr
  obtain ⟨T0, ⟨t, ht, T1⟩, T2⟩ := hTa
  subst T1
  by_cases hp : inb p1 9 = true ∧ p1 ≠ 0
  · obtain ⟨N, hN, rfl⟩ := inb_of hp.1 (by decide)
    by_cases hd : t + N ≤ 50
    · obtain ⟨by_, hby⟩ : ∃ by_ : Nat → Int32, by_ = fun k => ((ushL p0 (8 * nI k)) &&& 255).toInt32 := ⟨_, rfl⟩
      have L : ∀ (J : (Nat → Int32) → Option ((Nat → Int32) × (Int32) × (Nat → Int32) × (Int32))) (m k fu fu2 : Nat), k + m = N → m < fu → m < fu2 → f_X6_feed_L40 (nI t) p0 (nI N) J fu (shF t by_ c_now_tape k) (nI k) = J (shF t by_ c_now_tape N) ∧ f_X7_feed_L41 c_errors p0 (nI N) fu2 (upd (shF (198 + t) by_ m_d k) 8 (nI (t + k))) (nI k) = some (upd (shF (198 + t) by_ m_d N) 8 (nI (t + N)), c_errors, nI (t + N)) := by
        intro J m
        induction m with
        | zero =>
          intro k fu fu2 hk hf hf2
          obtain ⟨fu, rfl⟩ : ∃ q, fu = q + 1 := ⟨fu - 1, by omega⟩
          obtain ⟨fu2, rfl⟩ : ∃ q, fu2 = q + 1 := ⟨fu2 - 1, by omega⟩
          obtain rfl : k = N := by omega
          simp only [f_X6_feed_L40, f_X7_feed_L41]
          rw [if_pos (nI_le (Nat.le_refl _) (by omega)), if_pos (nI_le (Nat.le_refl _) (by omega)), rdA_i (i := 8) (k := 8) rfl (by decide), upd_s]
          exact ⟨rfl, rfl⟩
        | succ m ih =>
          intro k fu fu2 hk hf hf2
          obtain ⟨fu, rfl⟩ : ∃ q, fu = q + 1 := ⟨fu - 1, by omega⟩
          obtain ⟨fu2, rfl⟩ : ∃ q, fu2 = q + 1 := ⟨fu2 - 1, by omega⟩
          have ix : (198 : Int32) + nI (t + k) = nI (198 + t + k) := (nI_add 198 (t + k)).trans (by rw [Nat.add_assoc])
          have bk : ((ushL p0 (8 * nI k)) &&& 255).toInt32 = by_ k := by rw [hby]
          have bk2 : ((shrL p0 (8 * nI k)) &&& 255).toInt32 = by_ k := by rw [← fd8 p0 (by omega), bk]
          have st : upd (upd (upd (shF (198 + t) by_ m_d k) 8 (nI (t + k))) (198 + t + k) (by_ k)) 8 (nI (t + k + 1)) = upd (shF (198 + t) by_ m_d (k + 1)) 8 (nI (t + (k + 1))) := by
            rw [← sh_s]
            funext i
            by_cases e : i = 8
            · rw [e, upd_s, upd_s, Nat.add_assoc]
            · rw [upd_n e, upd_n e]
              by_cases e2 : i = 198 + t + k
              · rw [e2, upd_s, upd_s]
              · rw [upd_n e2, upd_n e, upd_n e2]
          simp only [f_X6_feed_L40, f_X7_feed_L41]
          rw [if_neg (nI_ge (by omega) (by omega)), bk, nI_add, wrA_i rfl (by omega), sh_s, if_neg (nI_ge (by omega) (by omega)), rdA_i (i := 8) (k := 8) rfl (by decide), upd_s, bk2, wrA_i ix (by omega), rdA_i (i := 8) (k := 8) rfl (by decide), upd_n (show 8 ≠ 198 + t + k by omega), upd_s, wrA_i (i := 8) (k := 8) rfl (by decide), nI_1 (t + k), st]
          simp only [nmE, nI_1]
          exact ih (k + 1) fu fu2 (by omega) (by omega) (by omega)
      have z0 : upd (shF (198 + t) by_ m_d 0) 8 (nI (t + 0)) = m_d := by
        rw [sh_z]
        funext i
        by_cases e : i = 8
        · rw [e, upd_s, T0]
          rfl
        · rw [upd_n e]
      obtain ⟨e1, e2⟩ := L (fun v_now_tape_3 => some (v_now_tape_3, nI (t + N), c_errors, nI (t + N))) N 0 300 300 (by omega) (by omega) (by omega)
      rw [sh_z] at e1
      rw [z0] at e2
      have F : ∀ i, i ≠ 8 → ¬ (198 ≤ i ∧ i < 248) → upd (shF (198 + t) by_ m_d N) 8 (nI (t + N)) i = m_d i := by
        intro i h1 h2
        rw [upd_n h1, sh_out (by omega)]
      refine ⟨?_, ?_, ?_, ?_, ?_, ?_, ?c, ?q7, ?r⟩
      case c =>
        simp only [f_X6_feed, jnE, nmE]
        rw [rngF 9 (by decide), if_pos hp, nI_add, if_pos (show nI (t + N) ≤ (50 : Int32) from nI_le (b := 50) hd (by decide))]
        exact e1
      case q7 =>
        simp only [f_X7_feed]
        rw [e7_in1 9 (by decide), bdE1, b01, if_pos hp, rdA_i (i := 8) (k := 8) rfl (by decide), T0, nI_add, if_pos (show nI (t + N) ≤ (50 : Int32) from nI_le (b := 50) hd (by decide))]
        exact e2
      case r =>
        refine ⟨⟨hPp.frame (fun i hi => F i (by omega) (by omega)), hMo.frame (fun i hi => F i (by omega) (by omega)), hSc.frame (fun i hi => F i (by omega) (by omega)), ⟨upd_s, ⟨_, hd, rfl⟩, fun i hi => ?_⟩, hWa.frame (fun i hi => F i (by omega) (by omega)), hUs, hCh.frame (F 76 (by decide) (by decide)) (fun k _ => F _ (by omega) (by omega)), hCo.frame (F 77 (by decide) (by decide)) (fun k _ => F _ (by omega) (by omega))⟩, hIm, hKe, hKu, rfl, hTr, hTn, hTg, hSh⟩
        rw [upd_n (by omega)]
        by_cases e : t ≤ i ∧ i < t + N
        · obtain ⟨k, rfl⟩ : ∃ k, i = t + k := ⟨i - t, by omega⟩
          rw [show 198 + (t + k) = 198 + t + k by omega, sh_in (by omega), sh_in (by omega), hby]
          exact ⟨rfl, by255 _⟩
        · rw [sh_out (by omega), sh_out (by omega)]
          exact T2 i hi
    · refine ⟨?_, ?_, ?_, ?_, ?_, ?_, ?c, ?q7, ?r⟩
      case c =>
        simp only [f_X6_feed, jnE, nmE]
        rw [rngF 9 (by decide), if_pos hp, nI_add, if_neg (show ¬ nI (t + N) ≤ (50 : Int32) from nI_ge (a := 50) (by omega) (by omega)), ef4]
        rfl
      case q7 =>
        simp only [f_X7_feed]
        rw [e7_in1 9 (by decide), bdE1, b01, if_pos hp, rdA_i (i := 8) (k := 8) rfl (by decide), T0, nI_add, if_neg (show ¬ nI (t + N) ≤ (50 : Int32) from nI_ge (a := 50) (by omega) (by omega)), eg4]
        rfl
      case r => exact ⟨⟨hPp, hMo, hSc, ⟨T0, ⟨t, ht, rfl⟩, T2⟩, hWa, hUs, hCh, hCo⟩, hIm, hKe, hKu, rfl, hTr, hTn, hTg, hSh⟩
  · refine ⟨?_, ?_, ?_, ?_, ?_, ?_, ?c, ?q7, ?r⟩
    case c =>
      simp only [f_X6_feed, jnE, nmE]
      rw [rngF 9 (by decide), if_neg hp, ef1]
      rfl
    case q7 =>
      simp only [f_X7_feed]
      rw [e7_in1 9 (by decide), bdE1, b01, if_neg hp, eg1]
      rfl
    case r => exact ⟨⟨hPp, hMo, hSc, ⟨T0, ⟨t, ht, rfl⟩, T2⟩, hWa, hUs, hCh, hCo⟩, hIm, hKe, hKu, rfl, hTr, hTn, hTg, hSh⟩
