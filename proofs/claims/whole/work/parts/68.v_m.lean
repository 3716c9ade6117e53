/-! a copy of folk -/
theorem e0_copy {size size2 : Int32} {kind mark horn brass open_ health k2 m2 h2 b2 o2 l2 : Nat → Int32} : f_X0_copy size2 k2 m2 h2 b2 o2 l2 size kind mark horn brass open_ health = some (size, ovF kind k2 8, ovF mark m2 8, ovF horn h2 8, ovF brass b2 8, ovF open_ o2 8, ovF health l2 8) := by
  have L : ∀ (m k fu : Nat), k + m = 8 → m < fu → f_X0_copy_L10 size kind mark horn brass open_ health fu (ovF kind k2 k) (ovF mark m2 k) (ovF horn h2 k) (ovF brass b2 k) (ovF open_ o2 k) (ovF health l2 k) (nI k) = some (size, ovF kind k2 8, ovF mark m2 8, ovF horn h2 8, ovF brass b2 8, ovF open_ o2 8, ovF health l2 8) := by
    intro m
    induction m with
    | zero =>
      intro k fu hk hf
      obtain ⟨fu, rfl⟩ : ∃ q, fu = q + 1 := ⟨fu - 1, by omega⟩
      obtain rfl : k = 8 := by omega
      simp only [f_X0_copy_L10]
      rw [if_pos (show (8 : Int32) ≤ nI 8 by decide)]
    | succ m ih =>
      intro k fu hk hf
      obtain ⟨fu, rfl⟩ : ∃ q, fu = q + 1 := ⟨fu - 1, by omega⟩
      simp only [f_X0_copy_L10]
      rw [if_neg (show ¬ (8 : Int32) ≤ nI k from nI_ge (b := 8) (by omega) (by decide))]
      rw [rdA_i rfl (show k < 8 by omega), wrA_i rfl (show k < 8 by omega), rdA_i rfl (show k < 8 by omega), wrA_i rfl (show k < 8 by omega), rdA_i rfl (show k < 8 by omega), wrA_i rfl (show k < 8 by omega), rdA_i rfl (show k < 8 by omega), wrA_i rfl (show k < 8 by omega), rdA_i rfl (show k < 8 by omega), wrA_i rfl (show k < 8 by omega), rdA_i rfl (show k < 8 by omega), wrA_i rfl (show k < 8 by omega)]
      simp only [nmE, nI_1, ov_s]
      exact ih (k + 1) fu (by omega) (by omega)
  have R := L 8 0 300 (by omega) (by omega)
  simp only [ov_z] at R
  exact R
theorem FW.cp {kind mark horn brass open_ health k2 m2 h2 b2 o2 l2 : Nat → Int32} (H : FW kind mark horn brass open_ health) : FW (ovF kind k2 8) (ovF mark m2 8) (ovF horn h2 8) (ovF brass b2 8) (ovF open_ o2 8) (ovF health l2 8) := by
  intro p hp
  rw [ov_in hp, ov_in hp, ov_in hp, ov_in hp, ov_in hp, ov_in hp]
  exact H p hp
theorem FD.cp {kind mark horn brass open_ health k2 m2 h2 b2 o2 l2 d : Nat → Int32} (D : FD kind mark horn brass open_ health d) : FD (ovF kind k2 8) (ovF mark m2 8) (ovF horn h2 8) (ovF brass b2 8) (ovF open_ o2 8) (ovF health l2 8) d := by
  intro p hp
  rw [ov_in hp, ov_in hp, ov_in hp, ov_in hp, ov_in hp, ov_in hp]
  exact D p hp
/-- the class's and the reference's row of numbers of the living, day by day, beside what waits -/
theorem check_sim {kind mark horn brass open_ health f g d colds waiting cs cold : Nat → Int32} {n nc ng mo w N : Nat} (H : FW kind mark horn brass open_ health) (hn : n ≤ 8) (h0 : d 0 = nI n) (h : TX f nc) (h2 : TD f nc 0 d) (hg : TX g ng) (hg2 : TD g ng 1 d) (hl : LD mo w d) (hN : N ≤ 20) (hc : ∀ k, cold k = clI g ng w (d 6 + nI k) (d 5)) (hcc : ∀ k, k < N → colds k = cold k) (hw : ∀ k, k < 20 → d (78 + k) = waiting k) (J : (Nat → Int32) → (Nat → Int32) → (Nat → Int32) → Int32 → Option ((Nat → Int32) × (Nat → Int32) × (Nat → Int32) × (Nat → Int32) × (Int32))) : ∀ (m k fu fu2 : Nat) (st dk names pile : Nat → Int32) (fl : Int32), fl = 0 → k + m = N → m < fu → m + 1 < fu2 → AhR kind mark horn brass open_ health f nc cold n d k dk → ∃ st' hl' r j d' n' p', f_X6_check_L44 0 f (nI nc) waiting (nI N) cs colds (nI n) kind mark horn brass open_ fu st (hIt f nc kind mark open_ health cold n k) (nI k) = some (st', cs, 0, nI n, kind, mark, horn, brass, open_, hl', colds, r) ∧ f_X7_check_L24 (nI N) J fu2 dk names pile fl (nI k) = J d' n' p' r ∧ AhR kind mark horn brass open_ health f nc cold n d j d' := by
  intro m
  induction m with
  | zero =>
    intro k fu fu2 st dk names pile fl hfl hk hf hf2 A
    obtain ⟨fu, rfl⟩ : ∃ q, fu = q + 1 := ⟨fu - 1, by omega⟩
    obtain ⟨fu2, rfl⟩ : ∃ q, fu2 = q + 1 := ⟨fu2 - 1, by omega⟩
    obtain rfl : k = N := by omega
    simp only [f_X6_check_L44, f_X7_check_L24]
    rw [if_pos (nI_le (Nat.le_refl _) (by omega)), if_pos (nI_le (Nat.le_refl _) (by omega))]
    exact ⟨_, _, _, _, _, _, _, rfl, by rw [hfl], A⟩
  | succ m ih =>
    intro k fu fu2 st dk names pile fl hfl hk hf hf2 A
    obtain ⟨fu, rfl⟩ : ∃ q, fu = q + 1 := ⟨fu - 1, by omega⟩
    obtain ⟨fu2, rfl⟩ : ∃ q, fu2 = q + 1 := ⟨fu2 - 1, by omega⟩
    have Hk : FW kind mark horn brass open_ (hIt f nc kind mark open_ health cold n k) := H.it
    obtain ⟨s1, e1⟩ := e0_passDay (c := cold k) Hk hn h st
    rw [hI_s] at e1
    obtain ⟨d', n1, p1, e2, A'⟩ := ah_s H hn h0 h h2 hg hg2 hl (hc k) A names pile
    have Hk2 : FW kind mark horn brass open_ (hIt f nc kind mark open_ health cold n (k + 1)) := H.it
    have w78 : d' (78 + k) = waiting k := (A'.2.2 _ (by unfold HP; omega) (by omega)).trans (hw k (by omega))
    have ix : (78 : Int32) + nI k = nI (78 + k) := nI_add 78 k
    simp only [f_X6_check_L44, f_X7_check_L24]
    rw [if_neg (nI_ge (by omega) (by omega)), rdA_i rfl (by omega), hcc k (by omega), e1, bdE2, rdA_i rfl (by omega), e0_living (fun p hp => (Hk2 p hp).2.2.2.2.2) hn, bdE1, pc_lv hn, bdE1, if_neg (nI_ge (by omega) (by omega)), if_pos hfl, e2, bdE3, rdA_i ix (by omega), w78, e7_alive (fun p hp => (A'.1 p hp).2.2.2.2.2) ((A'.2.2 0 (by unfold HP; omega) (by decide)).trans h0) hn, bdE1]
    simp only [jnE, nmE, nI_1]
    by_cases z : waiting k = nI (pcN (lvN (hIt f nc kind mark open_ health cold n (k + 1)) n))
    · rw [if_pos z, if_pos z]
      exact ih (k + 1) fu fu2 s1 d' n1 p1 0 rfl (by omega) (by omega) (by omega) A'
    · have e3 : (1 : Int32) + nI k = nI (1 + k) := nI_add 1 k
      rw [if_neg z, if_neg z, e3]
      obtain ⟨fu2, rfl⟩ : ∃ q, fu2 = q + 1 := ⟨fu2 - 1, by omega⟩
      simp only [f_X7_check_L24]
      refine ⟨_, _, _, k + 1, d', n1, p1, rfl, ?_, A'⟩
      by_cases y : nI N ≤ nI (k + 1)
      · rw [if_pos y]
      · rw [if_neg y, if_neg (nI_ne0 (by omega) (by omega))]
set_option maxHeartbeats 1000000 in
set_option maxRecDepth 10000 in
theorem st_check {c_now_folk_size : Int32} {c_now_folk_kind : Nat → Int32} {c_now_folk_mark : Nat → Int32} {c_now_folk_horn : Nat → Int32} {c_now_folk_brass : Nat → Int32} {c_now_folk_open : Nat → Int32} {c_now_folk_health : Nat → Int32} {c_now_motions : Int32} {c_now_quorum : Nat → Int32} {c_now_favour : Nat → Int32} {c_now_laws : Int32} {c_now_urnHorn : Int32} {c_now_urnBrass : Int32} {c_now_thread : Int32} {c_now_winter : Int32} {c_now_day : Int32} {c_now_chill_use : Int32} {c_now_chill_codes : Nat → Int32} {c_now_chill_size : Int32} {c_now_chill_stack : Nat → Int32} {c_now_cold_use : Int32} {c_now_cold_codes : Nat → Int32} {c_now_cold_size : Int32} {c_now_cold_stack : Nat → Int32} {c_now_tape : Nat → Int32} {c_now_taped : Int32} {c_now_z : Int32} {c_now_waiting : Nat → Int32} {c_now_waits : Int32} {c_kept_folk_size : Int32} {c_kept_folk_kind : Nat → Int32} {c_kept_folk_mark : Nat → Int32} {c_kept_folk_horn : Nat → Int32} {c_kept_folk_brass : Nat → Int32} {c_kept_folk_open : Nat → Int32} {c_kept_folk_health : Nat → Int32} {c_kept_motions : Int32} {c_kept_quorum : Nat → Int32} {c_kept_favour : Nat → Int32} {c_kept_laws : Int32} {c_kept_urnHorn : Int32} {c_kept_urnBrass : Int32} {c_kept_thread : Int32} {c_kept_winter : Int32} {c_kept_day : Int32} {c_kept_chill_use : Int32} {c_kept_chill_codes : Nat → Int32} {c_kept_chill_size : Int32} {c_kept_cold_use : Int32} {c_kept_cold_codes : Nat → Int32} {c_kept_cold_size : Int32} {c_kept_tape : Nat → Int32} {c_kept_taped : Int32} {c_kept_z : Int32} {c_kept_waiting : Nat → Int32} {c_kept_waits : Int32} {c_thought_size : Int32} {c_thought_kind : Nat → Int32} {c_thought_mark : Nat → Int32} {c_thought_horn : Nat → Int32} {c_thought_brass : Nat → Int32} {c_thought_open : Nat → Int32} {c_thought_health : Nat → Int32} {c_voices_traces : Nat → Int32} {c_voices_traced : Int32} {c_sh_bits : Nat → Int32} {c_sh_size : Nat → Int32} {c_sh_numbers : Nat → Nat → Int32} {c_colds : Nat → Int32} {c_errors : Nat → Int32} {c_images : Int32} {m_d : Nat → Int32} {m_kept : Nat → Int32} {m_images : Int32} {m_found : Nat → Int32} {m_aside : Nat → Int32} {m_names : Nat → Int32} {m_pile : Nat → Int32} {m_traced : Nat → Int32} {m_traceMany : Int32} {m_bitsOf : Nat → Int32} {m_sizeOf : Nat → Int32} {m_number : Nat → Int32} (R : Rel c_now_folk_size c_now_folk_kind c_now_folk_mark c_now_folk_horn c_now_folk_brass c_now_folk_open c_now_folk_health c_now_motions c_now_quorum c_now_favour c_now_laws c_now_urnHorn c_now_urnBrass c_now_thread c_now_winter c_now_day c_now_chill_use c_now_chill_codes c_now_chill_size c_now_cold_use c_now_cold_codes c_now_cold_size c_now_tape c_now_taped c_now_z c_now_waiting c_now_waits c_kept_folk_size c_kept_folk_kind c_kept_folk_mark c_kept_folk_horn c_kept_folk_brass c_kept_folk_open c_kept_folk_health c_kept_motions c_kept_quorum c_kept_favour c_kept_laws c_kept_urnHorn c_kept_urnBrass c_kept_thread c_kept_winter c_kept_day c_kept_chill_use c_kept_chill_codes c_kept_chill_size c_kept_cold_use c_kept_cold_codes c_kept_cold_size c_kept_tape c_kept_taped c_kept_z c_kept_waiting c_kept_waits c_voices_traces c_voices_traced c_sh_bits c_sh_size c_sh_numbers c_errors c_images m_d m_kept m_images m_found m_traced m_traceMany m_bitsOf m_sizeOf m_number)  : ∃ (x_now_chill_stack : Nat → Int32) (x_now_cold_stack : Nat → Int32) (x_now_waits : Int32) (x_thought_size : Int32) (x_thought_kind : Nat → Int32) (x_thought_mark : Nat → Int32) (x_thought_horn : Nat → Int32) (x_thought_brass : Nat → Int32) (x_thought_open : Nat → Int32) (x_thought_health : Nat → Int32) (x_colds : Nat → Int32) (r : Int32) (y_d : Nat → Int32) (y_aside : Nat → Int32) (y_names : Nat → Int32) (y_pile : Nat → Int32), f_X6_check c_now_folk_size c_now_folk_kind c_now_folk_mark c_now_folk_horn c_now_folk_brass c_now_folk_open c_now_folk_health c_now_laws c_now_winter c_now_day c_now_chill_use c_now_chill_codes c_now_chill_size c_now_chill_stack c_now_cold_use c_now_cold_codes c_now_cold_size c_now_cold_stack c_now_waiting c_now_waits c_thought_size c_thought_kind c_thought_mark c_thought_horn c_thought_brass c_thought_open c_thought_health c_colds  = some (x_now_chill_stack, x_now_cold_stack, x_now_waits, x_thought_size, x_thought_kind, x_thought_mark, x_thought_horn, x_thought_brass, x_thought_open, x_thought_health, x_colds, r) ∧ f_X7_check m_d m_aside m_names m_pile  = some (y_d, y_aside, y_names, y_pile, r) ∧ Rel c_now_folk_size c_now_folk_kind c_now_folk_mark c_now_folk_horn c_now_folk_brass c_now_folk_open c_now_folk_health c_now_motions c_now_quorum c_now_favour c_now_laws c_now_urnHorn c_now_urnBrass c_now_thread c_now_winter c_now_day c_now_chill_use c_now_chill_codes c_now_chill_size c_now_cold_use c_now_cold_codes c_now_cold_size c_now_tape c_now_taped c_now_z c_now_waiting x_now_waits c_kept_folk_size c_kept_folk_kind c_kept_folk_mark c_kept_folk_horn c_kept_folk_brass c_kept_folk_open c_kept_folk_health c_kept_motions c_kept_quorum c_kept_favour c_kept_laws c_kept_urnHorn c_kept_urnBrass c_kept_thread c_kept_winter c_kept_day c_kept_chill_use c_kept_chill_codes c_kept_chill_size c_kept_cold_use c_kept_cold_codes c_kept_cold_size c_kept_tape c_kept_taped c_kept_z c_kept_waiting c_kept_waits c_voices_traces c_voices_traced c_sh_bits c_sh_size c_sh_numbers c_errors c_images y_d m_kept m_images m_found m_traced m_traceMany m_bitsOf m_sizeOf m_number := by
  obtain ⟨⟨hPp, hMo, hSc, hTa, hWa, hUs, hCh, hCo⟩, hIm, hKe, hKu, hEr, hTr, hTn, hTg, hSh⟩ := R
  subst hEr
  obtain ⟨n, hn, hsz, hD0, H, D⟩ := PplR_out hPp
  subst hsz
  obtain ⟨mo, w, hmo, hlw, hL, hQ⟩ := MotR_out hMo
  subst hmo
  subst hlw
  have hmo6 : mo ≤ 6 := hL.1
  have hUs0 := hUs
  obtain ⟨hU0, hU1⟩ := hUs0
  subst hU0
  subst hU1
  obtain ⟨nc, hnc, hX, hY⟩ := TextR_0 hCh
  subst hnc
  obtain ⟨ng, hng, hX1, hY1⟩ := TextR_1 hCo
  subst hng
  have hSc0 := hSc
  obtain ⟨⟨u1, u2⟩, ⟨u3, u4⟩, ⟨u5, u6⟩, ⟨u7, u8⟩, ⟨u9, u10⟩, u11⟩ := hSc0
  obtain ⟨cold, hcold⟩ : ∃ cold : Nat → Int32, cold = fun k => clI c_now_cold_codes ng w (c_now_day + nI k) c_now_winter := ⟨_, rfl⟩
  have hc7 : ∀ k, cold k = clI c_now_cold_codes ng w (m_d 6 + nI k) (m_d 5) := fun k => by rw [hcold, u7, u9]
  obtain ⟨hW1, ⟨N, hN, hW2⟩, hW3⟩ := hWa
  subst hW2
  have F0 : ∀ i, i ≠ 9 → upd m_d 9 0 i = m_d i := fun i hi => upd_n hi
  have D2 : FD c_now_folk_kind c_now_folk_mark c_now_folk_horn c_now_folk_brass c_now_folk_open c_now_folk_health (upd m_d 9 0) := D.fr (fun i h1 h2 => F0 i (by omega))
  obtain ⟨s1, e1⟩ := e6_foresee (g := c_now_cold_codes) (colds := c_colds) (day := c_now_day) (winter := c_now_winter) (N := N) hX1 hL.w (by omega) c_now_cold_stack
  rw [← hcold] at e1
  have hcc : ∀ k, k < N → ovF cold c_colds N k = cold k := fun k hk => ov_in hk
  have C := check_sim (kind := ovF c_now_folk_kind c_thought_kind 8) (mark := ovF c_now_folk_mark c_thought_mark 8) (horn := ovF c_now_folk_horn c_thought_horn 8) (brass := ovF c_now_folk_brass c_thought_brass 8) (open_ := ovF c_now_folk_open c_thought_open 8) (health := ovF c_now_folk_health c_thought_health 8) (waiting := c_now_waiting) (cs := s1) H.cp hn ((F0 0 (by decide)).trans hD0) hX (hY.frame (fun i hi => F0 i (by omega))) hX1 (hY1.frame (fun i hi => F0 i (by omega))) (hL.frame (fun i hi => F0 i (by omega))) hN (fun k => (hc7 k).trans (by rw [F0 6 (by decide), F0 5 (by decide)])) hcc (fun k hk => (F0 _ (by omega)).trans (hW3 k hk)) (fun v_d_4 v_names_5 v_pile_6 l2_7 => bd1 (f_X7_putBack v_d_4 (ovF (upd m_d 9 0) m_aside 76)) (fun v_d_8 => some (v_d_8, ovF (upd m_d 9 0) m_aside 76, v_names_5, v_pile_6, l2_7))) N 0 300 300 c_now_chill_stack (upd m_d 9 0) m_names m_pile 0 rfl (by omega) (by omega) (by omega) (ah_0 D2.cp)
  obtain ⟨st', hl', r, j, d', n', p', e2, e3, A⟩ := C
  rw [hI_z] at e2
  have e4 := e3
  rw [ah_back A, bdE1] at e4
  refine ⟨?_, ?_, ?_, ?_, ?_, ?_, ?_, ?_, ?_, ?_, ?_, ?_, ?_, ?_, ?_, ?_, ?c, ?m, ?r⟩
  case c =>
    simp only [f_X6_check]
    rw [e1, bdE2, e0_copy, bdE7]
    exact e2
  case m =>
    simp only [f_X7_check]
    rw [rdA_i (i := 9) (k := 9) rfl (by decide), wrA_i (i := 9) (k := 9) rfl (by decide), e7_keep, bdE1, hW1]
    simp only [jnE]
    exact e4
  case r =>
    refine ⟨⟨PplR_of hn ((F0 0 (by decide)).trans hD0) H D2, hMo.frame (fun i hi => F0 i (by omega)), hSc.frame (fun i hi => F0 i (by omega)), hTa.frame (fun i hi => F0 i (by omega)), ⟨upd_s, ⟨0, by decide, rfl⟩, fun i hi => (F0 _ (by omega)).trans (hW3 i hi)⟩, hUs, hCh.frame (F0 76 (by decide)) (fun k _ => F0 _ (by omega)), hCo.frame (F0 77 (by decide)) (fun k _ => F0 _ (by omega))⟩, hIm, hKe, hKu, rfl, hTr, hTn, hTg, hSh⟩
set_option maxHeartbeats 1000000 in
set_option maxRecDepth 10000 in
theorem st_firstDay {c_now_folk_size : Int32} {c_now_folk_kind : Nat → Int32} {c_now_folk_mark : Nat → Int32} {c_now_folk_horn : Nat → Int32} {c_now_folk_brass : Nat → Int32} {c_now_folk_open : Nat → Int32} {c_now_folk_health : Nat → Int32} {c_now_motions : Int32} {c_now_quorum : Nat → Int32} {c_now_favour : Nat → Int32} {c_now_laws : Int32} {c_now_urnHorn : Int32} {c_now_urnBrass : Int32} {c_now_thread : Int32} {c_now_winter : Int32} {c_now_day : Int32} {c_now_chill_use : Int32} {c_now_chill_codes : Nat → Int32} {c_now_chill_size : Int32} {c_now_chill_stack : Nat → Int32} {c_now_cold_use : Int32} {c_now_cold_codes : Nat → Int32} {c_now_cold_size : Int32} {c_now_cold_stack : Nat → Int32} {c_now_tape : Nat → Int32} {c_now_taped : Int32} {c_now_z : Int32} {c_now_waiting : Nat → Int32} {c_now_waits : Int32} {c_kept_folk_size : Int32} {c_kept_folk_kind : Nat → Int32} {c_kept_folk_mark : Nat → Int32} {c_kept_folk_horn : Nat → Int32} {c_kept_folk_brass : Nat → Int32} {c_kept_folk_open : Nat → Int32} {c_kept_folk_health : Nat → Int32} {c_kept_motions : Int32} {c_kept_quorum : Nat → Int32} {c_kept_favour : Nat → Int32} {c_kept_laws : Int32} {c_kept_urnHorn : Int32} {c_kept_urnBrass : Int32} {c_kept_thread : Int32} {c_kept_winter : Int32} {c_kept_day : Int32} {c_kept_chill_use : Int32} {c_kept_chill_codes : Nat → Int32} {c_kept_chill_size : Int32} {c_kept_cold_use : Int32} {c_kept_cold_codes : Nat → Int32} {c_kept_cold_size : Int32} {c_kept_tape : Nat → Int32} {c_kept_taped : Int32} {c_kept_z : Int32} {c_kept_waiting : Nat → Int32} {c_kept_waits : Int32} {c_thought_size : Int32} {c_thought_kind : Nat → Int32} {c_thought_mark : Nat → Int32} {c_thought_horn : Nat → Int32} {c_thought_brass : Nat → Int32} {c_thought_open : Nat → Int32} {c_thought_health : Nat → Int32} {c_voices_traces : Nat → Int32} {c_voices_traced : Int32} {c_sh_bits : Nat → Int32} {c_sh_size : Nat → Int32} {c_sh_numbers : Nat → Nat → Int32} {c_colds : Nat → Int32} {c_errors : Nat → Int32} {c_images : Int32} {m_d : Nat → Int32} {m_kept : Nat → Int32} {m_images : Int32} {m_found : Nat → Int32} {m_aside : Nat → Int32} {m_names : Nat → Int32} {m_pile : Nat → Int32} {m_horn : Int32} {m_brass : Int32} {m_traced : Nat → Int32} {m_traceMany : Int32} {m_bitsOf : Nat → Int32} {m_sizeOf : Nat → Int32} {m_number : Nat → Int32} (R : Rel c_now_folk_size c_now_folk_kind c_now_folk_mark c_now_folk_horn c_now_folk_brass c_now_folk_open c_now_folk_health c_now_motions c_now_quorum c_now_favour c_now_laws c_now_urnHorn c_now_urnBrass c_now_thread c_now_winter c_now_day c_now_chill_use c_now_chill_codes c_now_chill_size c_now_cold_use c_now_cold_codes c_now_cold_size c_now_tape c_now_taped c_now_z c_now_waiting c_now_waits c_kept_folk_size c_kept_folk_kind c_kept_folk_mark c_kept_folk_horn c_kept_folk_brass c_kept_folk_open c_kept_folk_health c_kept_motions c_kept_quorum c_kept_favour c_kept_laws c_kept_urnHorn c_kept_urnBrass c_kept_thread c_kept_winter c_kept_day c_kept_chill_use c_kept_chill_codes c_kept_chill_size c_kept_cold_use c_kept_cold_codes c_kept_cold_size c_kept_tape c_kept_taped c_kept_z c_kept_waiting c_kept_waits c_voices_traces c_voices_traced c_sh_bits c_sh_size c_sh_numbers c_errors c_images m_d m_kept m_images m_found m_traced m_traceMany m_bitsOf m_sizeOf m_number) (p0 : Int32) : ∃ (x_now_chill_stack : Nat → Int32) (x_now_cold_stack : Nat → Int32) (x_thought_size : Int32) (x_thought_kind : Nat → Int32) (x_thought_mark : Nat → Int32) (x_thought_horn : Nat → Int32) (x_thought_brass : Nat → Int32) (x_thought_open : Nat → Int32) (x_thought_health : Nat → Int32) (x_colds : Nat → Int32) (x_errors : Nat → Int32) (r : Int32) (y_d : Nat → Int32) (y_found : Nat → Int32) (y_aside : Nat → Int32) (y_names : Nat → Int32) (y_pile : Nat → Int32) (y_horn : Int32) (y_brass : Int32), f_X6_firstDay c_now_folk_size c_now_folk_kind c_now_folk_mark c_now_folk_horn c_now_folk_brass c_now_folk_open c_now_folk_health c_now_motions c_now_quorum c_now_favour c_now_laws c_now_winter c_now_day c_now_chill_use c_now_chill_codes c_now_chill_size c_now_chill_stack c_now_cold_use c_now_cold_codes c_now_cold_size c_now_cold_stack c_thought_size c_thought_kind c_thought_mark c_thought_horn c_thought_brass c_thought_open c_thought_health c_colds c_errors p0 = some (x_now_chill_stack, x_now_cold_stack, x_thought_size, x_thought_kind, x_thought_mark, x_thought_horn, x_thought_brass, x_thought_open, x_thought_health, x_colds, x_errors, r) ∧ f_X7_firstDay m_d m_found m_aside m_names m_pile m_horn m_brass p0 = some (y_d, y_found, y_aside, y_names, y_pile, y_horn, y_brass, r) ∧ Rel c_now_folk_size c_now_folk_kind c_now_folk_mark c_now_folk_horn c_now_folk_brass c_now_folk_open c_now_folk_health c_now_motions c_now_quorum c_now_favour c_now_laws c_now_urnHorn c_now_urnBrass c_now_thread c_now_winter c_now_day c_now_chill_use c_now_chill_codes c_now_chill_size c_now_cold_use c_now_cold_codes c_now_cold_size c_now_tape c_now_taped c_now_z c_now_waiting c_now_waits c_kept_folk_size c_kept_folk_kind c_kept_folk_mark c_kept_folk_horn c_kept_folk_brass c_kept_folk_open c_kept_folk_health c_kept_motions c_kept_quorum c_kept_favour c_kept_laws c_kept_urnHorn c_kept_urnBrass c_kept_thread c_kept_winter c_kept_day c_kept_chill_use c_kept_chill_codes c_kept_chill_size c_kept_cold_use c_kept_cold_codes c_kept_cold_size c_kept_tape c_kept_taped c_kept_z c_kept_waiting c_kept_waits c_voices_traces c_voices_traced c_sh_bits c_sh_size c_sh_numbers x_errors c_images y_d m_kept m_images y_found m_traced m_traceMany m_bitsOf m_sizeOf m_number := by
  obtain ⟨⟨hPp, hMo, hSc, hTa, hWa, hUs, hCh, hCo⟩, hIm, hKe, hKu, hEr, hTr, hTn, hTg, hSh⟩ := R
  subst hEr
  obtain ⟨n, hn, hsz, hD0, H, D⟩ := PplR_out hPp
  subst hsz
  obtain ⟨mo, w, hmo, hlw, hL, hQ⟩ := MotR_out hMo
  subst hmo
  subst hlw
  have hmo6 : mo ≤ 6 := hL.1
  have hUs0 := hUs
  obtain ⟨hU0, hU1⟩ := hUs0
  subst hU0
  subst hU1
  obtain ⟨nc, hnc, hX, hY⟩ := TextR_0 hCh
  subst hnc
  obtain ⟨ng, hng, hX1, hY1⟩ := TextR_1 hCo
  subst hng
  have hSc0 := hSc
  obtain ⟨⟨u1, u2⟩, ⟨u3, u4⟩, ⟨u5, u6⟩, ⟨u7, u8⟩, ⟨u9, u10⟩, u11⟩ := hSc0
  obtain ⟨cold, hcold⟩ : ∃ cold : Nat → Int32, cold = fun k => clI c_now_cold_codes ng w (c_now_day + nI k) c_now_winter := ⟨_, rfl⟩
  have hc7 : ∀ k, cold k = clI c_now_cold_codes ng w (m_d 6 + nI k) (m_d 5) := fun k => by rw [hcold, u7, u9]
  by_cases hp : inb p0 mo = true
  · obtain ⟨m, hm, rfl⟩ := inb_of hp (by omega)
    obtain ⟨q1, ⟨s, hs, q2⟩, q3, q4⟩ := hQ m (by omega)
    have hm6 : m < 6 := by omega
    obtain ⟨s1, e1⟩ := e6_foresee (g := c_now_cold_codes) (colds := c_colds) (day := c_now_day) (winter := c_now_winter) (N := 60) hX1 hL.w (by omega) c_now_cold_stack
    rw [← hcold] at e1
    have hcc : ∀ k, k < 60 → ovF cold c_colds 60 k = cold k := fun k hk => ov_in hk
    obtain ⟨K, hK⟩ : ∃ K, K = ovF c_now_folk_kind c_thought_kind 8 := ⟨_, rfl⟩
    obtain ⟨MM, hMM⟩ : ∃ K, K = ovF c_now_folk_mark c_thought_mark 8 := ⟨_, rfl⟩
    obtain ⟨HO, hHO⟩ : ∃ K, K = ovF c_now_folk_horn c_thought_horn 8 := ⟨_, rfl⟩
    obtain ⟨BR, hBR⟩ : ∃ K, K = ovF c_now_folk_brass c_thought_brass 8 := ⟨_, rfl⟩
    obtain ⟨OP, hOP⟩ : ∃ K, K = ovF c_now_folk_open c_thought_open 8 := ⟨_, rfl⟩
    obtain ⟨HE, hHE⟩ : ∃ K, K = ovF c_now_folk_health c_thought_health 8 := ⟨_, rfl⟩
    have H2 : FW K MM HO BR OP HE := by
      subst hK hMM hHO hBR hOP hHE
      exact H.cp
    have D2 : FD K MM HO BR OP HE m_d := by
      subst hK hMM hHO hBR hOP hHE
      exact D.cp
    have cpy : f_X0_copy c_thought_size c_thought_kind c_thought_mark c_thought_horn c_thought_brass c_thought_open c_thought_health (nI n) c_now_folk_kind c_now_folk_mark c_now_folk_horn c_now_folk_brass c_now_folk_open c_now_folk_health = some (nI n, K, MM, HO, BR, OP, HE) := by
      subst hK hMM hHO hBR hOP hHE
      exact e0_copy
    have L : ∀ (J : (Nat → Int32) → (Nat → Int32) → (Nat → Int32) → Int32 → Int32 → Int32 → Option ((Nat → Int32) × (Nat → Int32) × (Nat → Int32) × (Nat → Int32) × (Nat → Int32) × (Int32) × (Int32) × (Int32))) (g k fu fu2 : Nat) (st dk names pile : Nat → Int32) (a b : Int32), k + g = 61 → g < fu → g < fu2 → AhR K MM HO BR OP HE c_now_chill_codes nc cold n m_d k dk → ∃ st' hl' i j d' n' p' a' b', i ≤ 61 ∧ f_X6_firstDay_L46 c_now_quorum c_now_favour 0 c_now_chill_codes (nI nc) c_errors (nI m) s1 (ovF cold c_colds 60) (nI n) K MM HO BR OP fu st (hIt c_now_chill_codes nc K MM OP HE cold n (min k 60)) (nI k) = (if i ≤ 60 then some (st', s1, nI n, K, MM, HO, BR, OP, hl', ovF cold c_colds 60, c_errors, nI i) else bd2 (f_X6_fail c_errors 2) (fun v_errors_14 r_15 => some (st', s1, nI n, K, MM, HO, BR, OP, hl', ovF cold c_colds 60, v_errors_14, r_15))) ∧ f_X7_firstDay_L20 (nI m) J fu2 dk names pile a b (nI k) = J d' n' p' a' b' (nI i) ∧ AhR K MM HO BR OP HE c_now_chill_codes nc cold n m_d j d' := by
      intro J g
      induction g with
      | zero =>
        intro k fu fu2 st dk names pile a b hk hf hf2 A
        obtain ⟨fu, rfl⟩ : ∃ q, fu = q + 1 := ⟨fu - 1, by omega⟩
        obtain ⟨fu2, rfl⟩ : ∃ q, fu2 = q + 1 := ⟨fu2 - 1, by omega⟩
        obtain rfl : k = 61 := by omega
        simp only [f_X6_firstDay_L46, f_X7_firstDay_L20]
        rw [if_pos (show (60 : Int32) < nI 61 by decide), if_pos (show (60 : Int32) < nI 61 by decide)]
        exact ⟨st, _, 61, 61, dk, names, pile, a, b, Nat.le_refl _, (if_neg (by decide)).symm, rfl, A⟩
      | succ g ih =>
        intro k fu fu2 st dk names pile a b hk hf hf2 A
        obtain ⟨fu, rfl⟩ : ∃ q, fu = q + 1 := ⟨fu - 1, by omega⟩
        obtain ⟨fu2, rfl⟩ : ∃ q, fu2 = q + 1 := ⟨fu2 - 1, by omega⟩
        have mk : min k 60 = k := by omega
        have Hk : FW K MM HO BR OP (hIt c_now_chill_codes nc K MM OP HE cold n k) := H2.it
        obtain ⟨d', n1, p1, e2, A'⟩ := ah_s H2 hn hD0 hX hY hX1 hY1 hL (hc7 k) A names pile
        obtain ⟨a1, b1, e3⟩ := e7_wouldPass (d := dk) Hk A.1 ((A.2.2 0 (by unfold HP; omega) (by decide)).trans hD0) hn hm6 ((A.2.2 _ (by unfold HP; omega) (by omega)).trans (q4.trans q2)) hs a b
        rw [A.2.2 (58 + 3 * m) (by unfold HP; omega) (by omega), q3] at e3
        rw [mk]
        simp only [f_X6_firstDay_L46, f_X7_firstDay_L20]
        rw [if_neg (show ¬ (60 : Int32) < nI k from nI_nlt (a := 60) (by omega) (by decide)), rdA_i rfl hm6, rdA_i rfl hm6, e0_wouldPass Hk hn, bdE1, if_neg (show ¬ (60 : Int32) < nI k from nI_nlt (a := 60) (by omega) (by decide)), e3, bdE3, q2]
        simp only [jnE, nmE, nI_1]
        by_cases z : wpI K MM HO BR (hIt c_now_chill_codes nc K MM OP HE cold n k) n (nI s) (c_now_quorum m) = 0
        · rw [if_pos z, if_pos z, e2, bdE3]
          by_cases y : k = 60
          · rw [if_pos (show (60 : Int32) ≤ nI k by rw [y]; decide)]
            have R := ih (k + 1) fu fu2 st d' n1 p1 a1 b1 (by omega) (by omega) (by omega) A'
            rw [show min (k + 1) 60 = k by omega] at R
            exact R
          · obtain ⟨s2, e4⟩ := e0_passDay (c := cold k) Hk hn hX st
            rw [hI_s] at e4
            rw [if_neg (show ¬ (60 : Int32) ≤ nI k from nI_ge (b := 60) (by omega) (by decide)), rdA_i rfl (by omega), hcc k (by omega), e4, bdE2]
            have R := ih (k + 1) fu fu2 s2 d' n1 p1 a1 b1 (by omega) (by omega) (by omega) A'
            rw [show min (k + 1) 60 = k + 1 by omega] at R
            exact R
        · rw [if_neg z, if_neg z]
          exact ⟨st, _, k, k, dk, names, pile, a1, b1, by omega, (if_pos (show k ≤ 60 by omega)).symm, rfl, A⟩
    obtain ⟨st', hl', i, j, d', n', p', a', b', hi, e2, e3, A⟩ := L (fun v_d_3 v_names_4 v_pile_5 v_horn_6 v_brass_7 l2_8 => bd1 (f_X7_putBack v_d_3 (ovF m_d m_aside 76)) (fun v_d_9 => (if l2_8 ≤ 60 then some (v_d_9, c_errors, ovF m_d m_aside 76, v_names_4, v_pile_5, v_horn_6, v_brass_7, l2_8) else bd2 (f_X7_finds c_errors 2) (fun v_found_10 r_11 => some (v_d_9, v_found_10, ovF m_d m_aside 76, v_names_4, v_pile_5, v_horn_6, v_brass_7, r_11))))) 61 0 300 300 c_now_chill_stack m_d m_names m_pile m_horn m_brass (by omega) (by omega) (by omega) (ah_0 D2)
    rw [show min 0 60 = 0 by decide, hI_z] at e2
    have e4 := e3
    rw [ah_back A, bdE1] at e4
    clear e3
    by_cases le : i ≤ 60
    · rw [if_pos le] at e2
      rw [if_pos (show nI i ≤ (60 : Int32) from nI_le (b := 60) le (by decide))] at e4
      refine ⟨?_, ?_, ?_, ?_, ?_, ?_, ?_, ?_, ?_, ?_, ?_, ?_, ?_, ?_, ?_, ?_, ?_, ?_, ?_, ?c, ?m, ?r⟩
      case c =>
        simp only [f_X6_firstDay, e5_has rfl (show mo < 1000 by omega), bdE1]
        rw [if_pos hp, if_neg (by decide), show f_X6_foreseeColds (nI w) c_now_day 1 c_now_cold_codes (nI ng) c_now_cold_stack c_colds c_now_winter 60 = _ from e1, bdE2, cpy, bdE7]
        exact e2
      case m =>
        simp only [f_X7_firstDay, e7_isMotion hL.2.2.1 (show mo < 1000 by omega), bdE1]
        rw [if_pos hp, if_neg (by decide), e7_keep, bdE1]
        simp only [jnE]
        exact e4
      case r => exact ⟨⟨hPp, hMo, hSc, hTa, hWa, hUs, hCh, hCo⟩, hIm, hKe, hKu, rfl, hTr, hTn, hTg, hSh⟩
    · rw [if_neg le, ef2, bdE2] at e2
      rw [if_neg (show ¬ nI i ≤ (60 : Int32) from nI_ge (a := 60) (by omega) (by omega)), eg2, bdE2] at e4
      refine ⟨?_, ?_, ?_, ?_, ?_, ?_, ?_, ?_, ?_, ?_, ?_, ?_, ?_, ?_, ?_, ?_, ?_, ?_, ?_, ?c, ?m, ?r⟩
      case c =>
        simp only [f_X6_firstDay, e5_has rfl (show mo < 1000 by omega), bdE1]
        rw [if_pos hp, if_neg (by decide), show f_X6_foreseeColds (nI w) c_now_day 1 c_now_cold_codes (nI ng) c_now_cold_stack c_colds c_now_winter 60 = _ from e1, bdE2, cpy, bdE7]
        exact e2
      case m =>
        simp only [f_X7_firstDay, e7_isMotion hL.2.2.1 (show mo < 1000 by omega), bdE1]
        rw [if_pos hp, if_neg (by decide), e7_keep, bdE1]
        simp only [jnE]
        exact e4
      case r => exact ⟨⟨hPp, hMo, hSc, hTa, hWa, hUs, hCh, hCo⟩, hIm, hKe, hKu, rfl, hTr, hTn, hTg, hSh⟩
  · refine ⟨?_, ?_, ?_, ?_, ?_, ?_, ?_, ?_, ?_, ?_, ?_, ?_, ?_, ?_, ?_, ?_, ?_, ?_, ?_, ?c, ?m, ?r⟩
    case c =>
      simp only [f_X6_firstDay, e5_has rfl (show mo < 1000 by omega), bdE1]
      rw [if_neg hp, if_pos rfl, ef1]
      rfl
    case m =>
      simp only [f_X7_firstDay, e7_isMotion hL.2.2.1 (show mo < 1000 by omega), bdE1]
      rw [if_neg hp, if_pos rfl, eg1]
      rfl
    case r => exact ⟨⟨hPp, hMo, hSc, hTa, hWa, hUs, hCh, hCo⟩, hIm, hKe, hKu, rfl, hTr, hTn, hTg, hSh⟩
