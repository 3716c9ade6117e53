set_option maxHeartbeats 1000000 in
set_option maxRecDepth 10000 in
theorem st_live {c_now_folk_size : Int32} {c_now_folk_kind : Nat → Int32} {c_now_folk_mark : Nat → Int32} {c_now_folk_horn : Nat → Int32} {c_now_folk_brass : Nat → Int32} {c_now_folk_open : Nat → Int32} {c_now_folk_health : Nat → Int32} {c_now_motions : Int32} {c_now_quorum : Nat → Int32} {c_now_favour : Nat → Int32} {c_now_laws : Int32} {c_now_urnHorn : Int32} {c_now_urnBrass : Int32} {c_now_thread : Int32} {c_now_winter : Int32} {c_now_day : Int32} {c_now_chill_use : Int32} {c_now_chill_codes : Nat → Int32} {c_now_chill_size : Int32} {c_now_chill_stack : Nat → Int32} {c_now_cold_use : Int32} {c_now_cold_codes : Nat → Int32} {c_now_cold_size : Int32} {c_now_cold_stack : Nat → Int32} {c_now_tape : Nat → Int32} {c_now_taped : Int32} {c_now_z : Int32} {c_now_waiting : Nat → Int32} {c_now_waits : Int32} {c_kept_folk_size : Int32} {c_kept_folk_kind : Nat → Int32} {c_kept_folk_mark : Nat → Int32} {c_kept_folk_horn : Nat → Int32} {c_kept_folk_brass : Nat → Int32} {c_kept_folk_open : Nat → Int32} {c_kept_folk_health : Nat → Int32} {c_kept_motions : Int32} {c_kept_quorum : Nat → Int32} {c_kept_favour : Nat → Int32} {c_kept_laws : Int32} {c_kept_urnHorn : Int32} {c_kept_urnBrass : Int32} {c_kept_thread : Int32} {c_kept_winter : Int32} {c_kept_day : Int32} {c_kept_chill_use : Int32} {c_kept_chill_codes : Nat → Int32} {c_kept_chill_size : Int32} {c_kept_cold_use : Int32} {c_kept_cold_codes : Nat → Int32} {c_kept_cold_size : Int32} {c_kept_tape : Nat → Int32} {c_kept_taped : Int32} {c_kept_z : Int32} {c_kept_waiting : Nat → Int32} {c_kept_waits : Int32} {c_voices_traces : Nat → Int32} {c_voices_traced : Int32} {c_sh_bits : Nat → Int32} {c_sh_size : Nat → Int32} {c_sh_numbers : Nat → Nat → Int32} {c_colds : Nat → Int32} {c_errors : Nat → Int32} {c_images : Int32} {m_d : Nat → Int32} {m_kept : Nat → Int32} {m_images : Int32} {m_found : Nat → Int32} {m_aside : Nat → Int32} {m_names : Nat → Int32} {m_pile : Nat → Int32} {m_traced : Nat → Int32} {m_traceMany : Int32} {m_bitsOf : Nat → Int32} {m_sizeOf : Nat → Int32} {m_number : Nat → Int32} (R : Rel c_now_folk_size c_now_folk_kind c_now_folk_mark c_now_folk_horn c_now_folk_brass c_now_folk_open c_now_folk_health c_now_motions c_now_quorum c_now_favour c_now_laws c_now_urnHorn c_now_urnBrass c_now_thread c_now_winter c_now_day c_now_chill_use c_now_chill_codes c_now_chill_size c_now_cold_use c_now_cold_codes c_now_cold_size c_now_tape c_now_taped c_now_z c_now_waiting c_now_waits c_kept_folk_size c_kept_folk_kind c_kept_folk_mark c_kept_folk_horn c_kept_folk_brass c_kept_folk_open c_kept_folk_health c_kept_motions c_kept_quorum c_kept_favour c_kept_laws c_kept_urnHorn c_kept_urnBrass c_kept_thread c_kept_winter c_kept_day c_kept_chill_use c_kept_chill_codes c_kept_chill_size c_kept_cold_use c_kept_cold_codes c_kept_cold_size c_kept_tape c_kept_taped c_kept_z c_kept_waiting c_kept_waits c_voices_traces c_voices_traced c_sh_bits c_sh_size c_sh_numbers c_errors c_images m_d m_kept m_images m_found m_traced m_traceMany m_bitsOf m_sizeOf m_number) (p0 : Int32) : ∃ (x_now_chill_stack : Nat → Int32) (x_now_cold_stack : Nat → Int32) (x_colds : Nat → Int32) (x_errors : Nat → Int32) (r : Int32) (y_d : Nat → Int32) (y_found : Nat → Int32) (y_aside : Nat → Int32) (y_names : Nat → Int32) (y_pile : Nat → Int32), f_X6_live c_now_folk_size c_now_folk_kind c_now_folk_mark c_now_folk_open c_now_folk_health c_now_laws c_now_winter c_now_day c_now_chill_use c_now_chill_codes c_now_chill_size c_now_chill_stack c_now_cold_use c_now_cold_codes c_now_cold_size c_now_cold_stack c_colds c_errors p0 = some (x_now_chill_stack, x_now_cold_stack, x_colds, x_errors, r) ∧ f_X7_live m_d m_found m_aside m_names m_pile p0 = some (y_d, y_found, y_aside, y_names, y_pile, r) ∧ Rel c_now_folk_size c_now_folk_kind c_now_folk_mark c_now_folk_horn c_now_folk_brass c_now_folk_open c_now_folk_health c_now_motions c_now_quorum c_now_favour c_now_laws c_now_urnHorn c_now_urnBrass c_now_thread c_now_winter c_now_day c_now_chill_use c_now_chill_codes c_now_chill_size c_now_cold_use c_now_cold_codes c_now_cold_size c_now_tape c_now_taped c_now_z c_now_waiting c_now_waits c_kept_folk_size c_kept_folk_kind c_kept_folk_mark c_kept_folk_horn c_kept_folk_brass c_kept_folk_open c_kept_folk_health c_kept_motions c_kept_quorum c_kept_favour c_kept_laws c_kept_urnHorn c_kept_urnBrass c_kept_thread c_kept_winter c_kept_day c_kept_chill_use c_kept_chill_codes c_kept_chill_size c_kept_cold_use c_kept_cold_codes c_kept_cold_size c_kept_tape c_kept_taped c_kept_z c_kept_waiting c_kept_waits c_voices_traces c_voices_traced c_sh_bits c_sh_size c_sh_numbers x_errors c_images y_d m_kept m_images y_found m_traced m_traceMany m_bitsOf m_sizeOf m_number := by
  obtain ⟨⟨hPp, hMo, hSc, hTa, hWa, hUs, hCh, hCo⟩, hIm, hKe, hKu, hEr, hTr, hTn, hTg, hSh⟩ := R
  subst hEr
  obtain ⟨n, hn, hsz, hD0, H, D⟩ := PplR_out hPp
  subst hsz
  obtain ⟨mo, w, hmo, hlw, hL, hQ⟩ := MotR_out hMo
  subst hmo
  subst hlw
  have hmo6 : mo ≤ 6 := hL.1
  have hUs0 := hUs
  obtain ⟨hU0, hU1⟩ := hUs0
  subst hU0
  subst hU1
  obtain ⟨nc, hnc, hX, hY⟩ := TextR_0 hCh
  subst hnc
  obtain ⟨ng, hng, hX1, hY1⟩ := TextR_1 hCo
  subst hng
  have hSc0 := hSc
  obtain ⟨⟨u1, u2⟩, ⟨u3, u4⟩, ⟨u5, u6⟩, ⟨u7, u8⟩, ⟨u9, u10⟩, u11⟩ := hSc0
  obtain ⟨cold, hcold⟩ : ∃ cold : Nat → Int32, cold = fun k => clI c_now_cold_codes ng w (c_now_day + nI k) c_now_winter := ⟨_, rfl⟩
  have hc7 : ∀ k, cold k = clI c_now_cold_codes ng w (m_d 6 + nI k) (m_d 5) := fun k => by rw [hcold, u7, u9]
  by_cases hp : inb p0 61 = true
  · obtain ⟨N, hN, rfl⟩ := inb_of hp (by decide)
    obtain ⟨s1, e1⟩ := e6_foresee (g := c_now_cold_codes) (colds := c_colds) (day := c_now_day) (winter := c_now_winter) (N := N) hX1 hL.w (by omega) c_now_cold_stack
    obtain ⟨d', n1, p1, e2, A⟩ := e7_daysGo (cold := cold) (N := N) H hn hD0 hX hY hX1 hY1 hL (by omega) hc7 D m_names m_pile
    rw [← hcold] at e1
    have hcc : ∀ k, k < N → ovF cold c_colds N k = cold k := fun k hk => ov_in hk
    have L : ∀ (m k fu : Nat) (st : Nat → Int32), k + m = n → m < fu → ∃ st', f_X6_live_L41 (nI n) c_now_folk_kind c_now_folk_mark c_now_folk_open c_now_folk_health 0 c_now_chill_codes (nI nc) c_errors (nI N) s1 (ovF cold c_colds N) fu st (nI (lvN (hIt c_now_chill_codes nc c_now_folk_kind c_now_folk_mark c_now_folk_open c_now_folk_health cold n N) k)) (nI k) = some (st', s1, ovF cold c_colds N, c_errors, nI (lvN (hIt c_now_chill_codes nc c_now_folk_kind c_now_folk_mark c_now_folk_open c_now_folk_health cold n N) n)) := by
      intro m
      induction m with
      | zero =>
        intro k fu st hk hf
        obtain ⟨fu, rfl⟩ : ∃ q, fu = q + 1 := ⟨fu - 1, by omega⟩
        obtain rfl : k = n := by omega
        simp only [f_X6_live_L41]
        rw [if_pos (nI_le (Nat.le_refl _) (by omega))]
        exact ⟨_, rfl⟩
      | succ m ih =>
        intro k fu st hk hf
        obtain ⟨fu, rfl⟩ : ∃ q, fu = q + 1 := ⟨fu - 1, by omega⟩
        simp only [f_X6_live_L41]
        obtain ⟨s2, e3⟩ := e6_lasts (mark := c_now_folk_mark) (o := c_now_folk_open k) (health := c_now_folk_health) hX (show k < 8 by omega) (H k (by omega)).1 (show N ≤ 60 by omega) hcc st
        rw [if_neg (nI_ge (by omega) (by omega)), rdA_i rfl (by omega), e3, bdE2]
        simp only [jnE, nmE, nI_1]
        have R := ih (k + 1) fu s2 (by omega) (by omega)
        simp only [lvN] at R
        rw [hI_in (show k < n by omega)] at R
        by_cases z : tjI c_now_chill_codes nc (c_now_folk_kind k) (c_now_folk_mark k) (c_now_folk_open k) cold (c_now_folk_health k) N = 0
        · rw [if_pos z] at R ⊢
          rw [if_pos rfl]
          exact R
        · rw [if_neg z] at R ⊢
          rw [if_neg (by decide), (pc_set (by omega) (lvn_lt k)).2]
          exact R
    obtain ⟨st', e4⟩ := L n 0 300 c_now_chill_stack (by omega) (by omega)
    refine ⟨?_, ?_, ?_, ?_, ?_, ?_, ?_, ?_, ?_, ?_, ?c, ?m, ?r⟩
    case c =>
      simp only [f_X6_live, jnE]
      rw [rngC 61 (by decide), if_pos hp, e1, bdE2]
      exact e4
    case m =>
      simp only [f_X7_live]
      rw [e7_inb 61 (by decide), bdE1, b01, if_pos hp, e7_keep, bdE1, e2, bdE3, e7_aliveSet (fun p hp => (A.1 p hp).2.2.2.2.2) ((A.2.2 0 (by unfold HP; omega) (by decide)).trans hD0) hn, bdE1, ah_back A, bdE1]
    case r => exact ⟨⟨hPp, hMo, hSc, hTa, hWa, hUs, hCh, hCo⟩, hIm, hKe, hKu, rfl, hTr, hTn, hTg, hSh⟩
  · refine ⟨?_, ?_, ?_, ?_, ?_, ?_, ?_, ?_, ?_, ?_, ?c, ?m, ?r⟩
    case c =>
      simp only [f_X6_live, jnE]
      rw [rngC 61 (by decide), if_neg hp, ef1]
      rfl
    case m =>
      simp only [f_X7_live]
      rw [e7_inb 61 (by decide), bdE1, b01, if_neg hp, eg1]
      rfl
    case r => exact ⟨⟨hPp, hMo, hSc, hTa, hWa, hUs, hCh, hCo⟩, hIm, hKe, hKu, rfl, hTr, hTn, hTg, hSh⟩
set_option maxHeartbeats 1000000 in
set_option maxRecDepth 10000 in
theorem st_freezes {c_now_folk_size : Int32} {c_now_folk_kind : Nat → Int32} {c_now_folk_mark : Nat → Int32} {c_now_folk_horn : Nat → Int32} {c_now_folk_brass : Nat → Int32} {c_now_folk_open : Nat → Int32} {c_now_folk_health : Nat → Int32} {c_now_motions : Int32} {c_now_quorum : Nat → Int32} {c_now_favour : Nat → Int32} {c_now_laws : Int32} {c_now_urnHorn : Int32} {c_now_urnBrass : Int32} {c_now_thread : Int32} {c_now_winter : Int32} {c_now_day : Int32} {c_now_chill_use : Int32} {c_now_chill_codes : Nat → Int32} {c_now_chill_size : Int32} {c_now_chill_stack : Nat → Int32} {c_now_cold_use : Int32} {c_now_cold_codes : Nat → Int32} {c_now_cold_size : Int32} {c_now_cold_stack : Nat → Int32} {c_now_tape : Nat → Int32} {c_now_taped : Int32} {c_now_z : Int32} {c_now_waiting : Nat → Int32} {c_now_waits : Int32} {c_kept_folk_size : Int32} {c_kept_folk_kind : Nat → Int32} {c_kept_folk_mark : Nat → Int32} {c_kept_folk_horn : Nat → Int32} {c_kept_folk_brass : Nat → Int32} {c_kept_folk_open : Nat → Int32} {c_kept_folk_health : Nat → Int32} {c_kept_motions : Int32} {c_kept_quorum : Nat → Int32} {c_kept_favour : Nat → Int32} {c_kept_laws : Int32} {c_kept_urnHorn : Int32} {c_kept_urnBrass : Int32} {c_kept_thread : Int32} {c_kept_winter : Int32} {c_kept_day : Int32} {c_kept_chill_use : Int32} {c_kept_chill_codes : Nat → Int32} {c_kept_chill_size : Int32} {c_kept_cold_use : Int32} {c_kept_cold_codes : Nat → Int32} {c_kept_cold_size : Int32} {c_kept_tape : Nat → Int32} {c_kept_taped : Int32} {c_kept_z : Int32} {c_kept_waiting : Nat → Int32} {c_kept_waits : Int32} {c_voices_traces : Nat → Int32} {c_voices_traced : Int32} {c_sh_bits : Nat → Int32} {c_sh_size : Nat → Int32} {c_sh_numbers : Nat → Nat → Int32} {c_colds : Nat → Int32} {c_errors : Nat → Int32} {c_images : Int32} {m_d : Nat → Int32} {m_kept : Nat → Int32} {m_images : Int32} {m_found : Nat → Int32} {m_aside : Nat → Int32} {m_names : Nat → Int32} {m_pile : Nat → Int32} {m_traced : Nat → Int32} {m_traceMany : Int32} {m_bitsOf : Nat → Int32} {m_sizeOf : Nat → Int32} {m_number : Nat → Int32} (R : Rel c_now_folk_size c_now_folk_kind c_now_folk_mark c_now_folk_horn c_now_folk_brass c_now_folk_open c_now_folk_health c_now_motions c_now_quorum c_now_favour c_now_laws c_now_urnHorn c_now_urnBrass c_now_thread c_now_winter c_now_day c_now_chill_use c_now_chill_codes c_now_chill_size c_now_cold_use c_now_cold_codes c_now_cold_size c_now_tape c_now_taped c_now_z c_now_waiting c_now_waits c_kept_folk_size c_kept_folk_kind c_kept_folk_mark c_kept_folk_horn c_kept_folk_brass c_kept_folk_open c_kept_folk_health c_kept_motions c_kept_quorum c_kept_favour c_kept_laws c_kept_urnHorn c_kept_urnBrass c_kept_thread c_kept_winter c_kept_day c_kept_chill_use c_kept_chill_codes c_kept_chill_size c_kept_cold_use c_kept_cold_codes c_kept_cold_size c_kept_tape c_kept_taped c_kept_z c_kept_waiting c_kept_waits c_voices_traces c_voices_traced c_sh_bits c_sh_size c_sh_numbers c_errors c_images m_d m_kept m_images m_found m_traced m_traceMany m_bitsOf m_sizeOf m_number) (p0 : Int32) : ∃ (x_now_chill_stack : Nat → Int32) (x_now_cold_stack : Nat → Int32) (x_colds : Nat → Int32) (x_errors : Nat → Int32) (r : Int32) (y_d : Nat → Int32) (y_found : Nat → Int32) (y_aside : Nat → Int32) (y_names : Nat → Int32) (y_pile : Nat → Int32), f_X6_freezes c_now_folk_size c_now_folk_kind c_now_folk_mark c_now_folk_open c_now_folk_health c_now_laws c_now_winter c_now_day c_now_chill_use c_now_chill_codes c_now_chill_size c_now_chill_stack c_now_cold_use c_now_cold_codes c_now_cold_size c_now_cold_stack c_colds c_errors p0 = some (x_now_chill_stack, x_now_cold_stack, x_colds, x_errors, r) ∧ f_X7_freezes m_d m_found m_aside m_names m_pile p0 = some (y_d, y_found, y_aside, y_names, y_pile, r) ∧ Rel c_now_folk_size c_now_folk_kind c_now_folk_mark c_now_folk_horn c_now_folk_brass c_now_folk_open c_now_folk_health c_now_motions c_now_quorum c_now_favour c_now_laws c_now_urnHorn c_now_urnBrass c_now_thread c_now_winter c_now_day c_now_chill_use c_now_chill_codes c_now_chill_size c_now_cold_use c_now_cold_codes c_now_cold_size c_now_tape c_now_taped c_now_z c_now_waiting c_now_waits c_kept_folk_size c_kept_folk_kind c_kept_folk_mark c_kept_folk_horn c_kept_folk_brass c_kept_folk_open c_kept_folk_health c_kept_motions c_kept_quorum c_kept_favour c_kept_laws c_kept_urnHorn c_kept_urnBrass c_kept_thread c_kept_winter c_kept_day c_kept_chill_use c_kept_chill_codes c_kept_chill_size c_kept_cold_use c_kept_cold_codes c_kept_cold_size c_kept_tape c_kept_taped c_kept_z c_kept_waiting c_kept_waits c_voices_traces c_voices_traced c_sh_bits c_sh_size c_sh_numbers x_errors c_images y_d m_kept m_images y_found m_traced m_traceMany m_bitsOf m_sizeOf m_number := by
  obtain ⟨⟨hPp, hMo, hSc, hTa, hWa, hUs, hCh, hCo⟩, hIm, hKe, hKu, hEr, hTr, hTn, hTg, hSh⟩ := R
  subst hEr
  obtain ⟨n, hn, hsz, hD0, H, D⟩ := PplR_out hPp
  subst hsz
  obtain ⟨mo, w, hmo, hlw, hL, hQ⟩ := MotR_out hMo
  subst hmo
  subst hlw
  have hmo6 : mo ≤ 6 := hL.1
  have hUs0 := hUs
  obtain ⟨hU0, hU1⟩ := hUs0
  subst hU0
  subst hU1
  obtain ⟨nc, hnc, hX, hY⟩ := TextR_0 hCh
  subst hnc
  obtain ⟨ng, hng, hX1, hY1⟩ := TextR_1 hCo
  subst hng
  have hSc0 := hSc
  obtain ⟨⟨u1, u2⟩, ⟨u3, u4⟩, ⟨u5, u6⟩, ⟨u7, u8⟩, ⟨u9, u10⟩, u11⟩ := hSc0
  obtain ⟨cold, hcold⟩ : ∃ cold : Nat → Int32, cold = fun k => clI c_now_cold_codes ng w (c_now_day + nI k) c_now_winter := ⟨_, rfl⟩
  have hc7 : ∀ k, cold k = clI c_now_cold_codes ng w (m_d 6 + nI k) (m_d 5) := fun k => by rw [hcold, u7, u9]
  by_cases hp : inb p0 n = true
  · obtain ⟨p, hpn, rfl⟩ := inb_of hp (by omega)
    obtain ⟨s1, e1⟩ := e6_foresee (g := c_now_cold_codes) (colds := c_colds) (day := c_now_day) (winter := c_now_winter) (N := 60) hX1 hL.w (by omega) c_now_cold_stack
    rw [← hcold] at e1
    have hcc : ∀ k, k < 60 → ovF cold c_colds 60 k = cold k := fun k hk => ov_in hk
    obtain ⟨s2, e3⟩ := e6_death (mark := c_now_folk_mark) (o := c_now_folk_open p) (health := c_now_folk_health) hX (show p < 8 by omega) (H p (by omega)).1 (show 60 ≤ 60 by omega) hcc c_now_chill_stack
    have L : ∀ (J : (Nat → Int32) → (Nat → Int32) → (Nat → Int32) → Int32 → Option ((Nat → Int32) × (Nat → Int32) × (Nat → Int32) × (Nat → Int32) × (Nat → Int32) × Int32)) (m k fu : Nat) (dk names pile : Nat → Int32), k + m = 60 → m + 1 < fu → AhR c_now_folk_kind c_now_folk_mark c_now_folk_horn c_now_folk_brass c_now_folk_open c_now_folk_health c_now_chill_codes nc cold n m_d k dk → ∃ j d' n' p', f_X7_freezes_L20 (nI p) J fu dk names pile (nI k) = J d' n' p' (nI (fzN (tjI c_now_chill_codes nc (c_now_folk_kind p) (c_now_folk_mark p) (c_now_folk_open p) cold (c_now_folk_health p)) k m)) ∧ AhR c_now_folk_kind c_now_folk_mark c_now_folk_horn c_now_folk_brass c_now_folk_open c_now_folk_health c_now_chill_codes nc cold n m_d j d' := by
      intro J m
      induction m with
      | zero =>
        intro k fu dk names pile hk hf A
        obtain ⟨fu, rfl⟩ : ∃ q, fu = q + 2 := ⟨fu - 2, by omega⟩
        obtain rfl : k = 60 := by omega
        simp only [f_X7_freezes_L20, fzN]
        have q := (A.1 p (by omega)).2.2.2.2.2
        rw [hI_in hpn] at q
        rw [if_neg (by decide), e7_dead (by omega), q, bdE1]
        by_cases z : tjI c_now_chill_codes nc (c_now_folk_kind p) (c_now_folk_mark p) (c_now_folk_open p) cold (c_now_folk_health p) 60 = 0
        · rw [if_pos z, if_pos z, if_neg (by decide)]
          exact ⟨60, _, _, _, rfl, A⟩
        · obtain ⟨d', n1, p1, e, A'⟩ := ah_s H hn hD0 hX hY hX1 hY1 hL (hc7 60) A names pile
          rw [if_neg z, if_neg z, if_pos rfl, e, bdE3]
          simp only [nmE, nI_1]
          rw [if_pos (by decide)]
          exact ⟨61, _, _, _, rfl, A'⟩
      | succ m ih =>
        intro k fu dk names pile hk hf A
        obtain ⟨fu, rfl⟩ : ∃ q, fu = q + 1 := ⟨fu - 1, by omega⟩
        simp only [f_X7_freezes_L20, fzN]
        have q := (A.1 p (by omega)).2.2.2.2.2
        rw [hI_in hpn] at q
        rw [if_neg (show ¬ (60 : Int32) < nI k from nI_nlt (a := 60) (by omega) (by decide)), e7_dead (by omega), q, bdE1]
        by_cases z : tjI c_now_chill_codes nc (c_now_folk_kind p) (c_now_folk_mark p) (c_now_folk_open p) cold (c_now_folk_health p) k = 0
        · rw [if_pos z, if_pos z, if_neg (by decide)]
          exact ⟨k, _, _, _, rfl, A⟩
        · obtain ⟨d', n1, p1, e, A'⟩ := ah_s H hn hD0 hX hY hX1 hY1 hL (hc7 k) A names pile
          rw [if_neg z, if_neg z, if_pos rfl, e, bdE3]
          simp only [nmE, nI_1]
          exact ih (k + 1) fu d' n1 p1 (by omega) (by omega) A'
    obtain ⟨fz1, -⟩ := fz_le (h := tjI c_now_chill_codes nc (c_now_folk_kind p) (c_now_folk_mark p) (c_now_folk_open p) cold (c_now_folk_health p)) (fun j => tj_0) 60 0
    obtain ⟨j, d', n', p', e5, A⟩ := L (fun v_d_3 v_names_4 v_pile_5 l2_6 => bd1 (f_X7_putBack v_d_3 (ovF m_d m_aside 76)) (fun v_d_7 => (if l2_6 ≤ 60 then some (v_d_7, c_errors, ovF m_d m_aside 76, v_names_4, v_pile_5, l2_6) else bd2 (f_X7_finds c_errors 2) (fun v_found_8 r_9 => some (v_d_7, v_found_8, ovF m_d m_aside 76, v_names_4, v_pile_5, r_9))))) 60 0 300 m_d m_names m_pile (by omega) (by omega) (ah_0 D)
    have e5' := e5
    rw [ah_back A, bdE1] at e5'
    clear e5
    by_cases le : fzN (tjI c_now_chill_codes nc (c_now_folk_kind p) (c_now_folk_mark p) (c_now_folk_open p) cold (c_now_folk_health p)) 0 60 ≤ 60
    · have t : nI (fzN (tjI c_now_chill_codes nc (c_now_folk_kind p) (c_now_folk_mark p) (c_now_folk_open p) cold (c_now_folk_health p)) 0 60) ≤ (60 : Int32) := nI_le (b := 60) le (by decide)
      rw [if_pos t] at e5'
      refine ⟨?_, ?_, ?_, ?_, ?_, ?_, ?_, ?_, ?_, ?_, ?c, ?m, ?r⟩
      case c =>
        simp only [f_X6_freezes, e0_has rfl (show n < 1000 by omega), bdE1]
        rw [if_pos hp, if_neg (by decide), show f_X6_foreseeColds (nI w) c_now_day 1 c_now_cold_codes (nI ng) c_now_cold_stack c_colds c_now_winter 60 = _ from e1, bdE2, rdA_i rfl (by omega), show f_X6_dayOfDeath c_now_folk_kind c_now_folk_mark c_now_folk_health 0 c_now_chill_codes (nI nc) c_now_chill_stack (ovF cold c_colds 60) (nI p) (c_now_folk_open p) 60 = _ from e3, bdE2, if_pos t]
      case m =>
        simp only [f_X7_freezes, e7_isPerson hD0 (show n < 1000 by omega), bdE1]
        rw [if_pos hp, if_neg (by decide), e7_keep, bdE1]
        simp only [jnE]
        exact e5'
      case r => exact ⟨⟨hPp, hMo, hSc, hTa, hWa, hUs, hCh, hCo⟩, hIm, hKe, hKu, rfl, hTr, hTn, hTg, hSh⟩
    · have t : ¬ nI (fzN (tjI c_now_chill_codes nc (c_now_folk_kind p) (c_now_folk_mark p) (c_now_folk_open p) cold (c_now_folk_health p)) 0 60) ≤ (60 : Int32) := nI_ge (a := 60) (by omega) (by omega)
      rw [if_neg t, eg2, bdE2] at e5'
      refine ⟨?_, ?_, ?_, ?_, ?_, ?_, ?_, ?_, ?_, ?_, ?c, ?m, ?r⟩
      case c =>
        simp only [f_X6_freezes, e0_has rfl (show n < 1000 by omega), bdE1]
        rw [if_pos hp, if_neg (by decide), show f_X6_foreseeColds (nI w) c_now_day 1 c_now_cold_codes (nI ng) c_now_cold_stack c_colds c_now_winter 60 = _ from e1, bdE2, rdA_i rfl (by omega), show f_X6_dayOfDeath c_now_folk_kind c_now_folk_mark c_now_folk_health 0 c_now_chill_codes (nI nc) c_now_chill_stack (ovF cold c_colds 60) (nI p) (c_now_folk_open p) 60 = _ from e3, bdE2, if_neg t, ef2]
        rfl
      case m =>
        simp only [f_X7_freezes, e7_isPerson hD0 (show n < 1000 by omega), bdE1]
        rw [if_pos hp, if_neg (by decide), e7_keep, bdE1]
        simp only [jnE]
        exact e5'
      case r => exact ⟨⟨hPp, hMo, hSc, hTa, hWa, hUs, hCh, hCo⟩, hIm, hKe, hKu, rfl, hTr, hTn, hTg, hSh⟩
  · refine ⟨?_, ?_, ?_, ?_, ?_, ?_, ?_, ?_, ?_, ?_, ?c, ?m, ?r⟩
    case c =>
      simp only [f_X6_freezes, e0_has rfl (show n < 1000 by omega), bdE1]
      rw [if_neg hp, if_pos rfl, ef1]
      rfl
    case m =>
      simp only [f_X7_freezes, e7_isPerson hD0 (show n < 1000 by omega), bdE1]
      rw [if_neg hp, if_pos rfl, eg1]
      rfl
    case r => exact ⟨⟨hPp, hMo, hSc, hTa, hWa, hUs, hCh, hCo⟩, hIm, hKe, hKu, rfl, hTr, hTn, hTg, hSh⟩
