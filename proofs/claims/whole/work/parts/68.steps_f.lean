set_option maxHeartbeats 1000000 in
set_option maxRecDepth 10000 in
theorem st_vote {c_now_folk_size : Int32} {c_now_folk_kind : Nat → Int32} {c_now_folk_mark : Nat → Int32} {c_now_folk_horn : Nat → Int32} {c_now_folk_brass : Nat → Int32} {c_now_folk_open : Nat → Int32} {c_now_folk_health : Nat → Int32} {c_now_motions : Int32} {c_now_quorum : Nat → Int32} {c_now_favour : Nat → Int32} {c_now_laws : Int32} {c_now_urnHorn : Int32} {c_now_urnBrass : Int32} {c_now_thread : Int32} {c_now_winter : Int32} {c_now_day : Int32} {c_now_chill_use : Int32} {c_now_chill_codes : Nat → Int32} {c_now_chill_size : Int32} {c_now_cold_use : Int32} {c_now_cold_codes : Nat → Int32} {c_now_cold_size : Int32} {c_now_tape : Nat → Int32} {c_now_taped : Int32} {c_now_z : Int32} {c_now_waiting : Nat → Int32} {c_now_waits : Int32} {c_kept_folk_size : Int32} {c_kept_folk_kind : Nat → Int32} {c_kept_folk_mark : Nat → Int32} {c_kept_folk_horn : Nat → Int32} {c_kept_folk_brass : Nat → Int32} {c_kept_folk_open : Nat → Int32} {c_kept_folk_health : Nat → Int32} {c_kept_motions : Int32} {c_kept_quorum : Nat → Int32} {c_kept_favour : Nat → Int32} {c_kept_laws : Int32} {c_kept_urnHorn : Int32} {c_kept_urnBrass : Int32} {c_kept_thread : Int32} {c_kept_winter : Int32} {c_kept_day : Int32} {c_kept_chill_use : Int32} {c_kept_chill_codes : Nat → Int32} {c_kept_chill_size : Int32} {c_kept_cold_use : Int32} {c_kept_cold_codes : Nat → Int32} {c_kept_cold_size : Int32} {c_kept_tape : Nat → Int32} {c_kept_taped : Int32} {c_kept_z : Int32} {c_kept_waiting : Nat → Int32} {c_kept_waits : Int32} {c_voices_traces : Nat → Int32} {c_voices_traced : Int32} {c_sh_bits : Nat → Int32} {c_sh_size : Nat → Int32} {c_sh_numbers : Nat → Nat → Int32} {c_errors : Nat → Int32} {c_images : Int32} {m_d : Nat → Int32} {m_kept : Nat → Int32} {m_images : Int32} {m_found : Nat → Int32} {m_horn : Int32} {m_brass : Int32} {m_traced : Nat → Int32} {m_traceMany : Int32} {m_bitsOf : Nat → Int32} {m_sizeOf : Nat → Int32} {m_number : Nat → Int32} (R : Rel c_now_folk_size c_now_folk_kind c_now_folk_mark c_now_folk_horn c_now_folk_brass c_now_folk_open c_now_folk_health c_now_motions c_now_quorum c_now_favour c_now_laws c_now_urnHorn c_now_urnBrass c_now_thread c_now_winter c_now_day c_now_chill_use c_now_chill_codes c_now_chill_size c_now_cold_use c_now_cold_codes c_now_cold_size c_now_tape c_now_taped c_now_z c_now_waiting c_now_waits c_kept_folk_size c_kept_folk_kind c_kept_folk_mark c_kept_folk_horn c_kept_folk_brass c_kept_folk_open c_kept_folk_health c_kept_motions c_kept_quorum c_kept_favour c_kept_laws c_kept_urnHorn c_kept_urnBrass c_kept_thread c_kept_winter c_kept_day c_kept_chill_use c_kept_chill_codes c_kept_chill_size c_kept_cold_use c_kept_cold_codes c_kept_cold_size c_kept_tape c_kept_taped c_kept_z c_kept_waiting c_kept_waits c_voices_traces c_voices_traced c_sh_bits c_sh_size c_sh_numbers c_errors c_images m_d m_kept m_images m_found m_traced m_traceMany m_bitsOf m_sizeOf m_number) (p0 : Int32) : ∃ (x_now_folk_horn : Nat → Int32) (x_now_folk_brass : Nat → Int32) (x_now_folk_open : Nat → Int32) (x_now_laws : Int32) (x_now_urnHorn : Int32) (x_now_urnBrass : Int32) (x_errors : Nat → Int32) (r : Int32) (y_d : Nat → Int32) (y_found : Nat → Int32) (y_horn : Int32) (y_brass : Int32), f_X6_vote c_now_folk_size c_now_folk_kind c_now_folk_mark c_now_folk_horn c_now_folk_brass c_now_folk_open c_now_folk_health c_now_motions c_now_quorum c_now_favour c_now_laws c_now_urnHorn c_now_urnBrass c_errors p0 = some (x_now_folk_horn, x_now_folk_brass, x_now_folk_open, x_now_laws, x_now_urnHorn, x_now_urnBrass, x_errors, r) ∧ f_X7_vote m_d m_found m_horn m_brass p0 = some (y_d, y_found, y_horn, y_brass, r) ∧ Rel c_now_folk_size c_now_folk_kind c_now_folk_mark x_now_folk_horn x_now_folk_brass x_now_folk_open c_now_folk_health c_now_motions c_now_quorum c_now_favour x_now_laws x_now_urnHorn x_now_urnBrass c_now_thread c_now_winter c_now_day c_now_chill_use c_now_chill_codes c_now_chill_size c_now_cold_use c_now_cold_codes c_now_cold_size c_now_tape c_now_taped c_now_z c_now_waiting c_now_waits c_kept_folk_size c_kept_folk_kind c_kept_folk_mark c_kept_folk_horn c_kept_folk_brass c_kept_folk_open c_kept_folk_health c_kept_motions c_kept_quorum c_kept_favour c_kept_laws c_kept_urnHorn c_kept_urnBrass c_kept_thread c_kept_winter c_kept_day c_kept_chill_use c_kept_chill_codes c_kept_chill_size c_kept_cold_use c_kept_cold_codes c_kept_cold_size c_kept_tape c_kept_taped c_kept_z c_kept_waiting c_kept_waits c_voices_traces c_voices_traced c_sh_bits c_sh_size c_sh_numbers x_errors c_images y_d m_kept m_images y_found m_traced m_traceMany m_bitsOf m_sizeOf m_number := by
  obtain ⟨⟨hPp, hMo, hSc, hTa, hWa, hUs, hCh, hCo⟩, hIm, hKe, hKu, hEr, hTr, hTn, hTg, hSh⟩ := R
  subst hEr
  obtain ⟨n, hn, hsz, hD0, H, D⟩ := PplR_out hPp
  subst hsz
  obtain ⟨mo, w, hmo, hlw, hL, hQ⟩ := MotR_out hMo
  subst hmo
  subst hlw
  have hmo6 : mo ≤ 6 := hL.1
  by_cases hp : inb p0 mo = true
  · obtain ⟨m, hm, rfl⟩ := inb_of hp (by omega)
    obtain ⟨q1, ⟨s, hs, q2⟩, q3, q4⟩ := hQ m (by omega)
    have hSc0 := hSc
    obtain ⟨⟨u1, u2⟩, ⟨u3, u4⟩, s3, s4, s5, s6⟩ := hSc
    obtain ⟨d', a', b', e1, D', V1, V2, L', F⟩ := e7_votes H hn hD0 u2 u4 u1 u3 hL hm (q4.trans q2) hs D m_horn m_brass
    rw [q3] at e1 L'
    have C := e5_hold (quorum := c_now_quorum) (favour := c_now_favour) (uh := c_now_urnHorn) (ub := c_now_urnBrass) H hn hL.1 hL.2.1 hm
    rw [q2] at C
    refine ⟨?_, ?_, ?_, ?_, ?_, ?_, ?_, ?_, ?_, ?_, ?_, ?_, ?c, ?m, ?r⟩
    case c =>
      simp only [f_X6_vote, e5_has rfl (show mo < 1000 by omega), bdE1]
      rw [if_pos hp, if_neg (by decide), C, bdE7]
      exact if01 (f := fun v => some (_, _, _, _, _, _, c_errors, v)) wp01
    case m =>
      simp only [f_X7_vote, e7_isMotion hL.2.2.1 (show mo < 1000 by omega), bdE1]
      rw [if_pos hp, if_neg (by decide), e1, bdE4]
      exact if01 (f := fun v => some (_, c_errors, _, _, v)) wp01
    case r =>
      obtain ⟨hTa', hWa', hCh', hCo'⟩ := rest_fr hTa hWa hCh hCo (fun i hi => F i (by omega) (by omega) (by omega) (by omega))
      refine ⟨⟨PplR_of hn ((F 0 (by decide) (by decide) (by decide) (by omega)).trans hD0) H.cut D', MotR_of L' (hQ.frame (fun i h1 h2 h3 => F i (by omega) (by omega) (by omega) (by omega))), ⟨⟨V1, ur_rg u2 hn (fun p hp => (cH_rg (p := p) H (by omega)).1)⟩, ⟨V2, ur_rg u4 hn (fun p hp => (cH_rg (p := p) H (by omega)).2.1)⟩, ?_, ?_, ?_, ?_⟩, hTa', hWa', hUs, hCh', hCo'⟩, hIm, hKe, hKu, rfl, hTr, hTn, hTg, hSh⟩
      · rw [F 4 (by omega) (by omega) (by omega) (by omega)]; exact s3
      · rw [F 5 (by omega) (by omega) (by omega) (by omega)]; exact s4
      · rw [F 6 (by omega) (by omega) (by omega) (by omega)]; exact s5
      · rw [F 7 (by omega) (by omega) (by omega) (by omega)]; exact s6
  · refine ⟨?_, ?_, ?_, ?_, ?_, ?_, ?_, ?_, ?_, ?_, ?_, ?_, ?c, ?m, ?r⟩
    case c =>
      simp only [f_X6_vote, e5_has rfl (show mo < 1000 by omega), bdE1]
      rw [if_neg hp, if_pos rfl, ef1]
      rfl
    case m =>
      simp only [f_X7_vote, e7_isMotion hL.2.2.1 (show mo < 1000 by omega), bdE1]
      rw [if_neg hp, if_pos rfl, eg1]
      rfl
    case r => exact ⟨⟨hPp, hMo, hSc, hTa, hWa, hUs, hCh, hCo⟩, hIm, hKe, hKu, rfl, hTr, hTn, hTg, hSh⟩
