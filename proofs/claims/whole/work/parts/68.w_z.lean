/-! texts, the step -/
theorem e7_laid {d fo code : Nat → Int32} {u n : Nat} {b0 a0 s0 f0 o0 i0 : Int32} (hu : u < 2) (hn : n ≤ 50) : f_X7_text_L71 fo (nI u) b0 a0 s0 f0 o0 i0 code (nI n) 300 d 0 = some (shF (98 + 50 * u) code d n, fo, b0, a0, s0, f0, o0, i0, code, nI n, 1) := by
  have ix : ∀ k, ((98 : Int32) + 50 * nI u) + nI k = nI (98 + 50 * u + k) := by
    intro k
    rw [show (98 : Int32) = nI 98 from rfl, show (50 : Int32) = nI 50 from rfl, pk_mul, nI_add, nI_add]
  have L : ∀ (m k fu : Nat), k + m = n → m < fu → f_X7_text_L71 fo (nI u) b0 a0 s0 f0 o0 i0 code (nI n) fu (shF (98 + 50 * u) code d k) (nI k) = some (shF (98 + 50 * u) code d n, fo, b0, a0, s0, f0, o0, i0, code, nI n, 1) := by
    intro m
    induction m with
    | zero =>
      intro k fu hk hf
      obtain ⟨fu, rfl⟩ : ∃ q, fu = q + 1 := ⟨fu - 1, by omega⟩
      obtain rfl : k = n := by omega
      simp only [f_X7_text_L71]
      rw [if_pos (nI_le (Nat.le_refl _) (by omega))]
    | succ m ih =>
      intro k fu hk hf
      obtain ⟨fu, rfl⟩ : ∃ q, fu = q + 1 := ⟨fu - 1, by omega⟩
      simp only [f_X7_text_L71]
      rw [if_neg (nI_ge (by omega) (by omega)), rdA_i rfl (by omega), wrA_i (ix k) (by omega), sh_s]
      simp only [nmE, nI_1]
      exact ih (k + 1) fu (by omega) (by omega)
  have R := L n 0 300 (by omega) (by omega)
  rw [sh_z] at R
  exact R
set_option maxHeartbeats 1000000 in
set_option maxRecDepth 10000 in
theorem st_text {c_now_folk_size : Int32} {c_now_folk_kind : Nat → Int32} {c_now_folk_mark : Nat → Int32} {c_now_folk_horn : Nat → Int32} {c_now_folk_brass : Nat → Int32} {c_now_folk_open : Nat → Int32} {c_now_folk_health : Nat → Int32} {c_now_motions : Int32} {c_now_quorum : Nat → Int32} {c_now_favour : Nat → Int32} {c_now_laws : Int32} {c_now_urnHorn : Int32} {c_now_urnBrass : Int32} {c_now_thread : Int32} {c_now_winter : Int32} {c_now_day : Int32} {c_now_chill_use : Int32} {c_now_chill_codes : Nat → Int32} {c_now_chill_size : Int32} {c_now_cold_use : Int32} {c_now_cold_codes : Nat → Int32} {c_now_cold_size : Int32} {c_now_tape : Nat → Int32} {c_now_taped : Int32} {c_now_z : Int32} {c_now_waiting : Nat → Int32} {c_now_waits : Int32} {c_kept_folk_size : Int32} {c_kept_folk_kind : Nat → Int32} {c_kept_folk_mark : Nat → Int32} {c_kept_folk_horn : Nat → Int32} {c_kept_folk_brass : Nat → Int32} {c_kept_folk_open : Nat → Int32} {c_kept_folk_health : Nat → Int32} {c_kept_motions : Int32} {c_kept_quorum : Nat → Int32} {c_kept_favour : Nat → Int32} {c_kept_laws : Int32} {c_kept_urnHorn : Int32} {c_kept_urnBrass : Int32} {c_kept_thread : Int32} {c_kept_winter : Int32} {c_kept_day : Int32} {c_kept_chill_use : Int32} {c_kept_chill_codes : Nat → Int32} {c_kept_chill_size : Int32} {c_kept_cold_use : Int32} {c_kept_cold_codes : Nat → Int32} {c_kept_cold_size : Int32} {c_kept_tape : Nat → Int32} {c_kept_taped : Int32} {c_kept_z : Int32} {c_kept_waiting : Nat → Int32} {c_kept_waits : Int32} {c_parser_codes : Nat → Int32} {c_parser_size : Int32} {c_parser_length : Int32} {c_parser_use : Int32} {c_parser_at : Int32} {c_parser_fault : Int32} {c_voices_traces : Nat → Int32} {c_voices_traced : Int32} {c_sh_bits : Nat → Int32} {c_sh_size : Nat → Int32} {c_sh_numbers : Nat → Nat → Int32} {c_errors : Nat → Int32} {c_images : Int32} {m_d : Nat → Int32} {m_kept : Nat → Int32} {m_images : Int32} {m_found : Nat → Int32} {m_base : Int32} {m_at : Int32} {m_size : Int32} {m_fault : Int32} {m_opened : Int32} {m_isCold : Int32} {m_code : Nat → Int32} {m_coded : Int32} {m_traced : Nat → Int32} {m_traceMany : Int32} {m_bitsOf : Nat → Int32} {m_sizeOf : Nat → Int32} {m_number : Nat → Int32} (R : Rel c_now_folk_size c_now_folk_kind c_now_folk_mark c_now_folk_horn c_now_folk_brass c_now_folk_open c_now_folk_health c_now_motions c_now_quorum c_now_favour c_now_laws c_now_urnHorn c_now_urnBrass c_now_thread c_now_winter c_now_day c_now_chill_use c_now_chill_codes c_now_chill_size c_now_cold_use c_now_cold_codes c_now_cold_size c_now_tape c_now_taped c_now_z c_now_waiting c_now_waits c_kept_folk_size c_kept_folk_kind c_kept_folk_mark c_kept_folk_horn c_kept_folk_brass c_kept_folk_open c_kept_folk_health c_kept_motions c_kept_quorum c_kept_favour c_kept_laws c_kept_urnHorn c_kept_urnBrass c_kept_thread c_kept_winter c_kept_day c_kept_chill_use c_kept_chill_codes c_kept_chill_size c_kept_cold_use c_kept_cold_codes c_kept_cold_size c_kept_tape c_kept_taped c_kept_z c_kept_waiting c_kept_waits c_voices_traces c_voices_traced c_sh_bits c_sh_size c_sh_numbers c_errors c_images m_d m_kept m_images m_found m_traced m_traceMany m_bitsOf m_sizeOf m_number) (p0 : Int32) : ∃ (x_now_chill_codes : Nat → Int32) (x_now_chill_size : Int32) (x_now_cold_codes : Nat → Int32) (x_now_cold_size : Int32) (x_now_taped : Int32) (x_parser_codes : Nat → Int32) (x_parser_size : Int32) (x_parser_tp : Nat) (x_parser_length : Int32) (x_parser_use : Int32) (x_parser_at : Int32) (x_parser_fault : Int32) (x_errors : Nat → Int32) (r : Int32) (y_d : Nat → Int32) (y_found : Nat → Int32) (y_base : Int32) (y_at : Int32) (y_size : Int32) (y_fault : Int32) (y_opened : Int32) (y_isCold : Int32) (y_code : Nat → Int32) (y_coded : Int32), f_X6_text c_now_chill_codes c_now_chill_size c_now_cold_codes c_now_cold_size c_now_tape c_now_taped c_parser_codes c_parser_size c_parser_length c_parser_use c_parser_at c_parser_fault c_errors p0 = some (x_now_chill_codes, x_now_chill_size, x_now_cold_codes, x_now_cold_size, x_now_taped, x_parser_codes, x_parser_size, x_parser_tp, x_parser_length, x_parser_use, x_parser_at, x_parser_fault, x_errors, r) ∧ f_X7_text m_d m_found m_base m_at m_size m_fault m_opened m_isCold m_code m_coded p0 = some (y_d, y_found, y_base, y_at, y_size, y_fault, y_opened, y_isCold, y_code, y_coded, r) ∧ Rel c_now_folk_size c_now_folk_kind c_now_folk_mark c_now_folk_horn c_now_folk_brass c_now_folk_open c_now_folk_health c_now_motions c_now_quorum c_now_favour c_now_laws c_now_urnHorn c_now_urnBrass c_now_thread c_now_winter c_now_day c_now_chill_use x_now_chill_codes x_now_chill_size c_now_cold_use x_now_cold_codes x_now_cold_size c_now_tape x_now_taped c_now_z c_now_waiting c_now_waits c_kept_folk_size c_kept_folk_kind c_kept_folk_mark c_kept_folk_horn c_kept_folk_brass c_kept_folk_open c_kept_folk_health c_kept_motions c_kept_quorum c_kept_favour c_kept_laws c_kept_urnHorn c_kept_urnBrass c_kept_thread c_kept_winter c_kept_day c_kept_chill_use c_kept_chill_codes c_kept_chill_size c_kept_cold_use c_kept_cold_codes c_kept_cold_size c_kept_tape c_kept_taped c_kept_z c_kept_waiting c_kept_waits c_voices_traces c_voices_traced c_sh_bits c_sh_size c_sh_numbers x_errors c_images y_d m_kept m_images y_found m_traced m_traceMany m_bitsOf m_sizeOf m_number := by
  obtain ⟨⟨hPp, hMo, hSc, hTa, hWa, hUs, hCh, hCo⟩, hIm, hKe, hKu, hEr, hTr, hTn, hTg, hSh⟩ := R
  subst hEr
  obtain ⟨T0, ⟨len, hlen, T1⟩, T2⟩ := hTa
  subst T1
  by_cases hp : inb p0 2 = true
  · obtain ⟨u, hu, rfl⟩ := inb_of hp (by decide)
    rcases text_sim (u := u) (bytes := c_now_tape) (d := upd m_d 8 0) hlen hu (fun i hi => (T2 i hi).2) (fun i hi => by rw [upd_n (by omega)]; exact (T2 i hi).1) c_parser_codes m_code c_parser_size c_parser_length c_parser_use c_parser_at c_parser_fault m_base m_at m_size m_fault m_opened m_isCold m_coded with ⟨c', k', n, L, U, A, B, At, Sz, Op, Is, hn, e1, e2, hCn, hDn⟩ | ⟨f, c', k', S, L, U, A, B, At, Sz, Op, Is, K, hf, e1, e2⟩
    · rcases (show u = 0 ∨ u = 1 by omega) with rfl | rfl
      · have F : ∀ i, i ≠ 8 → i ≠ 76 → ¬ (98 ≤ i ∧ i < 98 + 50) → shF (98 + 50 * 0) k' (upd (upd m_d 8 0) 76 (nI n)) n i = m_d i := by
          intro i h1 h2 h3
          rw [sh_out (by omega), upd_n h2, upd_n h1]
        have Fq : shF (98 + 50 * 0) k' (upd (upd m_d 8 0) 76 (nI n)) n 76 = nI n := by
          rw [sh_out (by omega), upd_s]
        have F8 : shF (98 + 50 * 0) k' (upd (upd m_d 8 0) 76 (nI n)) n 8 = 0 := by
          rw [sh_out (by omega), upd_n (by decide), upd_s]
        refine ⟨?_, ?_, ?_, ?_, ?_, ?_, ?_, ?_, ?_, ?_, ?_, ?_, ?_, ?_, ?_, ?_, ?_, ?_, ?_, ?_, ?_, ?_, ?_, ?_, ?c, ?q7, ?r⟩
        case c =>
          simp only [f_X6_text, jnE]
          rw [rngC 2 (by decide), if_pos hp, e1, bdE7, if_pos (show (-1 : Int32) < 0 by decide), show f_X5_textOf (nI 0) = some 10 from rfl, bdE1, if_pos (by decide), e3_take hn, bdE2]
        case q7 =>
          simp only [f_X7_text]
          rw [e7_inb 2 (by decide), bdE1, b01, if_pos hp, rdA_i (i := 8) (k := 8) rfl (by decide), T0, wrA_i (i := 8) (k := 8) rfl (by decide), e2, bdE8, if_pos (show (-1 : Int32) < 0 by decide), wrA_i (show (76 : Int32) + nI 0 = nI 76 by decide) (by decide), e7_laid (by decide) hn]
        case r =>
          refine ⟨⟨hPp.frame (fun i hi => F i (by omega) (by omega) (by omega)), hMo.frame (fun i hi => F i (by omega) (by omega) (by omega)), hSc.frame (fun i hi => F i (by omega) (by omega) (by omega)), ⟨F8, ⟨0, by decide, rfl⟩, fun i hi => ?_⟩, hWa.frame (fun i hi => F i (by omega) (by omega) (by omega)), hUs, ⟨n, hn, rfl, Fq, fun k hk => by rw [ov_in hk]; show Cd (c' k) (shF (98 + 50 * 0) k' (upd (upd m_d 8 0) 76 (nI n)) n (98 + k)); rw [show 98 + k = 98 + 50 * 0 + k by omega, sh_in hk]; exact hCn k hk, Or.inr ((cd_congr (fun k hk => ov_in hk)).trans hDn)⟩, hCo.frame (F 77 (by decide) (by decide) (by decide)) (fun k _ => F _ (by omega) (by omega) (by omega))⟩, hIm, hKe, hKu, rfl, hTr, hTn, hTg, hSh⟩
          rw [F _ (by omega) (by omega) (by omega)]
          exact T2 i hi
      · have F : ∀ i, i ≠ 8 → i ≠ 77 → ¬ (148 ≤ i ∧ i < 148 + 50) → shF (98 + 50 * 1) k' (upd (upd m_d 8 0) 77 (nI n)) n i = m_d i := by
          intro i h1 h2 h3
          rw [sh_out (by omega), upd_n h2, upd_n h1]
        have Fq : shF (98 + 50 * 1) k' (upd (upd m_d 8 0) 77 (nI n)) n 77 = nI n := by
          rw [sh_out (by omega), upd_s]
        have F8 : shF (98 + 50 * 1) k' (upd (upd m_d 8 0) 77 (nI n)) n 8 = 0 := by
          rw [sh_out (by omega), upd_n (by decide), upd_s]
        refine ⟨?_, ?_, ?_, ?_, ?_, ?_, ?_, ?_, ?_, ?_, ?_, ?_, ?_, ?_, ?_, ?_, ?_, ?_, ?_, ?_, ?_, ?_, ?_, ?_, ?c, ?q7, ?r⟩
        case c =>
          simp only [f_X6_text, jnE]
          rw [rngC 2 (by decide), if_pos hp, e1, bdE7, if_pos (show (-1 : Int32) < 0 by decide), show f_X5_textOf (nI 1) = some 13 from rfl, bdE1, if_neg (by decide), if_pos (by decide), e3_take hn, bdE2]
        case q7 =>
          simp only [f_X7_text]
          rw [e7_inb 2 (by decide), bdE1, b01, if_pos hp, rdA_i (i := 8) (k := 8) rfl (by decide), T0, wrA_i (i := 8) (k := 8) rfl (by decide), e2, bdE8, if_pos (show (-1 : Int32) < 0 by decide), wrA_i (show (76 : Int32) + nI 1 = nI 77 by decide) (by decide), e7_laid (by decide) hn]
        case r =>
          refine ⟨⟨hPp.frame (fun i hi => F i (by omega) (by omega) (by omega)), hMo.frame (fun i hi => F i (by omega) (by omega) (by omega)), hSc.frame (fun i hi => F i (by omega) (by omega) (by omega)), ⟨F8, ⟨0, by decide, rfl⟩, fun i hi => ?_⟩, hWa.frame (fun i hi => F i (by omega) (by omega) (by omega)), hUs, hCh.frame (F 76 (by decide) (by decide) (by decide)) (fun k _ => F _ (by omega) (by omega) (by omega)), ⟨n, hn, rfl, Fq, fun k hk => by rw [ov_in hk]; show Cd (c' k) (shF (98 + 50 * 1) k' (upd (upd m_d 8 0) 77 (nI n)) n (148 + k)); rw [show 148 + k = 98 + 50 * 1 + k by omega, sh_in hk]; exact hCn k hk, Or.inr ((cd_congr (fun k hk => ov_in hk)).trans hDn)⟩⟩, hIm, hKe, hKu, rfl, hTr, hTn, hTg, hSh⟩
          rw [F _ (by omega) (by omega) (by omega)]
          exact T2 i hi
    · have F : ∀ i, i ≠ 8 → upd m_d 8 0 i = m_d i := fun i hi => upd_n hi
      refine ⟨?_, ?_, ?_, ?_, ?_, ?_, ?_, ?_, ?_, ?_, ?_, ?_, ?_, ?_, ?_, ?_, ?_, ?_, ?_, ?_, ?_, ?_, ?_, ?_, ?c, ?q7, ?r⟩
      case c =>
        simp only [f_X6_text, jnE]
        rw [rngC 2 (by decide), if_pos hp, e1, bdE7, if_neg (nI_pos (by omega))]
      case q7 =>
        simp only [f_X7_text]
        rw [e7_inb 2 (by decide), bdE1, b01, if_pos hp, rdA_i (i := 8) (k := 8) rfl (by decide), T0, wrA_i (i := 8) (k := 8) rfl (by decide), e2, bdE8, if_neg (nI_pos (by omega))]
      case r =>
        refine ⟨⟨hPp.frame (fun i hi => F i (by omega)), hMo.frame (fun i hi => F i (by omega)), hSc.frame (fun i hi => F i (by omega)), ⟨upd_s, ⟨0, by decide, rfl⟩, fun i hi => ?_⟩, hWa.frame (fun i hi => F i (by omega)), hUs, hCh.frame (F 76 (by decide)) (fun k _ => F _ (by omega)), hCo.frame (F 77 (by decide)) (fun k _ => F _ (by omega))⟩, hIm, hKe, hKu, rfl, hTr, hTn, hTg, hSh⟩
        rw [F _ (by omega)]
        exact T2 i hi
  · refine ⟨?_, ?_, ?_, ?_, ?_, ?_, ?_, ?_, ?_, ?_, ?_, ?_, ?_, ?_, ?_, ?_, ?_, ?_, ?_, ?_, ?_, ?_, ?_, ?_, ?c, ?q7, ?r⟩
    case c =>
      simp only [f_X6_text, jnE]
      rw [rngC 2 (by decide), if_neg hp, ef1]
      rfl
    case q7 =>
      simp only [f_X7_text]
      rw [e7_inb 2 (by decide), bdE1, b01, if_neg hp, eg1]
      rfl
    case r => exact ⟨⟨hPp, hMo, hSc, ⟨T0, ⟨len, hlen, rfl⟩, T2⟩, hWa, hUs, hCh, hCo⟩, hIm, hKe, hKu, rfl, hTr, hTn, hTg, hSh⟩
