set_option maxHeartbeats 1000000 in
set_option maxRecDepth 10000 in
theorem st_sew {c_now_folk_size : Int32} {c_now_folk_kind : Nat → Int32} {c_now_folk_mark : Nat → Int32} {c_now_folk_horn : Nat → Int32} {c_now_folk_brass : Nat → Int32} {c_now_folk_open : Nat → Int32} {c_now_folk_health : Nat → Int32} {c_now_motions : Int32} {c_now_quorum : Nat → Int32} {c_now_favour : Nat → Int32} {c_now_laws : Int32} {c_now_urnHorn : Int32} {c_now_urnBrass : Int32} {c_now_thread : Int32} {c_now_winter : Int32} {c_now_day : Int32} {c_now_chill_use : Int32} {c_now_chill_codes : Nat → Int32} {c_now_chill_size : Int32} {c_now_cold_use : Int32} {c_now_cold_codes : Nat → Int32} {c_now_cold_size : Int32} {c_now_tape : Nat → Int32} {c_now_taped : Int32} {c_now_z : Int32} {c_now_waiting : Nat → Int32} {c_now_waits : Int32} {c_kept_folk_size : Int32} {c_kept_folk_kind : Nat → Int32} {c_kept_folk_mark : Nat → Int32} {c_kept_folk_horn : Nat → Int32} {c_kept_folk_brass : Nat → Int32} {c_kept_folk_open : Nat → Int32} {c_kept_folk_health : Nat → Int32} {c_kept_motions : Int32} {c_kept_quorum : Nat → Int32} {c_kept_favour : Nat → Int32} {c_kept_laws : Int32} {c_kept_urnHorn : Int32} {c_kept_urnBrass : Int32} {c_kept_thread : Int32} {c_kept_winter : Int32} {c_kept_day : Int32} {c_kept_chill_use : Int32} {c_kept_chill_codes : Nat → Int32} {c_kept_chill_size : Int32} {c_kept_cold_use : Int32} {c_kept_cold_codes : Nat → Int32} {c_kept_cold_size : Int32} {c_kept_tape : Nat → Int32} {c_kept_taped : Int32} {c_kept_z : Int32} {c_kept_waiting : Nat → Int32} {c_kept_waits : Int32} {c_voices_traces : Nat → Int32} {c_voices_traced : Int32} {c_sh_bits : Nat → Int32} {c_sh_size : Nat → Int32} {c_sh_numbers : Nat → Nat → Int32} {c_errors : Nat → Int32} {c_images : Int32} {m_d : Nat → Int32} {m_kept : Nat → Int32} {m_images : Int32} {m_found : Nat → Int32} {m_traced : Nat → Int32} {m_traceMany : Int32} {m_bitsOf : Nat → Int32} {m_sizeOf : Nat → Int32} {m_number : Nat → Int32} (R : Rel c_now_folk_size c_now_folk_kind c_now_folk_mark c_now_folk_horn c_now_folk_brass c_now_folk_open c_now_folk_health c_now_motions c_now_quorum c_now_favour c_now_laws c_now_urnHorn c_now_urnBrass c_now_thread c_now_winter c_now_day c_now_chill_use c_now_chill_codes c_now_chill_size c_now_cold_use c_now_cold_codes c_now_cold_size c_now_tape c_now_taped c_now_z c_now_waiting c_now_waits c_kept_folk_size c_kept_folk_kind c_kept_folk_mark c_kept_folk_horn c_kept_folk_brass c_kept_folk_open c_kept_folk_health c_kept_motions c_kept_quorum c_kept_favour c_kept_laws c_kept_urnHorn c_kept_urnBrass c_kept_thread c_kept_winter c_kept_day c_kept_chill_use c_kept_chill_codes c_kept_chill_size c_kept_cold_use c_kept_cold_codes c_kept_cold_size c_kept_tape c_kept_taped c_kept_z c_kept_waiting c_kept_waits c_voices_traces c_voices_traced c_sh_bits c_sh_size c_sh_numbers c_errors c_images m_d m_kept m_images m_found m_traced m_traceMany m_bitsOf m_sizeOf m_number) (p0 : Int32) (p1 : Int32) : ∃ (x_now_folk_horn : Nat → Int32) (x_now_folk_brass : Nat → Int32) (x_now_folk_open : Nat → Int32) (x_now_folk_health : Nat → Int32) (x_now_urnHorn : Int32) (x_now_urnBrass : Int32) (x_now_thread : Int32) (x_errors : Nat → Int32) (r : Int32) (y_d : Nat → Int32) (y_found : Nat → Int32), f_X6_sew c_now_folk_size c_now_folk_horn c_now_folk_brass c_now_folk_open c_now_folk_health c_now_urnHorn c_now_urnBrass c_now_thread c_errors p0 p1 = some (x_now_folk_horn, x_now_folk_brass, x_now_folk_open, x_now_folk_health, x_now_urnHorn, x_now_urnBrass, x_now_thread, x_errors, r) ∧ f_X7_sew m_d m_found p0 p1 = some (y_d, y_found, r) ∧ Rel c_now_folk_size c_now_folk_kind c_now_folk_mark x_now_folk_horn x_now_folk_brass x_now_folk_open x_now_folk_health c_now_motions c_now_quorum c_now_favour c_now_laws x_now_urnHorn x_now_urnBrass x_now_thread c_now_winter c_now_day c_now_chill_use c_now_chill_codes c_now_chill_size c_now_cold_use c_now_cold_codes c_now_cold_size c_now_tape c_now_taped c_now_z c_now_waiting c_now_waits c_kept_folk_size c_kept_folk_kind c_kept_folk_mark c_kept_folk_horn c_kept_folk_brass c_kept_folk_open c_kept_folk_health c_kept_motions c_kept_quorum c_kept_favour c_kept_laws c_kept_urnHorn c_kept_urnBrass c_kept_thread c_kept_winter c_kept_day c_kept_chill_use c_kept_chill_codes c_kept_chill_size c_kept_cold_use c_kept_cold_codes c_kept_cold_size c_kept_tape c_kept_taped c_kept_z c_kept_waiting c_kept_waits c_voices_traces c_voices_traced c_sh_bits c_sh_size c_sh_numbers x_errors c_images y_d m_kept m_images y_found m_traced m_traceMany m_bitsOf m_sizeOf m_number := by
  obtain ⟨⟨hPp, hMo, hSc, hTa, hWa, hUs, hCh, hCo⟩, hIm, hKe, hKu, hEr, hTr, hTn, hTg, hSh⟩ := R
  subst hEr
  obtain ⟨n, hn, hsz, hD0, H, D⟩ := PplR_out hPp
  subst hsz
  have e2b0 : (2 : Int32) + nI 0 = 2 := by decide
  have e2b1 : (2 : Int32) + nI 1 = 3 := by decide
  by_cases hp : inb p0 n = true
  · obtain ⟨p, hpn, rfl⟩ := inb_of hp (by omega)
    by_cases hb : inb p1 2 = true
    · obtain ⟨b, hb2, rfl⟩ := inb_of hb (by decide)
      have hSc0 := hSc
      obtain ⟨⟨u1, ⟨U, hU, eU⟩⟩, ⟨u3, ⟨V, hV, eV⟩⟩, ⟨u5, ⟨T, hT, eT⟩⟩, u7, u9, u11⟩ := hSc0
      obtain ⟨a1, a2, ⟨x, hx, ex⟩, ⟨y, hy, ey⟩, ⟨o, ho, eo⟩, ⟨h, hh, eh⟩⟩ := H p (by omega)
      obtain ⟨d1, d2, d3, d4, d5, d6⟩ := D p (by omega)
      rcases (show b = 0 ∨ b = 1 by omega) with rfl | rfl
      · by_cases z9 : x = 9
        · refine ⟨?_, ?_, ?_, ?_, ?_, ?_, ?_, ?_, ?_, ?_, ?_, ?c, ?q7, ?r⟩
          case c =>
            simp only [f_X6_sew, e0_has rfl (show n < 1000 by omega), bdE1, jnE, nmE]
            rw [if_pos hp, if_neg (by decide), rngC 2 (by decide), if_pos hb, row0, bdE1, if_pos rfl, rdA_i rfl (by omega), ex, if_neg (show ¬ nI x < (9 : Int32) from nI_nlt (b := 9) (by omega) (by omega)), ef1]
            rfl
          case q7 =>
            simp only [f_X7_sew, e7_isPerson hD0 (show n < 1000 by omega), bdE1, jnE, nmE]
            rw [if_pos hp, if_neg (by decide), e7_inb 2 (by decide), bdE1, b01, if_pos hb]
            simp only [e2b0]
            rw [eo2 (by omega), bdE1, d3, ex, if_pos (show nI x = (9 : Int32) by rw [z9]; rfl), eg1]
            rfl
          case r => first | exact ⟨⟨PplR_of hn hD0 H D, hMo, hSc, hTa, hWa, hUs, hCh, hCo⟩, hIm, hKe, hKu, rfl, hTr, hTn, hTg, hSh⟩ | (rw [eT] at hSc; exact ⟨⟨PplR_of hn hD0 H D, hMo, hSc, hTa, hWa, hUs, hCh, hCo⟩, hIm, hKe, hKu, rfl, hTr, hTn, hTg, hSh⟩) | (rw [eT, eU] at hSc; exact ⟨⟨PplR_of hn hD0 H D, hMo, hSc, hTa, hWa, hUs, hCh, hCo⟩, hIm, hKe, hKu, rfl, hTr, hTn, hTg, hSh⟩) | (rw [eT, eV] at hSc; exact ⟨⟨PplR_of hn hD0 H D, hMo, hSc, hTa, hWa, hUs, hCh, hCo⟩, hIm, hKe, hKu, rfl, hTr, hTn, hTg, hSh⟩)
        · by_cases z1 : h = 0
          · refine ⟨?_, ?_, ?_, ?_, ?_, ?_, ?_, ?_, ?_, ?_, ?_, ?c, ?q7, ?r⟩
            case c =>
              simp only [f_X6_sew, e0_has rfl (show n < 1000 by omega), bdE1, jnE, nmE]
              rw [if_pos hp, if_neg (by decide), rngC 2 (by decide), if_pos hb, row0, bdE1, if_pos rfl, rdA_i rfl (by omega), ex, if_pos (show nI x < (9 : Int32) from nI_lt (b := 9) (by omega) (by decide)), if_neg (show ¬ nI 0 = (1 : Int32) by decide), rdA_i rfl (by omega), eh, if_pos (show nI h = (0 : Int32) by rw [z1]; rfl), ef3]
              rfl
            case q7 =>
              simp only [f_X7_sew, e7_isPerson hD0 (show n < 1000 by omega), bdE1, jnE, nmE]
              rw [if_pos hp, if_neg (by decide), e7_inb 2 (by decide), bdE1, b01, if_pos hb]
              simp only [e2b0]
              rw [eo2 (by omega), bdE1, d3, ex, if_neg (show ¬ nI x = (9 : Int32) from fun q => z9 ((nI_eq (b := 9) (by omega) (by decide)).mp q)), e7_dead (by omega), bdE1, d6, eh, if_pos (show nI h = (0 : Int32) by rw [z1]; rfl), if_neg (by decide), eg3]
              rfl
            case r => first | exact ⟨⟨PplR_of hn hD0 H D, hMo, hSc, hTa, hWa, hUs, hCh, hCo⟩, hIm, hKe, hKu, rfl, hTr, hTn, hTg, hSh⟩ | (rw [eT] at hSc; exact ⟨⟨PplR_of hn hD0 H D, hMo, hSc, hTa, hWa, hUs, hCh, hCo⟩, hIm, hKe, hKu, rfl, hTr, hTn, hTg, hSh⟩) | (rw [eT, eU] at hSc; exact ⟨⟨PplR_of hn hD0 H D, hMo, hSc, hTa, hWa, hUs, hCh, hCo⟩, hIm, hKe, hKu, rfl, hTr, hTn, hTg, hSh⟩) | (rw [eT, eV] at hSc; exact ⟨⟨PplR_of hn hD0 H D, hMo, hSc, hTa, hWa, hUs, hCh, hCo⟩, hIm, hKe, hKu, rfl, hTr, hTn, hTg, hSh⟩)
          · by_cases z2 : T = 0
            · refine ⟨?_, ?_, ?_, ?_, ?_, ?_, ?_, ?_, ?_, ?_, ?_, ?c, ?q7, ?r⟩
              case c =>
                simp only [f_X6_sew, e0_has rfl (show n < 1000 by omega), bdE1, jnE, nmE]
                rw [if_pos hp, if_neg (by decide), rngC 2 (by decide), if_pos hb, row0, bdE1, if_pos rfl, rdA_i rfl (by omega), ex, if_pos (show nI x < (9 : Int32) from nI_lt (b := 9) (by omega) (by decide)), if_neg (show ¬ nI 0 = (1 : Int32) by decide), rdA_i rfl (by omega), eh, if_neg (nI_ne0 (by omega) (by omega)), eT, if_pos (show nI T = (0 : Int32) by rw [z2]; rfl), ef3]
                rfl
              case q7 =>
                simp only [f_X7_sew, e7_isPerson hD0 (show n < 1000 by omega), bdE1, jnE, nmE]
                rw [if_pos hp, if_neg (by decide), e7_inb 2 (by decide), bdE1, b01, if_pos hb]
                simp only [e2b0]
                rw [eo2 (by omega), bdE1, d3, ex, if_neg (show ¬ nI x = (9 : Int32) from fun q => z9 ((nI_eq (b := 9) (by omega) (by decide)).mp q)), e7_dead (by omega), bdE1, d6, eh, if_neg (nI_ne0 (by omega) (by omega)), if_pos rfl, rdA_i (i := 4) (k := 4) rfl (by decide), u5, eT, if_pos (show nI T = (0 : Int32) by rw [z2]; rfl), eg3]
                rfl
              case r => first | exact ⟨⟨PplR_of hn hD0 H D, hMo, hSc, hTa, hWa, hUs, hCh, hCo⟩, hIm, hKe, hKu, rfl, hTr, hTn, hTg, hSh⟩ | (rw [eT] at hSc; exact ⟨⟨PplR_of hn hD0 H D, hMo, hSc, hTa, hWa, hUs, hCh, hCo⟩, hIm, hKe, hKu, rfl, hTr, hTn, hTg, hSh⟩) | (rw [eT, eU] at hSc; exact ⟨⟨PplR_of hn hD0 H D, hMo, hSc, hTa, hWa, hUs, hCh, hCo⟩, hIm, hKe, hKu, rfl, hTr, hTn, hTg, hSh⟩) | (rw [eT, eV] at hSc; exact ⟨⟨PplR_of hn hD0 H D, hMo, hSc, hTa, hWa, hUs, hCh, hCo⟩, hIm, hKe, hKu, rfl, hTr, hTn, hTg, hSh⟩)
            · by_cases z3 : U = 0
              · refine ⟨?_, ?_, ?_, ?_, ?_, ?_, ?_, ?_, ?_, ?_, ?_, ?c, ?q7, ?r⟩
                case c =>
                  simp only [f_X6_sew, e0_has rfl (show n < 1000 by omega), bdE1, jnE, nmE]
                  rw [if_pos hp, if_neg (by decide), rngC 2 (by decide), if_pos hb, row0, bdE1, if_pos rfl, rdA_i rfl (by omega), ex, if_pos (show nI x < (9 : Int32) from nI_lt (b := 9) (by omega) (by decide)), if_neg (show ¬ nI 0 = (1 : Int32) by decide), rdA_i rfl (by omega), eh, if_neg (nI_ne0 (by omega) (by omega)), eT, if_neg (nI_ne0 (by omega) (by omega)), eU, if_pos (show nI U = (0 : Int32) by rw [z3]; rfl), ef3]
                  rfl
                case q7 =>
                  simp only [f_X7_sew, e7_isPerson hD0 (show n < 1000 by omega), bdE1, jnE, nmE]
                  rw [if_pos hp, if_neg (by decide), e7_inb 2 (by decide), bdE1, b01, if_pos hb]
                  simp only [e2b0]
                  rw [eo2 (by omega), bdE1, d3, ex, if_neg (show ¬ nI x = (9 : Int32) from fun q => z9 ((nI_eq (b := 9) (by omega) (by decide)).mp q)), e7_dead (by omega), bdE1, d6, eh, if_neg (nI_ne0 (by omega) (by omega)), if_pos rfl, rdA_i (i := 4) (k := 4) rfl (by decide), u5, eT, if_neg (nI_ne0 (by omega) (by omega)), rdA_i (i := 2) (k := 2) rfl (by decide), u1, eU, if_pos (show nI U = (0 : Int32) by rw [z3]; rfl), eg3]
                  rfl
                case r => first | exact ⟨⟨PplR_of hn hD0 H D, hMo, hSc, hTa, hWa, hUs, hCh, hCo⟩, hIm, hKe, hKu, rfl, hTr, hTn, hTg, hSh⟩ | (rw [eT] at hSc; exact ⟨⟨PplR_of hn hD0 H D, hMo, hSc, hTa, hWa, hUs, hCh, hCo⟩, hIm, hKe, hKu, rfl, hTr, hTn, hTg, hSh⟩) | (rw [eT, eU] at hSc; exact ⟨⟨PplR_of hn hD0 H D, hMo, hSc, hTa, hWa, hUs, hCh, hCo⟩, hIm, hKe, hKu, rfl, hTr, hTn, hTg, hSh⟩) | (rw [eT, eV] at hSc; exact ⟨⟨PplR_of hn hD0 H D, hMo, hSc, hTa, hWa, hUs, hCh, hCo⟩, hIm, hKe, hKu, rfl, hTr, hTn, hTg, hSh⟩)
              · by_cases z4 : o = 0
                · refine ⟨?_, ?_, ?_, ?_, ?_, ?_, ?_, ?_, ?_, ?_, ?_, ?c, ?q7, ?r⟩
                  case c =>
                    simp only [f_X6_sew, e0_has rfl (show n < 1000 by omega), bdE1, jnE, nmE]
                    rw [if_pos hp, if_neg (by decide), rngC 2 (by decide), if_pos hb, row0, bdE1, if_pos rfl, rdA_i rfl (by omega), ex, if_pos (show nI x < (9 : Int32) from nI_lt (b := 9) (by omega) (by decide)), if_neg (show ¬ nI 0 = (1 : Int32) by decide), rdA_i rfl (by omega), eh, if_neg (nI_ne0 (by omega) (by omega)), eT, if_neg (nI_ne0 (by omega) (by omega)), eU, if_neg (nI_ne0 (by omega) (by omega)), rdA_i rfl (by omega), eo, if_pos (show nI o = (0 : Int32) by rw [z4]; rfl), ef3]
                    rfl
                  case q7 =>
                    simp only [f_X7_sew, e7_isPerson hD0 (show n < 1000 by omega), bdE1, jnE, nmE]
                    rw [if_pos hp, if_neg (by decide), e7_inb 2 (by decide), bdE1, b01, if_pos hb]
                    simp only [e2b0]
                    rw [eo2 (by omega), bdE1, d3, ex, if_neg (show ¬ nI x = (9 : Int32) from fun q => z9 ((nI_eq (b := 9) (by omega) (by decide)).mp q)), e7_dead (by omega), bdE1, d6, eh, if_neg (nI_ne0 (by omega) (by omega)), if_pos rfl, rdA_i (i := 4) (k := 4) rfl (by decide), u5, eT, if_neg (nI_ne0 (by omega) (by omega)), rdA_i (i := 2) (k := 2) rfl (by decide), u1, eU, if_neg (nI_ne0 (by omega) (by omega)), eo4 (by omega), bdE1, d5, eo, if_pos (show nI o = (0 : Int32) by rw [z4]; rfl), eg3]
                    rfl
                  case r => first | exact ⟨⟨PplR_of hn hD0 H D, hMo, hSc, hTa, hWa, hUs, hCh, hCo⟩, hIm, hKe, hKu, rfl, hTr, hTn, hTg, hSh⟩ | (rw [eT] at hSc; exact ⟨⟨PplR_of hn hD0 H D, hMo, hSc, hTa, hWa, hUs, hCh, hCo⟩, hIm, hKe, hKu, rfl, hTr, hTn, hTg, hSh⟩) | (rw [eT, eU] at hSc; exact ⟨⟨PplR_of hn hD0 H D, hMo, hSc, hTa, hWa, hUs, hCh, hCo⟩, hIm, hKe, hKu, rfl, hTr, hTn, hTg, hSh⟩) | (rw [eT, eV] at hSc; exact ⟨⟨PplR_of hn hD0 H D, hMo, hSc, hTa, hWa, hUs, hCh, hCo⟩, hIm, hKe, hKu, rfl, hTr, hTn, hTg, hSh⟩)
                · obtain ⟨o, rfl⟩ : ∃ q, o = q + 1 := ⟨o - 1, by omega⟩
                  obtain ⟨T, rfl⟩ : ∃ q, T = q + 1 := ⟨T - 1, by omega⟩
                  obtain ⟨U, rfl⟩ : ∃ q, U = q + 1 := ⟨U - 1, by omega⟩
                  refine ⟨?_, ?_, ?_, ?_, ?_, ?_, ?_, ?_, ?_, ?_, ?_, ?c, ?q7, ?r⟩
                  case c =>
                    simp only [f_X6_sew, e0_has rfl (show n < 1000 by omega), bdE1, jnE, nmE]
                    rw [if_pos hp, if_neg (by decide), rngC 2 (by decide), if_pos hb, row0, bdE1, if_pos rfl, rdA_i rfl (by omega), ex, if_pos (show nI x < (9 : Int32) from nI_lt (b := 9) (by omega) (by decide)), if_neg (show ¬ nI 0 = (1 : Int32) by decide), rdA_i rfl (by omega), eh, if_neg (nI_ne0 (by omega) (by omega)), eT, if_neg (nI_ne0 (by omega) (by omega)), eU, if_neg (nI_ne0 (by omega) (by omega)), rdA_i rfl (by omega), eo, if_neg (nI_ne0 (by omega) (by omega)), if_neg (show ¬ nI 0 = (1 : Int32) by decide), rdA_i rfl (by omega), wrA_i rfl (by omega), rdA_i rfl (by omega), wrA_i rfl (by omega), rdA_i rfl (by omega), upd_s, ex, eo, nI_1, nI_pred, nI_pred, nI_pred]
                  case q7 =>
                    simp only [f_X7_sew, e7_isPerson hD0 (show n < 1000 by omega), bdE1, jnE, nmE]
                    rw [if_pos hp, if_neg (by decide), e7_inb 2 (by decide), bdE1, b01, if_pos hb]
                    simp only [e2b0]
                    rw [eo2 (by omega), bdE1, d3, ex, if_neg (show ¬ nI x = (9 : Int32) from fun q => z9 ((nI_eq (b := 9) (by omega) (by decide)).mp q)), e7_dead (by omega), bdE1, d6, eh, if_neg (nI_ne0 (by omega) (by omega)), if_pos rfl, rdA_i (i := 4) (k := 4) rfl (by decide), u5, eT, if_neg (nI_ne0 (by omega) (by omega)), rdA_i (i := 2) (k := 2) rfl (by decide), u1, eU, if_neg (nI_ne0 (by omega) (by omega)), eo4 (by omega), bdE1, d5, eo, if_neg (nI_ne0 (by omega) (by omega)), rdA_i (i := 2) (k := 2) rfl (by decide), u1, eU, wrA_i (i := 2) (k := 2) rfl (by decide), rdA_i (i := 4) (k := 4) rfl (by decide), upd_n (by decide), u5, eT, wrA_i (i := 4) (k := 4) rfl (by decide), eo2 (by omega), bdE1, upd_n (by omega), upd_n (by omega), d3, ex, es2 (by omega), bdE1, eo4 (by omega), bdE1, upd_n (by omega), upd_n (by omega), upd_n (by omega), d5, eo, es4 (by omega), bdE1, eo4 (by omega), bdE1, upd_s, nI_1, nI_pred, nI_pred, nI_pred]
                  case r =>
                    have F0 : ∀ i, i ≠ 2 → i ≠ 4 → (upd (upd m_d 2 (nI U)) 4 (nI T)) i = m_d i := fun i a b => by rw [upd_n b, upd_n a]
                    have F : ∀ i, i ≠ 2 → i ≠ 4 → ¬ (10 ≤ i ∧ i < 58) → (upd (upd (upd (upd m_d 2 (nI U)) 4 (nI T)) (12 + 6 * p) (nI (x + 1))) (14 + 6 * p) (nI o)) i = m_d i := fun i a b c => by rw [upd_n (by omega), upd_n (by omega)]; exact F0 i a b
                    have D2 := ((D.fr (fun i h1 h2 => F0 i (by omega) (by omega))).s_horn (k := p) (v := nI (x + 1)) (by omega)).s_open_ (k := p) (v := nI o) (by omega)
                    have H2 := (H.s_horn (k := p) (v := nI (x + 1)) ⟨x + 1, by omega, rfl⟩).s_open_ (k := p) (v := nI o) ⟨o, by omega, rfl⟩
                    obtain ⟨hTa', hWa', hCh', hCo'⟩ := rest_fr hTa hWa hCh hCo (fun i hi => F i (by omega) (by omega) (by omega))
                    refine ⟨⟨PplR_of hn ((F 0 (by omega) (by omega) (by omega)).trans hD0) H2 D2, hMo.frame (fun i hi => F i (by omega) (by omega) (by omega)), ⟨⟨by rw [upd_n (by omega), upd_n (by omega), upd_n (by omega), upd_s], ⟨U, by omega, rfl⟩⟩, ⟨(F 3 (by omega) (by omega) (by omega)).trans u3, ⟨V, hV, eV⟩⟩, ⟨by rw [upd_n (by omega), upd_n (by omega), upd_s], ⟨T, by omega, rfl⟩⟩, ?_, ?_, ?_⟩, hTa', hWa', hUs, hCh', hCo'⟩, hIm, hKe, hKu, rfl, hTr, hTn, hTg, hSh⟩
                    · rw [F 5 (by omega) (by omega) (by omega)]; exact u7
                    · rw [F 6 (by omega) (by omega) (by omega)]; exact u9
                    · rw [F 7 (by omega) (by omega) (by omega)]; exact u11
      · by_cases z9 : y = 9
        · refine ⟨?_, ?_, ?_, ?_, ?_, ?_, ?_, ?_, ?_, ?_, ?_, ?c, ?q7, ?r⟩
          case c =>
            simp only [f_X6_sew, e0_has rfl (show n < 1000 by omega), bdE1, jnE, nmE]
            rw [if_pos hp, if_neg (by decide), rngC 2 (by decide), if_pos hb, row1, bdE1, if_neg (by decide), if_pos rfl, rdA_i rfl (by omega), ey, if_neg (show ¬ nI y < (9 : Int32) from nI_nlt (b := 9) (by omega) (by omega)), ef1]
            rfl
          case q7 =>
            simp only [f_X7_sew, e7_isPerson hD0 (show n < 1000 by omega), bdE1, jnE, nmE]
            rw [if_pos hp, if_neg (by decide), e7_inb 2 (by decide), bdE1, b01, if_pos hb]
            simp only [e2b1]
            rw [eo3 (by omega), bdE1, d4, ey, if_pos (show nI y = (9 : Int32) by rw [z9]; rfl), eg1]
            rfl
          case r => first | exact ⟨⟨PplR_of hn hD0 H D, hMo, hSc, hTa, hWa, hUs, hCh, hCo⟩, hIm, hKe, hKu, rfl, hTr, hTn, hTg, hSh⟩ | (rw [eT] at hSc; exact ⟨⟨PplR_of hn hD0 H D, hMo, hSc, hTa, hWa, hUs, hCh, hCo⟩, hIm, hKe, hKu, rfl, hTr, hTn, hTg, hSh⟩) | (rw [eT, eU] at hSc; exact ⟨⟨PplR_of hn hD0 H D, hMo, hSc, hTa, hWa, hUs, hCh, hCo⟩, hIm, hKe, hKu, rfl, hTr, hTn, hTg, hSh⟩) | (rw [eT, eV] at hSc; exact ⟨⟨PplR_of hn hD0 H D, hMo, hSc, hTa, hWa, hUs, hCh, hCo⟩, hIm, hKe, hKu, rfl, hTr, hTn, hTg, hSh⟩)
        · by_cases z1 : h = 0
          · refine ⟨?_, ?_, ?_, ?_, ?_, ?_, ?_, ?_, ?_, ?_, ?_, ?c, ?q7, ?r⟩
            case c =>
              simp only [f_X6_sew, e0_has rfl (show n < 1000 by omega), bdE1, jnE, nmE]
              rw [if_pos hp, if_neg (by decide), rngC 2 (by decide), if_pos hb, row1, bdE1, if_neg (by decide), if_pos rfl, rdA_i rfl (by omega), ey, if_pos (show nI y < (9 : Int32) from nI_lt (b := 9) (by omega) (by decide)), if_pos (show nI 1 = (1 : Int32) by decide), rdA_i rfl (by omega), eh, if_pos (show nI h = (0 : Int32) by rw [z1]; rfl), ef3]
              rfl
            case q7 =>
              simp only [f_X7_sew, e7_isPerson hD0 (show n < 1000 by omega), bdE1, jnE, nmE]
              rw [if_pos hp, if_neg (by decide), e7_inb 2 (by decide), bdE1, b01, if_pos hb]
              simp only [e2b1]
              rw [eo3 (by omega), bdE1, d4, ey, if_neg (show ¬ nI y = (9 : Int32) from fun q => z9 ((nI_eq (b := 9) (by omega) (by decide)).mp q)), e7_dead (by omega), bdE1, d6, eh, if_pos (show nI h = (0 : Int32) by rw [z1]; rfl), if_neg (by decide), eg3]
              rfl
            case r => first | exact ⟨⟨PplR_of hn hD0 H D, hMo, hSc, hTa, hWa, hUs, hCh, hCo⟩, hIm, hKe, hKu, rfl, hTr, hTn, hTg, hSh⟩ | (rw [eT] at hSc; exact ⟨⟨PplR_of hn hD0 H D, hMo, hSc, hTa, hWa, hUs, hCh, hCo⟩, hIm, hKe, hKu, rfl, hTr, hTn, hTg, hSh⟩) | (rw [eT, eU] at hSc; exact ⟨⟨PplR_of hn hD0 H D, hMo, hSc, hTa, hWa, hUs, hCh, hCo⟩, hIm, hKe, hKu, rfl, hTr, hTn, hTg, hSh⟩) | (rw [eT, eV] at hSc; exact ⟨⟨PplR_of hn hD0 H D, hMo, hSc, hTa, hWa, hUs, hCh, hCo⟩, hIm, hKe, hKu, rfl, hTr, hTn, hTg, hSh⟩)
          · by_cases z2 : T = 0
            · refine ⟨?_, ?_, ?_, ?_, ?_, ?_, ?_, ?_, ?_, ?_, ?_, ?c, ?q7, ?r⟩
              case c =>
                simp only [f_X6_sew, e0_has rfl (show n < 1000 by omega), bdE1, jnE, nmE]
                rw [if_pos hp, if_neg (by decide), rngC 2 (by decide), if_pos hb, row1, bdE1, if_neg (by decide), if_pos rfl, rdA_i rfl (by omega), ey, if_pos (show nI y < (9 : Int32) from nI_lt (b := 9) (by omega) (by decide)), if_pos (show nI 1 = (1 : Int32) by decide), rdA_i rfl (by omega), eh, if_neg (nI_ne0 (by omega) (by omega)), eT, if_pos (show nI T = (0 : Int32) by rw [z2]; rfl), ef3]
                rfl
              case q7 =>
                simp only [f_X7_sew, e7_isPerson hD0 (show n < 1000 by omega), bdE1, jnE, nmE]
                rw [if_pos hp, if_neg (by decide), e7_inb 2 (by decide), bdE1, b01, if_pos hb]
                simp only [e2b1]
                rw [eo3 (by omega), bdE1, d4, ey, if_neg (show ¬ nI y = (9 : Int32) from fun q => z9 ((nI_eq (b := 9) (by omega) (by decide)).mp q)), e7_dead (by omega), bdE1, d6, eh, if_neg (nI_ne0 (by omega) (by omega)), if_pos rfl, rdA_i (i := 4) (k := 4) rfl (by decide), u5, eT, if_pos (show nI T = (0 : Int32) by rw [z2]; rfl), eg3]
                rfl
              case r => first | exact ⟨⟨PplR_of hn hD0 H D, hMo, hSc, hTa, hWa, hUs, hCh, hCo⟩, hIm, hKe, hKu, rfl, hTr, hTn, hTg, hSh⟩ | (rw [eT] at hSc; exact ⟨⟨PplR_of hn hD0 H D, hMo, hSc, hTa, hWa, hUs, hCh, hCo⟩, hIm, hKe, hKu, rfl, hTr, hTn, hTg, hSh⟩) | (rw [eT, eU] at hSc; exact ⟨⟨PplR_of hn hD0 H D, hMo, hSc, hTa, hWa, hUs, hCh, hCo⟩, hIm, hKe, hKu, rfl, hTr, hTn, hTg, hSh⟩) | (rw [eT, eV] at hSc; exact ⟨⟨PplR_of hn hD0 H D, hMo, hSc, hTa, hWa, hUs, hCh, hCo⟩, hIm, hKe, hKu, rfl, hTr, hTn, hTg, hSh⟩)
            · by_cases z3 : V = 0
              · refine ⟨?_, ?_, ?_, ?_, ?_, ?_, ?_, ?_, ?_, ?_, ?_, ?c, ?q7, ?r⟩
                case c =>
                  simp only [f_X6_sew, e0_has rfl (show n < 1000 by omega), bdE1, jnE, nmE]
                  rw [if_pos hp, if_neg (by decide), rngC 2 (by decide), if_pos hb, row1, bdE1, if_neg (by decide), if_pos rfl, rdA_i rfl (by omega), ey, if_pos (show nI y < (9 : Int32) from nI_lt (b := 9) (by omega) (by decide)), if_pos (show nI 1 = (1 : Int32) by decide), rdA_i rfl (by omega), eh, if_neg (nI_ne0 (by omega) (by omega)), eT, if_neg (nI_ne0 (by omega) (by omega)), eV, if_pos (show nI V = (0 : Int32) by rw [z3]; rfl), ef3]
                  rfl
                case q7 =>
                  simp only [f_X7_sew, e7_isPerson hD0 (show n < 1000 by omega), bdE1, jnE, nmE]
                  rw [if_pos hp, if_neg (by decide), e7_inb 2 (by decide), bdE1, b01, if_pos hb]
                  simp only [e2b1]
                  rw [eo3 (by omega), bdE1, d4, ey, if_neg (show ¬ nI y = (9 : Int32) from fun q => z9 ((nI_eq (b := 9) (by omega) (by decide)).mp q)), e7_dead (by omega), bdE1, d6, eh, if_neg (nI_ne0 (by omega) (by omega)), if_pos rfl, rdA_i (i := 4) (k := 4) rfl (by decide), u5, eT, if_neg (nI_ne0 (by omega) (by omega)), rdA_i (i := 3) (k := 3) rfl (by decide), u3, eV, if_pos (show nI V = (0 : Int32) by rw [z3]; rfl), eg3]
                  rfl
                case r => first | exact ⟨⟨PplR_of hn hD0 H D, hMo, hSc, hTa, hWa, hUs, hCh, hCo⟩, hIm, hKe, hKu, rfl, hTr, hTn, hTg, hSh⟩ | (rw [eT] at hSc; exact ⟨⟨PplR_of hn hD0 H D, hMo, hSc, hTa, hWa, hUs, hCh, hCo⟩, hIm, hKe, hKu, rfl, hTr, hTn, hTg, hSh⟩) | (rw [eT, eU] at hSc; exact ⟨⟨PplR_of hn hD0 H D, hMo, hSc, hTa, hWa, hUs, hCh, hCo⟩, hIm, hKe, hKu, rfl, hTr, hTn, hTg, hSh⟩) | (rw [eT, eV] at hSc; exact ⟨⟨PplR_of hn hD0 H D, hMo, hSc, hTa, hWa, hUs, hCh, hCo⟩, hIm, hKe, hKu, rfl, hTr, hTn, hTg, hSh⟩)
              · by_cases z4 : o = 0
                · refine ⟨?_, ?_, ?_, ?_, ?_, ?_, ?_, ?_, ?_, ?_, ?_, ?c, ?q7, ?r⟩
                  case c =>
                    simp only [f_X6_sew, e0_has rfl (show n < 1000 by omega), bdE1, jnE, nmE]
                    rw [if_pos hp, if_neg (by decide), rngC 2 (by decide), if_pos hb, row1, bdE1, if_neg (by decide), if_pos rfl, rdA_i rfl (by omega), ey, if_pos (show nI y < (9 : Int32) from nI_lt (b := 9) (by omega) (by decide)), if_pos (show nI 1 = (1 : Int32) by decide), rdA_i rfl (by omega), eh, if_neg (nI_ne0 (by omega) (by omega)), eT, if_neg (nI_ne0 (by omega) (by omega)), eV, if_neg (nI_ne0 (by omega) (by omega)), rdA_i rfl (by omega), eo, if_pos (show nI o = (0 : Int32) by rw [z4]; rfl), ef3]
                    rfl
                  case q7 =>
                    simp only [f_X7_sew, e7_isPerson hD0 (show n < 1000 by omega), bdE1, jnE, nmE]
                    rw [if_pos hp, if_neg (by decide), e7_inb 2 (by decide), bdE1, b01, if_pos hb]
                    simp only [e2b1]
                    rw [eo3 (by omega), bdE1, d4, ey, if_neg (show ¬ nI y = (9 : Int32) from fun q => z9 ((nI_eq (b := 9) (by omega) (by decide)).mp q)), e7_dead (by omega), bdE1, d6, eh, if_neg (nI_ne0 (by omega) (by omega)), if_pos rfl, rdA_i (i := 4) (k := 4) rfl (by decide), u5, eT, if_neg (nI_ne0 (by omega) (by omega)), rdA_i (i := 3) (k := 3) rfl (by decide), u3, eV, if_neg (nI_ne0 (by omega) (by omega)), eo4 (by omega), bdE1, d5, eo, if_pos (show nI o = (0 : Int32) by rw [z4]; rfl), eg3]
                    rfl
                  case r => first | exact ⟨⟨PplR_of hn hD0 H D, hMo, hSc, hTa, hWa, hUs, hCh, hCo⟩, hIm, hKe, hKu, rfl, hTr, hTn, hTg, hSh⟩ | (rw [eT] at hSc; exact ⟨⟨PplR_of hn hD0 H D, hMo, hSc, hTa, hWa, hUs, hCh, hCo⟩, hIm, hKe, hKu, rfl, hTr, hTn, hTg, hSh⟩) | (rw [eT, eU] at hSc; exact ⟨⟨PplR_of hn hD0 H D, hMo, hSc, hTa, hWa, hUs, hCh, hCo⟩, hIm, hKe, hKu, rfl, hTr, hTn, hTg, hSh⟩) | (rw [eT, eV] at hSc; exact ⟨⟨PplR_of hn hD0 H D, hMo, hSc, hTa, hWa, hUs, hCh, hCo⟩, hIm, hKe, hKu, rfl, hTr, hTn, hTg, hSh⟩)
                · obtain ⟨o, rfl⟩ : ∃ q, o = q + 1 := ⟨o - 1, by omega⟩
                  obtain ⟨T, rfl⟩ : ∃ q, T = q + 1 := ⟨T - 1, by omega⟩
                  obtain ⟨V, rfl⟩ : ∃ q, V = q + 1 := ⟨V - 1, by omega⟩
                  refine ⟨?_, ?_, ?_, ?_, ?_, ?_, ?_, ?_, ?_, ?_, ?_, ?c, ?q7, ?r⟩
                  case c =>
                    simp only [f_X6_sew, e0_has rfl (show n < 1000 by omega), bdE1, jnE, nmE]
                    rw [if_pos hp, if_neg (by decide), rngC 2 (by decide), if_pos hb, row1, bdE1, if_neg (by decide), if_pos rfl, rdA_i rfl (by omega), ey, if_pos (show nI y < (9 : Int32) from nI_lt (b := 9) (by omega) (by decide)), if_pos (show nI 1 = (1 : Int32) by decide), rdA_i rfl (by omega), eh, if_neg (nI_ne0 (by omega) (by omega)), eT, if_neg (nI_ne0 (by omega) (by omega)), eV, if_neg (nI_ne0 (by omega) (by omega)), rdA_i rfl (by omega), eo, if_neg (nI_ne0 (by omega) (by omega)), if_pos (show nI 1 = (1 : Int32) by decide), rdA_i rfl (by omega), wrA_i rfl (by omega), rdA_i rfl (by omega), wrA_i rfl (by omega), rdA_i rfl (by omega), upd_s, ey, eo, nI_1, nI_pred, nI_pred, nI_pred]
                  case q7 =>
                    simp only [f_X7_sew, e7_isPerson hD0 (show n < 1000 by omega), bdE1, jnE, nmE]
                    rw [if_pos hp, if_neg (by decide), e7_inb 2 (by decide), bdE1, b01, if_pos hb]
                    simp only [e2b1]
                    rw [eo3 (by omega), bdE1, d4, ey, if_neg (show ¬ nI y = (9 : Int32) from fun q => z9 ((nI_eq (b := 9) (by omega) (by decide)).mp q)), e7_dead (by omega), bdE1, d6, eh, if_neg (nI_ne0 (by omega) (by omega)), if_pos rfl, rdA_i (i := 4) (k := 4) rfl (by decide), u5, eT, if_neg (nI_ne0 (by omega) (by omega)), rdA_i (i := 3) (k := 3) rfl (by decide), u3, eV, if_neg (nI_ne0 (by omega) (by omega)), eo4 (by omega), bdE1, d5, eo, if_neg (nI_ne0 (by omega) (by omega)), rdA_i (i := 3) (k := 3) rfl (by decide), u3, eV, wrA_i (i := 3) (k := 3) rfl (by decide), rdA_i (i := 4) (k := 4) rfl (by decide), upd_n (by decide), u5, eT, wrA_i (i := 4) (k := 4) rfl (by decide), eo3 (by omega), bdE1, upd_n (by omega), upd_n (by omega), d4, ey, es3 (by omega), bdE1, eo4 (by omega), bdE1, upd_n (by omega), upd_n (by omega), upd_n (by omega), d5, eo, es4 (by omega), bdE1, eo4 (by omega), bdE1, upd_s, nI_1, nI_pred, nI_pred, nI_pred]
                  case r =>
                    have F0 : ∀ i, i ≠ 3 → i ≠ 4 → (upd (upd m_d 3 (nI V)) 4 (nI T)) i = m_d i := fun i a b => by rw [upd_n b, upd_n a]
                    have F : ∀ i, i ≠ 3 → i ≠ 4 → ¬ (10 ≤ i ∧ i < 58) → (upd (upd (upd (upd m_d 3 (nI V)) 4 (nI T)) (13 + 6 * p) (nI (y + 1))) (14 + 6 * p) (nI o)) i = m_d i := fun i a b c => by rw [upd_n (by omega), upd_n (by omega)]; exact F0 i a b
                    have D2 := ((D.fr (fun i h1 h2 => F0 i (by omega) (by omega))).s_brass (k := p) (v := nI (y + 1)) (by omega)).s_open_ (k := p) (v := nI o) (by omega)
                    have H2 := (H.s_brass (k := p) (v := nI (y + 1)) ⟨y + 1, by omega, rfl⟩).s_open_ (k := p) (v := nI o) ⟨o, by omega, rfl⟩
                    obtain ⟨hTa', hWa', hCh', hCo'⟩ := rest_fr hTa hWa hCh hCo (fun i hi => F i (by omega) (by omega) (by omega))
                    refine ⟨⟨PplR_of hn ((F 0 (by omega) (by omega) (by omega)).trans hD0) H2 D2, hMo.frame (fun i hi => F i (by omega) (by omega) (by omega)), ⟨⟨(F 2 (by omega) (by omega) (by omega)).trans u1, ⟨U, hU, eU⟩⟩, ⟨by rw [upd_n (by omega), upd_n (by omega), upd_n (by omega), upd_s], ⟨V, by omega, rfl⟩⟩, ⟨by rw [upd_n (by omega), upd_n (by omega), upd_s], ⟨T, by omega, rfl⟩⟩, ?_, ?_, ?_⟩, hTa', hWa', hUs, hCh', hCo'⟩, hIm, hKe, hKu, rfl, hTr, hTn, hTg, hSh⟩
                    · rw [F 5 (by omega) (by omega) (by omega)]; exact u7
                    · rw [F 6 (by omega) (by omega) (by omega)]; exact u9
                    · rw [F 7 (by omega) (by omega) (by omega)]; exact u11
    · refine ⟨?_, ?_, ?_, ?_, ?_, ?_, ?_, ?_, ?_, ?_, ?_, ?c, ?q7, ?r⟩
      case c =>
        simp only [f_X6_sew, e0_has rfl (show n < 1000 by omega), bdE1, jnE]
        rw [if_pos hp, if_neg (by decide), rngC 2 (by decide), if_neg hb, ef1]
        rfl
      case q7 =>
        simp only [f_X7_sew, e7_isPerson hD0 (show n < 1000 by omega), bdE1, jnE]
        rw [if_pos hp, if_neg (by decide), e7_inb 2 (by decide), bdE1, b01, if_neg hb, eg1]
        rfl
      case r => first | exact ⟨⟨PplR_of hn hD0 H D, hMo, hSc, hTa, hWa, hUs, hCh, hCo⟩, hIm, hKe, hKu, rfl, hTr, hTn, hTg, hSh⟩ | (rw [eT] at hSc; exact ⟨⟨PplR_of hn hD0 H D, hMo, hSc, hTa, hWa, hUs, hCh, hCo⟩, hIm, hKe, hKu, rfl, hTr, hTn, hTg, hSh⟩) | (rw [eT, eU] at hSc; exact ⟨⟨PplR_of hn hD0 H D, hMo, hSc, hTa, hWa, hUs, hCh, hCo⟩, hIm, hKe, hKu, rfl, hTr, hTn, hTg, hSh⟩) | (rw [eT, eV] at hSc; exact ⟨⟨PplR_of hn hD0 H D, hMo, hSc, hTa, hWa, hUs, hCh, hCo⟩, hIm, hKe, hKu, rfl, hTr, hTn, hTg, hSh⟩)
  · refine ⟨?_, ?_, ?_, ?_, ?_, ?_, ?_, ?_, ?_, ?_, ?_, ?c, ?q7, ?r⟩
    case c =>
      simp only [f_X6_sew, e0_has rfl (show n < 1000 by omega), bdE1, jnE]
      rw [if_neg hp, if_pos rfl, ef1]
      rfl
    case q7 =>
      simp only [f_X7_sew, e7_isPerson hD0 (show n < 1000 by omega), bdE1, jnE]
      rw [if_neg hp, if_pos rfl, eg1]
      rfl
    case r => first | exact ⟨⟨PplR_of hn hD0 H D, hMo, hSc, hTa, hWa, hUs, hCh, hCo⟩, hIm, hKe, hKu, rfl, hTr, hTn, hTg, hSh⟩ | (rw [eT] at hSc; exact ⟨⟨PplR_of hn hD0 H D, hMo, hSc, hTa, hWa, hUs, hCh, hCo⟩, hIm, hKe, hKu, rfl, hTr, hTn, hTg, hSh⟩) | (rw [eT, eU] at hSc; exact ⟨⟨PplR_of hn hD0 H D, hMo, hSc, hTa, hWa, hUs, hCh, hCo⟩, hIm, hKe, hKu, rfl, hTr, hTn, hTg, hSh⟩) | (rw [eT, eV] at hSc; exact ⟨⟨PplR_of hn hD0 H D, hMo, hSc, hTa, hWa, hUs, hCh, hCo⟩, hIm, hKe, hKu, rfl, hTr, hTn, hTg, hSh⟩)
