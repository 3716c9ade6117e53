set_option maxHeartbeats 1000000 in
set_option maxRecDepth 10000 in
theorem st_motion {c_now_folk_size : Int32} {c_now_folk_kind : Nat → Int32} {c_now_folk_mark : Nat → Int32} {c_now_folk_horn : Nat → Int32} {c_now_folk_brass : Nat → Int32} {c_now_folk_open : Nat → Int32} {c_now_folk_health : Nat → Int32} {c_now_motions : Int32} {c_now_quorum : Nat → Int32} {c_now_favour : Nat → Int32} {c_now_laws : Int32} {c_now_urnHorn : Int32} {c_now_urnBrass : Int32} {c_now_thread : Int32} {c_now_winter : Int32} {c_now_day : Int32} {c_now_chill_use : Int32} {c_now_chill_codes : Nat → Int32} {c_now_chill_size : Int32} {c_now_cold_use : Int32} {c_now_cold_codes : Nat → Int32} {c_now_cold_size : Int32} {c_now_tape : Nat → Int32} {c_now_taped : Int32} {c_now_z : Int32} {c_now_waiting : Nat → Int32} {c_now_waits : Int32} {c_kept_folk_size : Int32} {c_kept_folk_kind : Nat → Int32} {c_kept_folk_mark : Nat → Int32} {c_kept_folk_horn : Nat → Int32} {c_kept_folk_brass : Nat → Int32} {c_kept_folk_open : Nat → Int32} {c_kept_folk_health : Nat → Int32} {c_kept_motions : Int32} {c_kept_quorum : Nat → Int32} {c_kept_favour : Nat → Int32} {c_kept_laws : Int32} {c_kept_urnHorn : Int32} {c_kept_urnBrass : Int32} {c_kept_thread : Int32} {c_kept_winter : Int32} {c_kept_day : Int32} {c_kept_chill_use : Int32} {c_kept_chill_codes : Nat → Int32} {c_kept_chill_size : Int32} {c_kept_cold_use : Int32} {c_kept_cold_codes : Nat → Int32} {c_kept_cold_size : Int32} {c_kept_tape : Nat → Int32} {c_kept_taped : Int32} {c_kept_z : Int32} {c_kept_waiting : Nat → Int32} {c_kept_waits : Int32} {c_voices_traces : Nat → Int32} {c_voices_traced : Int32} {c_sh_bits : Nat → Int32} {c_sh_size : Nat → Int32} {c_sh_numbers : Nat → Nat → Int32} {c_errors : Nat → Int32} {c_images : Int32} {m_d : Nat → Int32} {m_kept : Nat → Int32} {m_images : Int32} {m_found : Nat → Int32} {m_traced : Nat → Int32} {m_traceMany : Int32} {m_bitsOf : Nat → Int32} {m_sizeOf : Nat → Int32} {m_number : Nat → Int32} (R : Rel c_now_folk_size c_now_folk_kind c_now_folk_mark c_now_folk_horn c_now_folk_brass c_now_folk_open c_now_folk_health c_now_motions c_now_quorum c_now_favour c_now_laws c_now_urnHorn c_now_urnBrass c_now_thread c_now_winter c_now_day c_now_chill_use c_now_chill_codes c_now_chill_size c_now_cold_use c_now_cold_codes c_now_cold_size c_now_tape c_now_taped c_now_z c_now_waiting c_now_waits c_kept_folk_size c_kept_folk_kind c_kept_folk_mark c_kept_folk_horn c_kept_folk_brass c_kept_folk_open c_kept_folk_health c_kept_motions c_kept_quorum c_kept_favour c_kept_laws c_kept_urnHorn c_kept_urnBrass c_kept_thread c_kept_winter c_kept_day c_kept_chill_use c_kept_chill_codes c_kept_chill_size c_kept_cold_use c_kept_cold_codes c_kept_cold_size c_kept_tape c_kept_taped c_kept_z c_kept_waiting c_kept_waits c_voices_traces c_voices_traced c_sh_bits c_sh_size c_sh_numbers c_errors c_images m_d m_kept m_images m_found m_traced m_traceMany m_bitsOf m_sizeOf m_number) (p0 : Int32) (p1 : Int32) : ∃ (x_now_motions : Int32) (x_now_quorum : Nat → Int32) (x_now_favour : Nat → Int32) (x_errors : Nat → Int32) (r : Int32) (y_d : Nat → Int32) (y_found : Nat → Int32), f_X6_motion c_now_motions c_now_quorum c_now_favour c_errors p0 p1 = some (x_now_motions, x_now_quorum, x_now_favour, x_errors, r) ∧ f_X7_motion m_d m_found p0 p1 = some (y_d, y_found, r) ∧ Rel c_now_folk_size c_now_folk_kind c_now_folk_mark c_now_folk_horn c_now_folk_brass c_now_folk_open c_now_folk_health x_now_motions x_now_quorum x_now_favour c_now_laws c_now_urnHorn c_now_urnBrass c_now_thread c_now_winter c_now_day c_now_chill_use c_now_chill_codes c_now_chill_size c_now_cold_use c_now_cold_codes c_now_cold_size c_now_tape c_now_taped c_now_z c_now_waiting c_now_waits c_kept_folk_size c_kept_folk_kind c_kept_folk_mark c_kept_folk_horn c_kept_folk_brass c_kept_folk_open c_kept_folk_health c_kept_motions c_kept_quorum c_kept_favour c_kept_laws c_kept_urnHorn c_kept_urnBrass c_kept_thread c_kept_winter c_kept_day c_kept_chill_use c_kept_chill_codes c_kept_chill_size c_kept_cold_use c_kept_cold_codes c_kept_cold_size c_kept_tape c_kept_taped c_kept_z c_kept_waiting c_kept_waits c_voices_traces c_voices_traced c_sh_bits c_sh_size c_sh_numbers x_errors c_images y_d m_kept m_images y_found m_traced m_traceMany m_bitsOf m_sizeOf m_number := by
  obtain ⟨⟨hPp, hMo, hSc, hTa, hWa, hUs, hCh, hCo⟩, hIm, hKe, hKu, hEr, hTr, hTn, hTg, hSh⟩ := R
  subst hEr
  have hMo0 := hMo
  obtain ⟨m1, ⟨n, w, hn, rfl, hw, hl, hlb⟩, m3⟩ := hMo
  by_cases hp : inb p0 100 = true
  · obtain ⟨p, hpn, rfl⟩ := inb_of hp (by decide)
    by_cases hb : inb p1 256 = true
    · obtain ⟨sv, hsv, rfl⟩ := inb_of hb (by decide)
      by_cases h6 : n = 6
      · subst h6
        refine ⟨nI 6, c_now_quorum, c_now_favour, upd c_errors 4 (c_errors 4 + 1), (-1000000000) - 4, m_d, upd c_errors 4 (c_errors 4 + 1), ?_, ?_, ?_⟩
        · simp only [f_X6_motion, e6_set, jnA, bd1, Option.bind_some]
          rw [rngA 100 (by decide), if_pos hp, if_pos hb, if_neg (by decide), if_neg (by decide), ef4]
          rfl
        · simp only [f_X7_motion]
          rw [e7_inb 100 (by decide), if_pos hp]
          simp only [bd1, Option.bind_some, jnA]
          rw [if_neg (by decide), e7_inb 256 (by decide), if_pos hb, Option.bind_some, if_neg (by decide), rdA_i (i := 1) (k := 1) rfl (by decide), m1, if_pos (show nI 6 = (6 : Int32) from rfl), eg4]
          rfl
        · exact ⟨⟨hPp, hMo0, hSc, hTa, hWa, hUs, hCh, hCo⟩, hIm, hKe, hKu, rfl, hTr, hTn, hTg, hSh⟩
      · have hlt : nI n < 6 := by rw [Int32.lt_iff_toInt_lt, nI_toInt (by omega)]; show (n : Int) < 6; omega
        have hne : ¬ nI n = 6 := fun q => h6 ((nI_eq (a := n) (b := 6) (by omega) (by decide)).mp q)
        have hx : (58 : Int32) + 3 * nI n = nI (58 + 3 * n) := by
          rw [show (58 : Int32) = nI 58 from rfl, show (3 : Int32) = nI 3 from rfl, pk_mul, nI_add]
        have hx0 : nI (58 + 3 * n) + 0 = nI (58 + 3 * n) := nI_add _ 0
        have hx1 : nI (58 + 3 * n) + 1 = nI (59 + 3 * n) := by rw [nI_1]; congr 1; omega
        have hx2 : nI (58 + 3 * n) + 2 = nI (60 + 3 * n) := by rw [show (2 : Int32) = nI 2 from rfl, nI_add]; congr 1; omega
        refine ⟨nI (n + 1), upd c_now_quorum n (nI p), upd c_now_favour n (nI sv), c_errors, nI n, upd (upd (upd (upd m_d (58 + 3 * n) (nI p)) (59 + 3 * n) (nI sv)) (60 + 3 * n) 0) 1 (nI (n + 1)), c_errors, ?_, ?_, ?_⟩
        · simp only [f_X6_motion, e6_set, jnA, bd1, Option.bind_some, nmA]
          rw [rngA 100 (by decide), if_pos hp, if_pos hb, if_neg (by decide), if_pos hlt, wrA_i rfl (by omega), wrA_i rfl (by omega), nI_1]
        · simp only [f_X7_motion]
          rw [e7_inb 100 (by decide), if_pos hp]
          simp only [bd1, Option.bind_some, jnA, nmA]
          rw [if_neg (by decide), e7_inb 256 (by decide), if_pos hb, Option.bind_some, if_neg (by decide), rdA_i (i := 1) (k := 1) rfl (by decide), m1, if_neg hne, rdA_i (i := 1) (k := 1) rfl (by decide), m1, hx, hx0, hx1, hx2, wrA_i rfl (by omega), wrA_i rfl (by omega), wrA_i rfl (by omega), rdA_i (i := 1) (k := 1) rfl (by decide), upd_n (by omega), upd_n (by omega), upd_n (by omega), m1, nI_1, wrA_i (i := 1) (k := 1) rfl (by decide), rdA_i (i := 1) (k := 1) rfl (by decide), upd_s, nI_pred]
        · have F : ∀ i, i ≠ 1 → ¬ (58 + 3 * n ≤ i ∧ i < 61 + 3 * n) → upd (upd (upd (upd m_d (58 + 3 * n) (nI p)) (59 + 3 * n) (nI sv)) (60 + 3 * n) 0) 1 (nI (n + 1)) i = m_d i := fun i h1 h2 => by
            rw [upd_n h1, upd_n (by omega), upd_n (by omega), upd_n (by omega)]
          refine ⟨⟨hPp.frame (fun i hi => F i (by omega) (by omega)), ⟨upd_s, ⟨n + 1, w, by omega, rfl, by rw [Nat.pow_succ]; omega, hl, fun i hi => ?_⟩, fun i hi => ?_⟩, hSc.frame (fun i hi => F i (by omega) (by omega)), hTa.frame (fun i hi => F i (by omega) (by omega)), hWa.frame (fun i hi => F i (by omega) (by omega)), hUs, hCh.frame (F _ (by omega) (by omega)) (fun k hk => F _ (by omega) (by omega)), hCo.frame (F _ (by omega) (by omega)) (fun k hk => F _ (by omega) (by omega))⟩, hIm, hKe, hKu, rfl, hTr, hTn, hTg, hSh⟩
          · by_cases hi2 : i = n
            · subst hi2
              rw [upd_n (by omega), upd_s, Nat.div_eq_of_lt hw]
              rfl
            · rw [F _ (by omega) (by omega)]
              exact hlb i hi
          · obtain ⟨a1, a2, a3, a4⟩ := m3 i hi
            by_cases hi2 : i = n
            · subst hi2
              rw [upd_s, upd_s, upd_n (by omega), upd_n (by omega), upd_n (by omega), upd_s, upd_n (by omega), upd_n (by omega), upd_s]
              exact ⟨⟨p, by omega, rfl⟩, ⟨sv, by omega, rfl⟩, rfl, rfl⟩
            · rw [upd_n hi2, upd_n hi2, F _ (by omega) (by omega), F _ (by omega) (by omega)]
              exact ⟨a1, a2, a3, a4⟩
    · refine ⟨nI n, c_now_quorum, c_now_favour, upd c_errors 1 (c_errors 1 + 1), (-1000000000) - 1, m_d, upd c_errors 1 (c_errors 1 + 1), ?_, ?_, ?_⟩
      · simp only [f_X6_motion, e6_set, jnA, bd1, Option.bind_some]
        rw [rngA 100 (by decide), if_pos hp, if_neg hb, if_pos rfl, ef1]
        rfl
      · simp only [f_X7_motion]
        rw [e7_inb 100 (by decide), if_pos hp]
        simp only [bd1, Option.bind_some, jnA]
        rw [if_neg (by decide), e7_inb 256 (by decide), if_neg hb, eg1]
        rfl
      · exact ⟨⟨hPp, hMo0, hSc, hTa, hWa, hUs, hCh, hCo⟩, hIm, hKe, hKu, rfl, hTr, hTn, hTg, hSh⟩
  · refine ⟨nI n, c_now_quorum, c_now_favour, upd c_errors 1 (c_errors 1 + 1), (-1000000000) - 1, m_d, upd c_errors 1 (c_errors 1 + 1), ?_, ?_, ?_⟩
    · simp only [f_X6_motion, jnA]
      rw [rngA 100 (by decide), if_neg hp, ef1]
      rfl
    · simp only [f_X7_motion]
      rw [e7_inb 100 (by decide), if_neg hp]
      simp only [bd1, Option.bind_some, jnA]
      rw [eg1]
      rfl
    · exact ⟨⟨hPp, hMo0, hSc, hTa, hWa, hUs, hCh, hCo⟩, hIm, hKe, hKu, rfl, hTr, hTn, hTg, hSh⟩
set_option maxHeartbeats 1000000 in
set_option maxRecDepth 10000 in
theorem st_set {c_now_folk_size : Int32} {c_now_folk_kind : Nat → Int32} {c_now_folk_mark : Nat → Int32} {c_now_folk_horn : Nat → Int32} {c_now_folk_brass : Nat → Int32} {c_now_folk_open : Nat → Int32} {c_now_folk_health : Nat → Int32} {c_now_motions : Int32} {c_now_quorum : Nat → Int32} {c_now_favour : Nat → Int32} {c_now_laws : Int32} {c_now_urnHorn : Int32} {c_now_urnBrass : Int32} {c_now_thread : Int32} {c_now_winter : Int32} {c_now_day : Int32} {c_now_chill_use : Int32} {c_now_chill_codes : Nat → Int32} {c_now_chill_size : Int32} {c_now_cold_use : Int32} {c_now_cold_codes : Nat → Int32} {c_now_cold_size : Int32} {c_now_tape : Nat → Int32} {c_now_taped : Int32} {c_now_z : Int32} {c_now_waiting : Nat → Int32} {c_now_waits : Int32} {c_kept_folk_size : Int32} {c_kept_folk_kind : Nat → Int32} {c_kept_folk_mark : Nat → Int32} {c_kept_folk_horn : Nat → Int32} {c_kept_folk_brass : Nat → Int32} {c_kept_folk_open : Nat → Int32} {c_kept_folk_health : Nat → Int32} {c_kept_motions : Int32} {c_kept_quorum : Nat → Int32} {c_kept_favour : Nat → Int32} {c_kept_laws : Int32} {c_kept_urnHorn : Int32} {c_kept_urnBrass : Int32} {c_kept_thread : Int32} {c_kept_winter : Int32} {c_kept_day : Int32} {c_kept_chill_use : Int32} {c_kept_chill_codes : Nat → Int32} {c_kept_chill_size : Int32} {c_kept_cold_use : Int32} {c_kept_cold_codes : Nat → Int32} {c_kept_cold_size : Int32} {c_kept_tape : Nat → Int32} {c_kept_taped : Int32} {c_kept_z : Int32} {c_kept_waiting : Nat → Int32} {c_kept_waits : Int32} {c_voices_traces : Nat → Int32} {c_voices_traced : Int32} {c_sh_bits : Nat → Int32} {c_sh_size : Nat → Int32} {c_sh_numbers : Nat → Nat → Int32} {c_errors : Nat → Int32} {c_images : Int32} {m_d : Nat → Int32} {m_kept : Nat → Int32} {m_images : Int32} {m_found : Nat → Int32} {m_traced : Nat → Int32} {m_traceMany : Int32} {m_bitsOf : Nat → Int32} {m_sizeOf : Nat → Int32} {m_number : Nat → Int32} (R : Rel c_now_folk_size c_now_folk_kind c_now_folk_mark c_now_folk_horn c_now_folk_brass c_now_folk_open c_now_folk_health c_now_motions c_now_quorum c_now_favour c_now_laws c_now_urnHorn c_now_urnBrass c_now_thread c_now_winter c_now_day c_now_chill_use c_now_chill_codes c_now_chill_size c_now_cold_use c_now_cold_codes c_now_cold_size c_now_tape c_now_taped c_now_z c_now_waiting c_now_waits c_kept_folk_size c_kept_folk_kind c_kept_folk_mark c_kept_folk_horn c_kept_folk_brass c_kept_folk_open c_kept_folk_health c_kept_motions c_kept_quorum c_kept_favour c_kept_laws c_kept_urnHorn c_kept_urnBrass c_kept_thread c_kept_winter c_kept_day c_kept_chill_use c_kept_chill_codes c_kept_chill_size c_kept_cold_use c_kept_cold_codes c_kept_cold_size c_kept_tape c_kept_taped c_kept_z c_kept_waiting c_kept_waits c_voices_traces c_voices_traced c_sh_bits c_sh_size c_sh_numbers c_errors c_images m_d m_kept m_images m_found m_traced m_traceMany m_bitsOf m_sizeOf m_number) (p0 : Int32) (p1 : Int32) : ∃ (x_now_thread : Int32) (x_now_winter : Int32) (x_errors : Nat → Int32) (r : Int32) (y_d : Nat → Int32) (y_found : Nat → Int32), f_X6_set c_now_thread c_now_winter c_errors p0 p1 = some (x_now_thread, x_now_winter, x_errors, r) ∧ f_X7_set m_d m_found p0 p1 = some (y_d, y_found, r) ∧ Rel c_now_folk_size c_now_folk_kind c_now_folk_mark c_now_folk_horn c_now_folk_brass c_now_folk_open c_now_folk_health c_now_motions c_now_quorum c_now_favour c_now_laws c_now_urnHorn c_now_urnBrass x_now_thread x_now_winter c_now_day c_now_chill_use c_now_chill_codes c_now_chill_size c_now_cold_use c_now_cold_codes c_now_cold_size c_now_tape c_now_taped c_now_z c_now_waiting c_now_waits c_kept_folk_size c_kept_folk_kind c_kept_folk_mark c_kept_folk_horn c_kept_folk_brass c_kept_folk_open c_kept_folk_health c_kept_motions c_kept_quorum c_kept_favour c_kept_laws c_kept_urnHorn c_kept_urnBrass c_kept_thread c_kept_winter c_kept_day c_kept_chill_use c_kept_chill_codes c_kept_chill_size c_kept_cold_use c_kept_cold_codes c_kept_cold_size c_kept_tape c_kept_taped c_kept_z c_kept_waiting c_kept_waits c_voices_traces c_voices_traced c_sh_bits c_sh_size c_sh_numbers x_errors c_images y_d m_kept m_images y_found m_traced m_traceMany m_bitsOf m_sizeOf m_number := by
  obtain ⟨⟨hPp, hMo, hSc, hTa, hWa, hUs, hCh, hCo⟩, hIm, hKe, hKu, hEr, hTr, hTn, hTg, hSh⟩ := R
  subst hEr
  have hSc0 := hSc
  obtain ⟨s1, s2, s3, s4, s5, s6⟩ := hSc
  by_cases hp : inb p0 2 = true
  · obtain ⟨p, hpn, rfl⟩ := inb_of hp (by decide)
    rcases (show p = 0 ∨ p = 1 by omega) with rfl | rfl
    · by_cases hb : inb p1 10 = true
      · obtain ⟨v, hv, rfl⟩ := inb_of hb (by decide)
        refine ⟨c_now_thread, nI v, c_errors, c_now_winter, upd m_d 5 (nI v), c_errors, ?_, ?_, ?_⟩
        · simp only [f_X6_set, jnA]
          rw [if_pos (show nI 0 = (0 : Int32) from rfl), rngA 2 (by decide), if_pos hp, rngC 10 (by decide), if_pos hb, if_pos (show nI 0 = (0 : Int32) from rfl), if_pos (show nI 0 = (0 : Int32) from rfl)]
        · simp only [f_X7_set]
          rw [e7_inb 2 (by decide), if_pos hp]
          simp only [bd1, Option.bind_some, jnA]
          rw [if_neg (by decide), if_pos (show nI 0 = (0 : Int32) from rfl), e7_inb 10 (by decide), if_pos hb, Option.bind_some, if_neg (by decide), if_pos (show nI 0 = (0 : Int32) from rfl), rdA_i (i := 5) (k := 5) rfl (by decide), wrA_i (i := 5) (k := 5) rfl (by decide), s4.1]
        · have F : ∀ i, i ≠ 5 → upd m_d 5 (nI v) i = m_d i := fun i h => upd_n h
          exact ⟨⟨hPp.frame (fun i hi => F i (by omega)), hMo.frame (fun i hi => F i (by omega)), ⟨by rw [F _ (by decide)]; exact s1, by rw [F _ (by decide)]; exact s2, by rw [F _ (by decide)]; exact s3, ⟨upd_s, ⟨v, by omega, rfl⟩⟩, by rw [F _ (by decide)]; exact s5, by rw [F _ (by decide)]; exact s6⟩, hTa.frame (fun i hi => F i (by omega)), hWa.frame (fun i hi => F i (by omega)), hUs, hCh.frame (F _ (by omega)) (fun k hk => F _ (by omega)), hCo.frame (F _ (by omega)) (fun k hk => F _ (by omega))⟩, hIm, hKe, hKu, rfl, hTr, hTn, hTg, hSh⟩
      · refine ⟨c_now_thread, c_now_winter, upd c_errors 1 (c_errors 1 + 1), (-1000000000) - 1, m_d, upd c_errors 1 (c_errors 1 + 1), ?_, ?_, ⟨⟨hPp, hMo, hSc0, hTa, hWa, hUs, hCh, hCo⟩, hIm, hKe, hKu, rfl, hTr, hTn, hTg, hSh⟩⟩
        · simp only [f_X6_set, jnA]
          rw [if_pos (show nI 0 = (0 : Int32) from rfl), rngA 2 (by decide), if_pos hp, rngC 10 (by decide), if_neg hb, ef1]
          rfl
        · simp only [f_X7_set]
          rw [e7_inb 2 (by decide), if_pos hp]
          simp only [bd1, Option.bind_some, jnA]
          rw [if_neg (by decide), if_pos (show nI 0 = (0 : Int32) from rfl), e7_inb 10 (by decide), if_neg hb, eg1]
          rfl
    · by_cases hb : inb p1 100 = true
      · obtain ⟨v, hv, rfl⟩ := inb_of hb (by decide)
        refine ⟨nI v, c_now_winter, c_errors, c_now_thread, upd m_d 4 (nI v), c_errors, ?_, ?_, ?_⟩
        · simp only [f_X6_set, jnA]
          rw [if_neg (show ¬ nI 1 = (0 : Int32) by decide), rngA 2 (by decide), if_pos hp, rngC 100 (by decide), if_pos hb, if_neg (by decide), if_neg (by decide)]
        · simp only [f_X7_set]
          rw [e7_inb 2 (by decide), if_pos hp]
          simp only [bd1, Option.bind_some, jnA]
          rw [if_neg (by decide), if_neg (by decide), e7_inb 100 (by decide), if_pos hb, Option.bind_some, if_neg (by decide), if_neg (by decide), rdA_i (i := 4) (k := 4) rfl (by decide), wrA_i (i := 4) (k := 4) rfl (by decide), s3.1]
        · have F : ∀ i, i ≠ 4 → upd m_d 4 (nI v) i = m_d i := fun i h => upd_n h
          exact ⟨⟨hPp.frame (fun i hi => F i (by omega)), hMo.frame (fun i hi => F i (by omega)), ⟨by rw [F _ (by decide)]; exact s1, by rw [F _ (by decide)]; exact s2, ⟨upd_s, ⟨v, by omega, rfl⟩⟩, by rw [F _ (by decide)]; exact s4, by rw [F _ (by decide)]; exact s5, by rw [F _ (by decide)]; exact s6⟩, hTa.frame (fun i hi => F i (by omega)), hWa.frame (fun i hi => F i (by omega)), hUs, hCh.frame (F _ (by omega)) (fun k hk => F _ (by omega)), hCo.frame (F _ (by omega)) (fun k hk => F _ (by omega))⟩, hIm, hKe, hKu, rfl, hTr, hTn, hTg, hSh⟩
      · refine ⟨c_now_thread, c_now_winter, upd c_errors 1 (c_errors 1 + 1), (-1000000000) - 1, m_d, upd c_errors 1 (c_errors 1 + 1), ?_, ?_, ⟨⟨hPp, hMo, hSc0, hTa, hWa, hUs, hCh, hCo⟩, hIm, hKe, hKu, rfl, hTr, hTn, hTg, hSh⟩⟩
        · simp only [f_X6_set, jnA]
          rw [if_neg (show ¬ nI 1 = (0 : Int32) by decide), rngA 2 (by decide), if_pos hp, rngC 100 (by decide), if_neg hb, ef1]
          rfl
        · simp only [f_X7_set]
          rw [e7_inb 2 (by decide), if_pos hp]
          simp only [bd1, Option.bind_some, jnA]
          rw [if_neg (by decide), if_neg (by decide), e7_inb 100 (by decide), if_neg hb, eg1]
          rfl
  · refine ⟨c_now_thread, c_now_winter, upd c_errors 1 (c_errors 1 + 1), (-1000000000) - 1, m_d, upd c_errors 1 (c_errors 1 + 1), ?_, ?_, ⟨⟨hPp, hMo, hSc0, hTa, hWa, hUs, hCh, hCo⟩, hIm, hKe, hKu, rfl, hTr, hTn, hTg, hSh⟩⟩
    · simp only [f_X6_set, jnA]
      by_cases h0 : p0 = 0
      · subst h0; exact absurd (by decide) hp
      · rw [if_neg h0, rngA 2 (by decide), if_neg hp, ef1]
        rfl
    · simp only [f_X7_set]
      rw [e7_inb 2 (by decide), if_neg hp]
      simp only [bd1, Option.bind_some, jnA]
      rw [eg1]
      rfl
