set_option maxHeartbeats 1000000 in
set_option maxRecDepth 10000 in
theorem st_person {c_now_folk_size : Int32} {c_now_folk_kind : Nat → Int32} {c_now_folk_mark : Nat → Int32} {c_now_folk_horn : Nat → Int32} {c_now_folk_brass : Nat → Int32} {c_now_folk_open : Nat → Int32} {c_now_folk_health : Nat → Int32} {c_now_motions : Int32} {c_now_quorum : Nat → Int32} {c_now_favour : Nat → Int32} {c_now_laws : Int32} {c_now_urnHorn : Int32} {c_now_urnBrass : Int32} {c_now_thread : Int32} {c_now_winter : Int32} {c_now_day : Int32} {c_now_chill_use : Int32} {c_now_chill_codes : Nat → Int32} {c_now_chill_size : Int32} {c_now_cold_use : Int32} {c_now_cold_codes : Nat → Int32} {c_now_cold_size : Int32} {c_now_tape : Nat → Int32} {c_now_taped : Int32} {c_now_z : Int32} {c_now_waiting : Nat → Int32} {c_now_waits : Int32} {c_kept_folk_size : Int32} {c_kept_folk_kind : Nat → Int32} {c_kept_folk_mark : Nat → Int32} {c_kept_folk_horn : Nat → Int32} {c_kept_folk_brass : Nat → Int32} {c_kept_folk_open : Nat → Int32} {c_kept_folk_health : Nat → Int32} {c_kept_motions : Int32} {c_kept_quorum : Nat → Int32} {c_kept_favour : Nat → Int32} {c_kept_laws : Int32} {c_kept_urnHorn : Int32} {c_kept_urnBrass : Int32} {c_kept_thread : Int32} {c_kept_winter : Int32} {c_kept_day : Int32} {c_kept_chill_use : Int32} {c_kept_chill_codes : Nat → Int32} {c_kept_chill_size : Int32} {c_kept_cold_use : Int32} {c_kept_cold_codes : Nat → Int32} {c_kept_cold_size : Int32} {c_kept_tape : Nat → Int32} {c_kept_taped : Int32} {c_kept_z : Int32} {c_kept_waiting : Nat → Int32} {c_kept_waits : Int32} {c_voices_traces : Nat → Int32} {c_voices_traced : Int32} {c_sh_bits : Nat → Int32} {c_sh_size : Nat → Int32} {c_sh_numbers : Nat → Nat → Int32} {c_errors : Nat → Int32} {c_images : Int32} {m_d : Nat → Int32} {m_kept : Nat → Int32} {m_images : Int32} {m_found : Nat → Int32} {m_traced : Nat → Int32} {m_traceMany : Int32} {m_bitsOf : Nat → Int32} {m_sizeOf : Nat → Int32} {m_number : Nat → Int32} (R : Rel c_now_folk_size c_now_folk_kind c_now_folk_mark c_now_folk_horn c_now_folk_brass c_now_folk_open c_now_folk_health c_now_motions c_now_quorum c_now_favour c_now_laws c_now_urnHorn c_now_urnBrass c_now_thread c_now_winter c_now_day c_now_chill_use c_now_chill_codes c_now_chill_size c_now_cold_use c_now_cold_codes c_now_cold_size c_now_tape c_now_taped c_now_z c_now_waiting c_now_waits c_kept_folk_size c_kept_folk_kind c_kept_folk_mark c_kept_folk_horn c_kept_folk_brass c_kept_folk_open c_kept_folk_health c_kept_motions c_kept_quorum c_kept_favour c_kept_laws c_kept_urnHorn c_kept_urnBrass c_kept_thread c_kept_winter c_kept_day c_kept_chill_use c_kept_chill_codes c_kept_chill_size c_kept_cold_use c_kept_cold_codes c_kept_cold_size c_kept_tape c_kept_taped c_kept_z c_kept_waiting c_kept_waits c_voices_traces c_voices_traced c_sh_bits c_sh_size c_sh_numbers c_errors c_images m_d m_kept m_images m_found m_traced m_traceMany m_bitsOf m_sizeOf m_number) (p0 : Int32) : ∃ (x_now_folk_size : Int32) (x_now_folk_kind : Nat → Int32) (x_now_folk_mark : Nat → Int32) (x_now_folk_horn : Nat → Int32) (x_now_folk_brass : Nat → Int32) (x_now_folk_open : Nat → Int32) (x_now_folk_health : Nat → Int32) (x_errors : Nat → Int32) (r : Int32) (y_d : Nat → Int32) (y_found : Nat → Int32), f_X6_person c_now_folk_size c_now_folk_kind c_now_folk_mark c_now_folk_horn c_now_folk_brass c_now_folk_open c_now_folk_health c_errors p0 = some (x_now_folk_size, x_now_folk_kind, x_now_folk_mark, x_now_folk_horn, x_now_folk_brass, x_now_folk_open, x_now_folk_health, x_errors, r) ∧ f_X7_person m_d m_found p0 = some (y_d, y_found, r) ∧ Rel x_now_folk_size x_now_folk_kind x_now_folk_mark x_now_folk_horn x_now_folk_brass x_now_folk_open x_now_folk_health c_now_motions c_now_quorum c_now_favour c_now_laws c_now_urnHorn c_now_urnBrass c_now_thread c_now_winter c_now_day c_now_chill_use c_now_chill_codes c_now_chill_size c_now_cold_use c_now_cold_codes c_now_cold_size c_now_tape c_now_taped c_now_z c_now_waiting c_now_waits c_kept_folk_size c_kept_folk_kind c_kept_folk_mark c_kept_folk_horn c_kept_folk_brass c_kept_folk_open c_kept_folk_health c_kept_motions c_kept_quorum c_kept_favour c_kept_laws c_kept_urnHorn c_kept_urnBrass c_kept_thread c_kept_winter c_kept_day c_kept_chill_use c_kept_chill_codes c_kept_chill_size c_kept_cold_use c_kept_cold_codes c_kept_cold_size c_kept_tape c_kept_taped c_kept_z c_kept_waiting c_kept_waits c_voices_traces c_voices_traced c_sh_bits c_sh_size c_sh_numbers x_errors c_images y_d m_kept m_images y_found m_traced m_traceMany m_bitsOf m_sizeOf m_number := by
  obtain ⟨⟨hPp, hMo, hSc, hTa, hWa, hUs, hCh, hCo⟩, hIm, hKe, hKu, hEr, hTr, hTn, hTg, hSh⟩ := R
  subst hEr
  have hPp0 := hPp
  obtain ⟨⟨n, hn, rfl⟩, p2, p3⟩ := hPp
  by_cases hb : inb p0 70 = true
  · obtain ⟨km, hkm, rfl⟩ := inb_of hb (by decide)
    by_cases h8 : n = 8
    · subst h8
      refine ⟨nI 8, c_now_folk_kind, c_now_folk_mark, c_now_folk_horn, c_now_folk_brass, c_now_folk_open, c_now_folk_health, upd c_errors 4 (c_errors 4 + 1), (-1000000000) - 4, m_d, upd c_errors 4 (c_errors 4 + 1), ?_, ?_, ?_⟩
      · simp only [f_X6_person, e6_km, bd1, Option.bind_some]
        rw [if_pos hb, if_neg (by decide), if_neg (by decide), ef4]
        rfl
      · simp only [f_X7_person]
        rw [e7_inb 70 (by decide), if_pos hb]
        simp only [bd1, Option.bind_some]
        rw [if_neg (by decide), rdA_i (i := 0) (k := 0) rfl (by decide), p2, if_pos (show nI 8 = (8 : Int32) from rfl), eg4]
        rfl
      · exact ⟨⟨hPp0, hMo, hSc, hTa, hWa, hUs, hCh, hCo⟩, hIm, hKe, hKu, rfl, hTr, hTn, hTg, hSh⟩
    · have hlt : nI n < 8 := by rw [Int32.lt_iff_toInt_lt, nI_toInt (by omega)]; show (n : Int) < 8; omega
      have hne : ¬ nI n = 8 := fun q => h8 ((nI_eq (a := n) (b := 8) (by omega) (by decide)).mp q)
      have hdiv : nI km / 10 = nI (km / 10) := pk_div (d := 10) (by omega) (by decide) (by decide)
      have hrem : rmI (nI km) 10 = nI (km % 10) := pk_rem (d := 10) (by omega) (by decide) (by decide)
      refine ⟨nI (n + 1), upd c_now_folk_kind n (nI (km / 10)), upd c_now_folk_mark n (nI (km % 10)), upd c_now_folk_horn n 4, upd c_now_folk_brass n 1, upd c_now_folk_open n 0, upd c_now_folk_health n 99, c_errors, nI n, upd (upd (upd (upd (upd (upd (upd m_d 0 (nI (n + 1))) (10 + 0 + 6 * n) (nI (km / 10))) (10 + 1 + 6 * n) (nI (km % 10))) (10 + 2 + 6 * n) 4) (10 + 3 + 6 * n) 1) (10 + 4 + 6 * n) 0) (10 + 5 + 6 * n) 99, c_errors, ?_, ?_, ?_⟩
      · simp only [f_X6_person, e6_km, bd1, Option.bind_some, nmA]
        rw [if_pos hb, if_neg (by decide), if_pos hlt, nzA_k (by decide), wrA_i rfl (by omega), nzA_k (by decide), wrA_i rfl (by omega), wrA_i rfl (by omega), wrA_i rfl (by omega), wrA_i rfl (by omega), wrA_i rfl (by omega), hdiv, hrem, nI_1]
      · simp only [f_X7_person]
        rw [e7_inb 70 (by decide), if_pos hb]
        simp only [bd1, Option.bind_some]
        rw [if_neg (by decide), rdA_i (i := 0) (k := 0) rfl (by decide), p2, if_neg hne, rdA_i (i := 0) (k := 0) rfl (by decide), rdA_i (i := 0) (k := 0) rfl (by decide), p2, nI_1, wrA_i (i := 0) (k := 0) rfl (by decide), nzA_k (by decide), hdiv, hrem, e7_sets 0 rfl (by omega) (by decide), Option.bind_some, nzA_k (by decide), e7_sets 1 rfl (by omega) (by decide), Option.bind_some, e7_sets 2 rfl (by omega) (by decide), Option.bind_some, e7_sets 3 rfl (by omega) (by decide), Option.bind_some, e7_sets 4 rfl (by omega) (by decide), Option.bind_some, e7_sets 5 rfl (by omega) (by decide), Option.bind_some]
      · have F : ∀ i, i ≠ 0 → ¬ (10 + 6 * n ≤ i ∧ i < 16 + 6 * n) → (upd (upd (upd (upd (upd (upd (upd m_d 0 (nI (n + 1))) (10 + 0 + 6 * n) (nI (km / 10))) (10 + 1 + 6 * n) (nI (km % 10))) (10 + 2 + 6 * n) 4) (10 + 3 + 6 * n) 1) (10 + 4 + 6 * n) 0) (10 + 5 + 6 * n) 99) i = m_d i := fun i h1 h2 => by
          rw [upd_n (by omega), upd_n (by omega), upd_n (by omega), upd_n (by omega), upd_n (by omega), upd_n (by omega), upd_n h1]
        refine ⟨⟨⟨⟨n + 1, by omega, rfl⟩, ?_, fun p hp => ?_⟩, hMo.frame (fun i hi => F i (by omega) (by omega)), hSc.frame (fun i hi => F i (by omega) (by omega)), hTa.frame (fun i hi => F i (by omega) (by omega)), hWa.frame (fun i hi => F i (by omega) (by omega)), hUs, hCh.frame (F _ (by omega) (by omega)) (fun k hk => F _ (by omega) (by omega)), hCo.frame (F _ (by omega) (by omega)) (fun k hk => F _ (by omega) (by omega))⟩, hIm, hKe, hKu, rfl, hTr, hTn, hTg, hSh⟩
        · rw [upd_n (by omega), upd_n (by omega), upd_n (by omega), upd_n (by omega), upd_n (by omega), upd_n (by omega), upd_s]
        · by_cases hp2 : p = n
          · subst hp2
            refine ⟨⟨?_, ?_, ?_, ?_, ?_, ?_⟩, ?_, ?_, ?_, ?_, ?_, ?_⟩
            · rw [upd_s]; exact ⟨km / 10, by omega, rfl⟩
            · rw [upd_s]; exact ⟨km % 10, by omega, rfl⟩
            · rw [upd_s]; exact ⟨4, by decide, rfl⟩
            · rw [upd_s]; exact ⟨1, by decide, rfl⟩
            · rw [upd_s]; exact ⟨0, by decide, rfl⟩
            · rw [upd_s]; exact ⟨99, by decide, rfl⟩
            · rw [upd_n (by omega), upd_n (by omega), upd_n (by omega), upd_n (by omega), upd_n (by omega), upd_s, upd_s]
            · rw [upd_n (by omega), upd_n (by omega), upd_n (by omega), upd_n (by omega), upd_s, upd_s]
            · rw [upd_n (by omega), upd_n (by omega), upd_n (by omega), upd_s, upd_s]
            · rw [upd_n (by omega), upd_n (by omega), upd_s, upd_s]
            · rw [upd_n (by omega), upd_s, upd_s]
            · rw [upd_s, upd_s]
          · obtain ⟨a, b1, b2, b3, b4, b5, b6⟩ := p3 p hp
            rw [F _ (by omega) (by omega), F _ (by omega) (by omega), F _ (by omega) (by omega), F _ (by omega) (by omega), F _ (by omega) (by omega), F _ (by omega) (by omega), upd_n hp2, upd_n hp2, upd_n hp2, upd_n hp2, upd_n hp2, upd_n hp2]
            exact ⟨a, b1, b2, b3, b4, b5, b6⟩
  · refine ⟨nI n, c_now_folk_kind, c_now_folk_mark, c_now_folk_horn, c_now_folk_brass, c_now_folk_open, c_now_folk_health, upd c_errors 1 (c_errors 1 + 1), (-1000000000) - 1, m_d, upd c_errors 1 (c_errors 1 + 1), ?_, ?_, ?_⟩
    · simp only [f_X6_person, e6_km, bd1, Option.bind_some]
      rw [if_neg hb, if_pos rfl, ef1]
      rfl
    · simp only [f_X7_person]
      rw [e7_inb 70 (by decide), if_neg hb]
      simp only [bd1, Option.bind_some]
      rw [if_pos rfl, eg1]
      rfl
    · exact ⟨⟨hPp0, hMo, hSc, hTa, hWa, hUs, hCh, hCo⟩, hIm, hKe, hKu, rfl, hTr, hTn, hTg, hSh⟩
