set_option maxHeartbeats 1000000 in
set_option maxRecDepth 10000 in
theorem st_person {c_now_folk_size : Int32} {c_now_folk_kind : Nat → Int32} {c_now_folk_mark : Nat → Int32} {c_now_folk_horn : Nat → Int32} {c_now_folk_brass : Nat → Int32} {c_now_folk_open : Nat → Int32} {c_now_folk_health : Nat → Int32} {c_now_motions : Int32} {c_now_quorum : Nat → Int32} {c_now_favour : Nat → Int32} {c_now_laws : Int32} {c_now_urnHorn : Int32} {c_now_urnBrass : Int32} {c_now_thread : Int32} {c_now_winter : Int32} {c_now_day : Int32} {c_now_chill_use : Int32} {c_now_chill_codes : Nat → Int32} {c_now_chill_size : Int32} {c_now_cold_use : Int32} {c_now_cold_codes : Nat → Int32} {c_now_cold_size : Int32} {c_now_tape : Nat → Int32} {c_now_taped : Int32} {c_now_z : Int32} {c_now_waiting : Nat → Int32} {c_now_waits : Int32} {c_kept_folk_size : Int32} {c_kept_folk_kind : Nat → Int32} {c_kept_folk_mark : Nat → Int32} {c_kept_folk_horn : Nat → Int32} {c_kept_folk_brass : Nat → Int32} {c_kept_folk_open : Nat → Int32} {c_kept_folk_health : Nat → Int32} {c_kept_motions : Int32} {c_kept_quorum : Nat → Int32} {c_kept_favour : Nat → Int32} {c_kept_laws : Int32} {c_kept_urnHorn : Int32} {c_kept_urnBrass : Int32} {c_kept_thread : Int32} {c_kept_winter : Int32} {c_kept_day : Int32} {c_kept_chill_use : Int32} {c_kept_chill_codes : Nat → Int32} {c_kept_chill_size : Int32} {c_kept_cold_use : Int32} {c_kept_cold_codes : Nat → Int32} {c_kept_cold_size : Int32} {c_kept_tape : Nat → Int32} {c_kept_taped : Int32} {c_kept_z : Int32} {c_kept_waiting : Nat → Int32} {c_kept_waits : Int32} {c_voices_traces : Nat → Int32} {c_voices_traced : Int32} {c_sh_bits : Nat → Int32} {c_sh_size : Nat → Int32} {c_sh_numbers : Nat → Nat → Int32} {c_errors : Nat → Int32} {c_images : Int32} {m_d : Nat → Int32} {m_kept : Nat → Int32} {m_images : Int32} {m_found : Nat → Int32} {m_traced : Nat → Int32} {m_traceMany : Int32} {m_bitsOf : Nat → Int32} {m_sizeOf : Nat → Int32} {m_number : Nat → Int32} (R : Rel c_now_folk_size c_now_folk_kind c_now_folk_mark c_now_folk_horn c_now_folk_brass c_now_folk_open c_now_folk_health c_now_motions c_now_quorum c_now_favour c_now_laws c_now_urnHorn c_now_urnBrass c_now_thread c_now_winter c_now_day c_now_chill_use c_now_chill_codes c_now_chill_size c_now_cold_use c_now_cold_codes c_now_cold_size c_now_tape c_now_taped c_now_z c_now_waiting c_now_waits c_kept_folk_size c_kept_folk_kind c_kept_folk_mark c_kept_folk_horn c_kept_folk_brass c_kept_folk_open c_kept_folk_health c_kept_motions c_kept_quorum c_kept_favour c_kept_laws c_kept_urnHorn c_kept_urnBrass c_kept_thread c_kept_winter c_kept_day c_kept_chill_use c_kept_chill_codes c_kept_chill_size c_kept_cold_use c_kept_cold_codes c_kept_cold_size c_kept_tape c_kept_taped c_kept_z c_kept_waiting c_kept_waits c_voices_traces c_voices_traced c_sh_bits c_sh_size c_sh_numbers c_errors c_images m_d m_kept m_images m_found m_traced m_traceMany m_bitsOf m_sizeOf m_number) (p0 : Int32) : ∃ (x_now_folk_size : Int32) (x_now_folk_kind : Nat → Int32) (x_now_folk_mark : Nat → Int32) (x_now_folk_horn : Nat → Int32) (x_now_folk_brass : Nat → Int32) (x_now_folk_open : Nat → Int32) (x_now_folk_health : Nat → Int32) (x_errors : Nat → Int32) (r : Int32) (y_d : Nat → Int32) (y_found : Nat → Int32), f_X6_person c_now_folk_size c_now_folk_kind c_now_folk_mark c_now_folk_horn c_now_folk_brass c_now_folk_open c_now_folk_health c_errors p0 = some (x_now_folk_size, x_now_folk_kind, x_now_folk_mark, x_now_folk_horn, x_now_folk_brass, x_now_folk_open, x_now_folk_health, x_errors, r) ∧ f_X7_person m_d m_found p0 = some (y_d, y_found, r) ∧ Rel x_now_folk_size x_now_folk_kind x_now_folk_mark x_now_folk_horn x_now_folk_brass x_now_folk_open x_now_folk_health c_now_motions c_now_quorum c_now_favour c_now_laws c_now_urnHorn c_now_urnBrass c_now_thread c_now_winter c_now_day c_now_chill_use c_now_chill_codes c_now_chill_size c_now_cold_use c_now_cold_codes c_now_cold_size c_now_tape c_now_taped c_now_z c_now_waiting c_now_waits c_kept_folk_size c_kept_folk_kind c_kept_folk_mark c_kept_folk_horn c_kept_folk_brass c_kept_folk_open c_kept_folk_health c_kept_motions c_kept_quorum c_kept_favour c_kept_laws c_kept_urnHorn c_kept_urnBrass c_kept_thread c_kept_winter c_kept_day c_kept_chill_use c_kept_chill_codes c_kept_chill_size c_kept_cold_use c_kept_cold_codes c_kept_cold_size c_kept_tape c_kept_taped c_kept_z c_kept_waiting c_kept_waits c_voices_traces c_voices_traced c_sh_bits c_sh_size c_sh_numbers x_errors c_images y_d m_kept m_images y_found m_traced m_traceMany m_bitsOf m_sizeOf m_number := by
  obtain ⟨⟨hPp, hMo, hSc, hTa, hWa, hUs, hCh, hCo⟩, hIm, hKe, hKu, hEr, hTr, hTn, hTg, hSh⟩ := R
  subst hEr
  have hPp0 := hPp
  obtain ⟨⟨n, hn, rfl⟩, p2, p3⟩ := hPp
  by_cases hb : inb p0 70 = true
  · obtain ⟨km, hkm, rfl⟩ := inb_of hb (by decide)
    by_cases h8 : n = 8
    · subst h8
      refine ⟨nI 8, c_now_folk_kind, c_now_folk_mark, c_now_folk_horn, c_now_folk_brass, c_now_folk_open, c_now_folk_health, upd c_errors 4 (c_errors 4 + 1), (-1000000000) - 4, m_d, upd c_errors 4 (c_errors 4 + 1), ?_, ?_, ?_⟩
      · simp only [f_X6_person, e6_km, bd1, Option.bind_some]
        rw [if_pos hb, if_neg (by decide), if_neg (by decide), ef4]
        rfl
      · simp only [f_X7_person]
        rw [e7_inb 70 (by decide), if_pos hb]
        simp only [bd1, Option.bind_some]
        rw [if_neg (by decide), rdA_i (i := 0) (k := 0) rfl (by decide), p2, if_pos (show nI 8 = (8 : Int32) from rfl), eg4]
        rfl
      · exact ⟨⟨hPp0, hMo, hSc, hTa, hWa, hUs, hCh, hCo⟩, hIm, hKe, hKu, rfl, hTr, hTn, hTg, hSh⟩
    · have hlt : nI n < 8 := by rw [Int32.lt_iff_toInt_lt, nI_toInt (by omega)]; show (n : Int) < 8; omega
      have hne : ¬ nI n = 8 := fun q => h8 ((nI_eq (a := n) (b := 8) (by omega) (by decide)).mp q)
      have hdiv : nI km / 10 = nI (km / 10) := pk_div (d := 10) (by omega) (by decide) (by decide)
      have hrem : rmI (nI km) 10 = nI (km % 10) := pk_rem (d := 10) (by omega) (by decide) (by decide)
      refine ⟨nI (n + 1), upd c_now_folk_kind n (nI (km / 10)), upd c_now_folk_mark n (nI (km % 10)), upd c_now_folk_horn n 4, upd c_now_folk_brass n 1, upd c_now_folk_open n 0, upd c_now_folk_health n 99, c_errors, nI n, upd (upd (upd (upd (upd (upd (upd m_d 0 (nI (n + 1))) (10 + 6 * n) (nI (km / 10))) (11 + 6 * n) (nI (km % 10))) (12 + 6 * n) 4) (13 + 6 * n) 1) (14 + 6 * n) 0) (15 + 6 * n) 99, c_errors, ?_, ?_, ?_⟩
      · simp only [f_X6_person, e6_km, bd1, Option.bind_some, nmA]
        rw [if_pos hb, if_neg (by decide), if_pos hlt, nzA_k (by decide), wrA_i rfl (by omega), nzA_k (by decide), wrA_i rfl (by omega), wrA_i rfl (by omega), wrA_i rfl (by omega), wrA_i rfl (by omega), wrA_i rfl (by omega), hdiv, hrem, nI_1]
      · simp only [f_X7_person]
        rw [e7_inb 70 (by decide), if_pos hb]
        simp only [bd1, Option.bind_some]
        rw [if_neg (by decide), rdA_i (i := 0) (k := 0) rfl (by decide), p2, if_neg hne, rdA_i (i := 0) (k := 0) rfl (by decide), rdA_i (i := 0) (k := 0) rfl (by decide), p2, nI_1, wrA_i (i := 0) (k := 0) rfl (by decide), nzA_k (by decide), hdiv, hrem, es0 (by omega), Option.bind_some, nzA_k (by decide), es1 (by omega), Option.bind_some, es2 (by omega), Option.bind_some, es3 (by omega), Option.bind_some, es4 (by omega), Option.bind_some, es5 (by omega), Option.bind_some]
      · have F : ∀ i, i ≠ 0 → ¬ (10 + 6 * n ≤ i ∧ i < 16 + 6 * n) → (upd (upd (upd (upd (upd (upd (upd m_d 0 (nI (n + 1))) (10 + 6 * n) (nI (km / 10))) (11 + 6 * n) (nI (km % 10))) (12 + 6 * n) 4) (13 + 6 * n) 1) (14 + 6 * n) 0) (15 + 6 * n) 99) i = m_d i := fun i h1 h2 => by
          rw [upd_n (by omega), upd_n (by omega), upd_n (by omega), upd_n (by omega), upd_n (by omega), upd_n (by omega), upd_n h1]
        refine ⟨⟨⟨⟨n + 1, by omega, rfl⟩, ?_, fun p hp => ?_⟩, hMo.frame (fun i hi => F i (by omega) (by omega)), hSc.frame (fun i hi => F i (by omega) (by omega)), hTa.frame (fun i hi => F i (by omega) (by omega)), hWa.frame (fun i hi => F i (by omega) (by omega)), hUs, hCh.frame (F _ (by omega) (by omega)) (fun k hk => F _ (by omega) (by omega)), hCo.frame (F _ (by omega) (by omega)) (fun k hk => F _ (by omega) (by omega))⟩, hIm, hKe, hKu, rfl, hTr, hTn, hTg, hSh⟩
        · rw [upd_n (by omega), upd_n (by omega), upd_n (by omega), upd_n (by omega), upd_n (by omega), upd_n (by omega), upd_s]
        · by_cases hp2 : p = n
          · subst hp2
            refine ⟨⟨?_, ?_, ?_, ?_, ?_, ?_⟩, ?_, ?_, ?_, ?_, ?_, ?_⟩
            · rw [upd_s]; exact ⟨km / 10, by omega, rfl⟩
            · rw [upd_s]; exact ⟨km % 10, by omega, rfl⟩
            · rw [upd_s]; exact ⟨4, by decide, rfl⟩
            · rw [upd_s]; exact ⟨1, by decide, rfl⟩
            · rw [upd_s]; exact ⟨0, by decide, rfl⟩
            · rw [upd_s]; exact ⟨99, by decide, rfl⟩
            · rw [upd_n (by omega), upd_n (by omega), upd_n (by omega), upd_n (by omega), upd_n (by omega), upd_s, upd_s]
            · rw [upd_n (by omega), upd_n (by omega), upd_n (by omega), upd_n (by omega), upd_s, upd_s]
            · rw [upd_n (by omega), upd_n (by omega), upd_n (by omega), upd_s, upd_s]
            · rw [upd_n (by omega), upd_n (by omega), upd_s, upd_s]
            · rw [upd_n (by omega), upd_s, upd_s]
            · rw [upd_s, upd_s]
          · obtain ⟨a, b1, b2, b3, b4, b5, b6⟩ := p3 p hp
            rw [F _ (by omega) (by omega), F _ (by omega) (by omega), F _ (by omega) (by omega), F _ (by omega) (by omega), F _ (by omega) (by omega), F _ (by omega) (by omega), upd_n hp2, upd_n hp2, upd_n hp2, upd_n hp2, upd_n hp2, upd_n hp2]
            exact ⟨a, b1, b2, b3, b4, b5, b6⟩
  · refine ⟨nI n, c_now_folk_kind, c_now_folk_mark, c_now_folk_horn, c_now_folk_brass, c_now_folk_open, c_now_folk_health, upd c_errors 1 (c_errors 1 + 1), (-1000000000) - 1, m_d, upd c_errors 1 (c_errors 1 + 1), ?_, ?_, ?_⟩
    · simp only [f_X6_person, e6_km, bd1, Option.bind_some]
      rw [if_neg hb, if_pos rfl, ef1]
      rfl
    · simp only [f_X7_person]
      rw [e7_inb 70 (by decide), if_neg hb]
      simp only [bd1, Option.bind_some]
      rfl
    · exact ⟨⟨hPp0, hMo, hSc, hTa, hWa, hUs, hCh, hCo⟩, hIm, hKe, hKu, rfl, hTr, hTn, hTg, hSh⟩
set_option maxHeartbeats 1000000 in
set_option maxRecDepth 10000 in
theorem st_become {c_now_folk_size : Int32} {c_now_folk_kind : Nat → Int32} {c_now_folk_mark : Nat → Int32} {c_now_folk_horn : Nat → Int32} {c_now_folk_brass : Nat → Int32} {c_now_folk_open : Nat → Int32} {c_now_folk_health : Nat → Int32} {c_now_motions : Int32} {c_now_quorum : Nat → Int32} {c_now_favour : Nat → Int32} {c_now_laws : Int32} {c_now_urnHorn : Int32} {c_now_urnBrass : Int32} {c_now_thread : Int32} {c_now_winter : Int32} {c_now_day : Int32} {c_now_chill_use : Int32} {c_now_chill_codes : Nat → Int32} {c_now_chill_size : Int32} {c_now_cold_use : Int32} {c_now_cold_codes : Nat → Int32} {c_now_cold_size : Int32} {c_now_tape : Nat → Int32} {c_now_taped : Int32} {c_now_z : Int32} {c_now_waiting : Nat → Int32} {c_now_waits : Int32} {c_kept_folk_size : Int32} {c_kept_folk_kind : Nat → Int32} {c_kept_folk_mark : Nat → Int32} {c_kept_folk_horn : Nat → Int32} {c_kept_folk_brass : Nat → Int32} {c_kept_folk_open : Nat → Int32} {c_kept_folk_health : Nat → Int32} {c_kept_motions : Int32} {c_kept_quorum : Nat → Int32} {c_kept_favour : Nat → Int32} {c_kept_laws : Int32} {c_kept_urnHorn : Int32} {c_kept_urnBrass : Int32} {c_kept_thread : Int32} {c_kept_winter : Int32} {c_kept_day : Int32} {c_kept_chill_use : Int32} {c_kept_chill_codes : Nat → Int32} {c_kept_chill_size : Int32} {c_kept_cold_use : Int32} {c_kept_cold_codes : Nat → Int32} {c_kept_cold_size : Int32} {c_kept_tape : Nat → Int32} {c_kept_taped : Int32} {c_kept_z : Int32} {c_kept_waiting : Nat → Int32} {c_kept_waits : Int32} {c_voices_traces : Nat → Int32} {c_voices_traced : Int32} {c_sh_bits : Nat → Int32} {c_sh_size : Nat → Int32} {c_sh_numbers : Nat → Nat → Int32} {c_errors : Nat → Int32} {c_images : Int32} {m_d : Nat → Int32} {m_kept : Nat → Int32} {m_images : Int32} {m_found : Nat → Int32} {m_traced : Nat → Int32} {m_traceMany : Int32} {m_bitsOf : Nat → Int32} {m_sizeOf : Nat → Int32} {m_number : Nat → Int32} (R : Rel c_now_folk_size c_now_folk_kind c_now_folk_mark c_now_folk_horn c_now_folk_brass c_now_folk_open c_now_folk_health c_now_motions c_now_quorum c_now_favour c_now_laws c_now_urnHorn c_now_urnBrass c_now_thread c_now_winter c_now_day c_now_chill_use c_now_chill_codes c_now_chill_size c_now_cold_use c_now_cold_codes c_now_cold_size c_now_tape c_now_taped c_now_z c_now_waiting c_now_waits c_kept_folk_size c_kept_folk_kind c_kept_folk_mark c_kept_folk_horn c_kept_folk_brass c_kept_folk_open c_kept_folk_health c_kept_motions c_kept_quorum c_kept_favour c_kept_laws c_kept_urnHorn c_kept_urnBrass c_kept_thread c_kept_winter c_kept_day c_kept_chill_use c_kept_chill_codes c_kept_chill_size c_kept_cold_use c_kept_cold_codes c_kept_cold_size c_kept_tape c_kept_taped c_kept_z c_kept_waiting c_kept_waits c_voices_traces c_voices_traced c_sh_bits c_sh_size c_sh_numbers c_errors c_images m_d m_kept m_images m_found m_traced m_traceMany m_bitsOf m_sizeOf m_number) (p0 : Int32) (p1 : Int32) : ∃ (x_now_folk_kind : Nat → Int32) (x_now_folk_mark : Nat → Int32) (x_errors : Nat → Int32) (r : Int32) (y_d : Nat → Int32) (y_found : Nat → Int32), f_X6_become c_now_folk_size c_now_folk_kind c_now_folk_mark c_errors p0 p1 = some (x_now_folk_kind, x_now_folk_mark, x_errors, r) ∧ f_X7_become m_d m_found p0 p1 = some (y_d, y_found, r) ∧ Rel c_now_folk_size x_now_folk_kind x_now_folk_mark c_now_folk_horn c_now_folk_brass c_now_folk_open c_now_folk_health c_now_motions c_now_quorum c_now_favour c_now_laws c_now_urnHorn c_now_urnBrass c_now_thread c_now_winter c_now_day c_now_chill_use c_now_chill_codes c_now_chill_size c_now_cold_use c_now_cold_codes c_now_cold_size c_now_tape c_now_taped c_now_z c_now_waiting c_now_waits c_kept_folk_size c_kept_folk_kind c_kept_folk_mark c_kept_folk_horn c_kept_folk_brass c_kept_folk_open c_kept_folk_health c_kept_motions c_kept_quorum c_kept_favour c_kept_laws c_kept_urnHorn c_kept_urnBrass c_kept_thread c_kept_winter c_kept_day c_kept_chill_use c_kept_chill_codes c_kept_chill_size c_kept_cold_use c_kept_cold_codes c_kept_cold_size c_kept_tape c_kept_taped c_kept_z c_kept_waiting c_kept_waits c_voices_traces c_voices_traced c_sh_bits c_sh_size c_sh_numbers x_errors c_images y_d m_kept m_images y_found m_traced m_traceMany m_bitsOf m_sizeOf m_number := by
  obtain ⟨⟨hPp, hMo, hSc, hTa, hWa, hUs, hCh, hCo⟩, hIm, hKe, hKu, hEr, hTr, hTn, hTg, hSh⟩ := R
  subst hEr
  have hPp0 := hPp
  obtain ⟨⟨n, hn, rfl⟩, p2, p3⟩ := hPp
  by_cases hp : inb p0 n = true
  · obtain ⟨p, hpn, rfl⟩ := inb_of hp (by omega)
    by_cases hb : inb p1 70 = true
    · obtain ⟨km, hkm, rfl⟩ := inb_of hb (by decide)
      have hdiv : nI km / 10 = nI (km / 10) := pk_div (d := 10) (by omega) (by decide) (by decide)
      have hrem : rmI (nI km) 10 = nI (km % 10) := pk_rem (d := 10) (by omega) (by decide) (by decide)
      obtain ⟨-, b1, -⟩ := p3 p (by omega)
      refine ⟨upd c_now_folk_kind p (nI (km / 10)), upd c_now_folk_mark p (nI (km % 10)), c_errors, c_now_folk_kind p, upd (upd m_d (10 + 6 * p) (nI (km / 10))) (11 + 6 * p) (nI (km % 10)), c_errors, ?_, ?_, ?_⟩
      · simp only [f_X6_become, e0_has rfl (show n < 1000 by omega), e6_km, bd1, Option.bind_some, jnA]
        rw [if_pos hp, if_neg (by decide), if_pos hb, if_neg (by decide), rdA_i rfl (by omega), nzA_k (by decide), wrA_i rfl (by omega), nzA_k (by decide), wrA_i rfl (by omega), hdiv, hrem]
      · simp only [f_X7_become, e7_isPerson p2 (show n < 1000 by omega), jnA, bd1, Option.bind_some]
        rw [if_pos hp, if_neg (by decide), e7_inb 70 (by decide), if_pos hb]
        simp only [Option.bind_some]
        rw [if_neg (by decide), eo0 (by omega), Option.bind_some, nzA_k (by decide), hdiv, hrem, es0 (by omega), Option.bind_some, nzA_k (by decide), es1 (by omega), Option.bind_some, b1]
      · have F : ∀ i, i ≠ 10 + 6 * p → i ≠ 11 + 6 * p → (upd (upd m_d (10 + 6 * p) (nI (km / 10))) (11 + 6 * p) (nI (km % 10))) i = m_d i := fun i h1 h2 => by
          rw [upd_n (by omega), upd_n (by omega)]
        refine ⟨⟨⟨⟨n, by omega, rfl⟩, by rw [F 0 (by omega) (by omega)]; exact p2, fun q hq => ?_⟩, hMo.frame (fun i hi => F i (by omega) (by omega)), hSc.frame (fun i hi => F i (by omega) (by omega)), hTa.frame (fun i hi => F i (by omega) (by omega)), hWa.frame (fun i hi => F i (by omega) (by omega)), hUs, hCh.frame (F _ (by omega) (by omega)) (fun k hk => F _ (by omega) (by omega)), hCo.frame (F _ (by omega) (by omega)) (fun k hk => F _ (by omega) (by omega))⟩, hIm, hKe, hKu, rfl, hTr, hTn, hTg, hSh⟩
        obtain ⟨⟨a1, a2, a3, a4, a5, a6⟩, b1, b2, b3, b4, b5, b6⟩ := p3 q hq
        rw [F (12 + 6 * q) (by omega) (by omega), F (13 + 6 * q) (by omega) (by omega), F (14 + 6 * q) (by omega) (by omega), F (15 + 6 * q) (by omega) (by omega)]
        by_cases hq2 : q = p
        · subst hq2
          rw [upd_s, upd_s, upd_s, upd_n (by omega), upd_s]
          exact ⟨⟨⟨km / 10, by omega, rfl⟩, ⟨km % 10, by omega, rfl⟩, a3, a4, a5, a6⟩, rfl, rfl, b3, b4, b5, b6⟩
        · rw [F _ (by omega) (by omega), F _ (by omega) (by omega), upd_n hq2, upd_n hq2]
          exact ⟨⟨a1, a2, a3, a4, a5, a6⟩, b1, b2, b3, b4, b5, b6⟩
    · refine ⟨c_now_folk_kind, c_now_folk_mark, upd c_errors 1 (c_errors 1 + 1), (-1000000000) - 1, m_d, upd c_errors 1 (c_errors 1 + 1), ?_, ?_, ?_⟩
      · simp only [f_X6_become, e0_has rfl (show n < 1000 by omega), e6_km, bd1, Option.bind_some, jnA]
        rw [if_pos hp, if_neg (by decide), if_neg hb, if_pos rfl, ef1]
        rfl
      · simp only [f_X7_become, e7_isPerson p2 (show n < 1000 by omega), jnA, bd1, Option.bind_some]
        rw [if_pos hp, if_neg (by decide), e7_inb 70 (by decide), if_neg hb, eg1]
        rfl
      · exact ⟨⟨hPp0, hMo, hSc, hTa, hWa, hUs, hCh, hCo⟩, hIm, hKe, hKu, rfl, hTr, hTn, hTg, hSh⟩
  · refine ⟨c_now_folk_kind, c_now_folk_mark, upd c_errors 1 (c_errors 1 + 1), (-1000000000) - 1, m_d, upd c_errors 1 (c_errors 1 + 1), ?_, ?_, ?_⟩
    · simp only [f_X6_become, e0_has rfl (show n < 1000 by omega), bd1, Option.bind_some, jnA]
      rw [if_neg hp, ef1]
      rfl
    · simp only [f_X7_become, e7_isPerson p2 (show n < 1000 by omega), jnA, bd1, Option.bind_some]
      rw [if_neg hp, eg1]
      rfl
    · exact ⟨⟨hPp0, hMo, hSc, hTa, hWa, hUs, hCh, hCo⟩, hIm, hKe, hKu, rfl, hTr, hTn, hTg, hSh⟩
set_option maxHeartbeats 1000000 in
set_option maxRecDepth 10000 in
theorem st_side {c_now_folk_size : Int32} {c_now_folk_kind : Nat → Int32} {c_now_folk_mark : Nat → Int32} {c_now_folk_horn : Nat → Int32} {c_now_folk_brass : Nat → Int32} {c_now_folk_open : Nat → Int32} {c_now_folk_health : Nat → Int32} {c_now_motions : Int32} {c_now_quorum : Nat → Int32} {c_now_favour : Nat → Int32} {c_now_laws : Int32} {c_now_urnHorn : Int32} {c_now_urnBrass : Int32} {c_now_thread : Int32} {c_now_winter : Int32} {c_now_day : Int32} {c_now_chill_use : Int32} {c_now_chill_codes : Nat → Int32} {c_now_chill_size : Int32} {c_now_cold_use : Int32} {c_now_cold_codes : Nat → Int32} {c_now_cold_size : Int32} {c_now_tape : Nat → Int32} {c_now_taped : Int32} {c_now_z : Int32} {c_now_waiting : Nat → Int32} {c_now_waits : Int32} {c_kept_folk_size : Int32} {c_kept_folk_kind : Nat → Int32} {c_kept_folk_mark : Nat → Int32} {c_kept_folk_horn : Nat → Int32} {c_kept_folk_brass : Nat → Int32} {c_kept_folk_open : Nat → Int32} {c_kept_folk_health : Nat → Int32} {c_kept_motions : Int32} {c_kept_quorum : Nat → Int32} {c_kept_favour : Nat → Int32} {c_kept_laws : Int32} {c_kept_urnHorn : Int32} {c_kept_urnBrass : Int32} {c_kept_thread : Int32} {c_kept_winter : Int32} {c_kept_day : Int32} {c_kept_chill_use : Int32} {c_kept_chill_codes : Nat → Int32} {c_kept_chill_size : Int32} {c_kept_cold_use : Int32} {c_kept_cold_codes : Nat → Int32} {c_kept_cold_size : Int32} {c_kept_tape : Nat → Int32} {c_kept_taped : Int32} {c_kept_z : Int32} {c_kept_waiting : Nat → Int32} {c_kept_waits : Int32} {c_voices_traces : Nat → Int32} {c_voices_traced : Int32} {c_sh_bits : Nat → Int32} {c_sh_size : Nat → Int32} {c_sh_numbers : Nat → Nat → Int32} {c_errors : Nat → Int32} {c_images : Int32} {m_d : Nat → Int32} {m_kept : Nat → Int32} {m_images : Int32} {m_found : Nat → Int32} {m_traced : Nat → Int32} {m_traceMany : Int32} {m_bitsOf : Nat → Int32} {m_sizeOf : Nat → Int32} {m_number : Nat → Int32} (R : Rel c_now_folk_size c_now_folk_kind c_now_folk_mark c_now_folk_horn c_now_folk_brass c_now_folk_open c_now_folk_health c_now_motions c_now_quorum c_now_favour c_now_laws c_now_urnHorn c_now_urnBrass c_now_thread c_now_winter c_now_day c_now_chill_use c_now_chill_codes c_now_chill_size c_now_cold_use c_now_cold_codes c_now_cold_size c_now_tape c_now_taped c_now_z c_now_waiting c_now_waits c_kept_folk_size c_kept_folk_kind c_kept_folk_mark c_kept_folk_horn c_kept_folk_brass c_kept_folk_open c_kept_folk_health c_kept_motions c_kept_quorum c_kept_favour c_kept_laws c_kept_urnHorn c_kept_urnBrass c_kept_thread c_kept_winter c_kept_day c_kept_chill_use c_kept_chill_codes c_kept_chill_size c_kept_cold_use c_kept_cold_codes c_kept_cold_size c_kept_tape c_kept_taped c_kept_z c_kept_waiting c_kept_waits c_voices_traces c_voices_traced c_sh_bits c_sh_size c_sh_numbers c_errors c_images m_d m_kept m_images m_found m_traced m_traceMany m_bitsOf m_sizeOf m_number) (p0 : Int32) (p1 : Int32) : ∃ (x_now_favour : Nat → Int32) (x_errors : Nat → Int32) (r : Int32) (y_d : Nat → Int32) (y_found : Nat → Int32), f_X6_side c_now_motions c_now_favour c_errors p0 p1 = some (x_now_favour, x_errors, r) ∧ f_X7_side m_d m_found p0 p1 = some (y_d, y_found, r) ∧ Rel c_now_folk_size c_now_folk_kind c_now_folk_mark c_now_folk_horn c_now_folk_brass c_now_folk_open c_now_folk_health c_now_motions c_now_quorum x_now_favour c_now_laws c_now_urnHorn c_now_urnBrass c_now_thread c_now_winter c_now_day c_now_chill_use c_now_chill_codes c_now_chill_size c_now_cold_use c_now_cold_codes c_now_cold_size c_now_tape c_now_taped c_now_z c_now_waiting c_now_waits c_kept_folk_size c_kept_folk_kind c_kept_folk_mark c_kept_folk_horn c_kept_folk_brass c_kept_folk_open c_kept_folk_health c_kept_motions c_kept_quorum c_kept_favour c_kept_laws c_kept_urnHorn c_kept_urnBrass c_kept_thread c_kept_winter c_kept_day c_kept_chill_use c_kept_chill_codes c_kept_chill_size c_kept_cold_use c_kept_cold_codes c_kept_cold_size c_kept_tape c_kept_taped c_kept_z c_kept_waiting c_kept_waits c_voices_traces c_voices_traced c_sh_bits c_sh_size c_sh_numbers x_errors c_images y_d m_kept m_images y_found m_traced m_traceMany m_bitsOf m_sizeOf m_number := by
  obtain ⟨⟨hPp, hMo, hSc, hTa, hWa, hUs, hCh, hCo⟩, hIm, hKe, hKu, hEr, hTr, hTn, hTg, hSh⟩ := R
  subst hEr
  have hMo0 := hMo
  obtain ⟨m1, ⟨n, w, hn, rfl, hw, hl, hlb⟩, m3⟩ := hMo
  by_cases hp : inb p0 n = true
  · obtain ⟨p, hpn, rfl⟩ := inb_of hp (by omega)
    by_cases hb : inb p1 256 = true
    · obtain ⟨sv, hsv, rfl⟩ := inb_of hb (by decide)
      obtain ⟨-, -, -, b4⟩ := m3 p (by omega)
      refine ⟨upd c_now_favour p (nI sv), c_errors, c_now_favour p, upd m_d (59 + 3 * p) (nI sv), c_errors, ?_, ?_, ?_⟩
      · simp only [f_X6_side, e5_has rfl (show n < 1000 by omega), e6_set, bd1, Option.bind_some, jnA]
        rw [if_pos hp, if_neg (by decide), if_pos hb, if_neg (by decide), rdA_i rfl (by omega), wrA_i rfl (by omega)]
      · simp only [f_X7_side, e7_isMotion m1 (show n < 1000 by omega), jnA, bd1, Option.bind_some]
        rw [if_pos hp, if_neg (by decide), e7_inb 256 (by decide), if_pos hb]
        simp only [Option.bind_some]
        rw [if_neg (by decide), ei1 (by omega), Option.bind_some, wrA_i em1x (by omega), b4]
      · have F : ∀ i, i ≠ 59 + 3 * p → upd m_d (59 + 3 * p) (nI sv) i = m_d i := fun i h1 => upd_n h1
        refine ⟨⟨hPp.frame (fun i hi => F i (by omega)), ⟨by rw [F _ (by omega)]; exact m1, ⟨n, w, hn, rfl, hw, hl, fun i hi => by rw [F _ (by omega)]; exact hlb i hi⟩, fun i hi => ?_⟩, hSc.frame (fun i hi => F i (by omega)), hTa.frame (fun i hi => F i (by omega)), hWa.frame (fun i hi => F i (by omega)), hUs, hCh.frame (F _ (by omega)) (fun k hk => F _ (by omega)), hCo.frame (F _ (by omega)) (fun k hk => F _ (by omega))⟩, hIm, hKe, hKu, rfl, hTr, hTn, hTg, hSh⟩
        obtain ⟨a1, a2, a3, a4⟩ := m3 i hi
        by_cases hi2 : i = p
        · subst hi2
          rw [upd_s, upd_s, F _ (by omega)]
          exact ⟨a1, ⟨sv, by omega, rfl⟩, a3, rfl⟩
        · rw [upd_n hi2, F _ (by omega), F _ (by omega)]
          exact ⟨a1, a2, a3, a4⟩
    · refine ⟨c_now_favour, upd c_errors 1 (c_errors 1 + 1), (-1000000000) - 1, m_d, upd c_errors 1 (c_errors 1 + 1), ?_, ?_, ?_⟩
      · simp only [f_X6_side, e5_has rfl (show n < 1000 by omega), e6_set, bd1, Option.bind_some, jnA]
        rw [if_pos hp, if_neg (by decide), if_neg hb, if_pos rfl, ef1]
        rfl
      · simp only [f_X7_side, e7_isMotion m1 (show n < 1000 by omega), jnA, bd1, Option.bind_some]
        rw [if_pos hp, if_neg (by decide), e7_inb 256 (by decide), if_neg hb, eg1]
        rfl
      · exact ⟨⟨hPp, hMo0, hSc, hTa, hWa, hUs, hCh, hCo⟩, hIm, hKe, hKu, rfl, hTr, hTn, hTg, hSh⟩
  · refine ⟨c_now_favour, upd c_errors 1 (c_errors 1 + 1), (-1000000000) - 1, m_d, upd c_errors 1 (c_errors 1 + 1), ?_, ?_, ?_⟩
    · simp only [f_X6_side, e5_has rfl (show n < 1000 by omega), bd1, Option.bind_some, jnA]
      rw [if_neg hp, ef1]
      rfl
    · simp only [f_X7_side, e7_isMotion m1 (show n < 1000 by omega), jnA, bd1, Option.bind_some]
      rw [if_neg hp, eg1]
      rfl
    · exact ⟨⟨hPp, hMo0, hSc, hTa, hWa, hUs, hCh, hCo⟩, hIm, hKe, hKu, rfl, hTr, hTn, hTg, hSh⟩
