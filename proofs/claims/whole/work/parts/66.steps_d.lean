/-! as -/
def asU (j q : Nat) : Bool := q == 0 || q == j || q == (if j < 4 then 0 else j - 3)
theorem as6 : ∀ j q, j < 7 → q < 7 → f_X6_isUnder (nI j) (nI q) = some (if asU j q = true then 1 else 0) := by
  have h : ∀ j, j < 7 → ∀ q, q < 7 → f_X6_isUnder (nI j) (nI q) = some (if asU j q = true then 1 else 0) := by decide +kernel
  exact fun j q hj hq => h j hj q hq
theorem as7 {j : Nat} (hj : j < 7) : f_X7_above (nI j) = some (nI (if j < 4 then 0 else j - 3)) := by
  have h : ∀ j, j < 7 → f_X7_above (nI j) = some (nI (if j < 4 then 0 else j - 3)) := by decide +kernel
  exact h j hj
theorem as7b {α : Type} {j q : Nat} {a b : α} (hj : j < 7) (hq : q < 7) : (if nI q = 0 then a else if nI q = nI j then a else if nI q = nI (if j < 4 then 0 else j - 3) then a else b) = if asU j q = true then a else b := by
  have e0 : (nI q = 0) = (q = 0) := propext (nI_eq (a := q) (b := 0) (by omega) (by decide))
  have e1 : (nI q = nI j) = (q = j) := propext (nI_eq (by omega) (by omega))
  have e2 : (nI q = nI (if j < 4 then 0 else j - 3)) = (q = (if j < 4 then 0 else j - 3)) := propext (nI_eq (by omega) (by split <;> omega))
  simp only [e0, e1, e2, asU, Bool.or_eq_true, beq_iff_eq]
  by_cases h0 : q = 0
  · simp [h0]
  · by_cases h1 : q = j
    · simp [h1]
    · by_cases h2 : q = (if j < 4 then 0 else j - 3)
      · simp only [if_neg h0, if_neg h1, if_pos h2, if_pos (Or.inr h2)]
      · rw [if_neg h0, if_neg h1, if_neg h2, if_neg]
        rintro ((h | h) | h)
        · exact h0 h
        · exact h1 h
        · exact h2 h
set_option maxHeartbeats 1000000 in
set_option maxRecDepth 10000 in
theorem st_as {c_now_folk_size : Int32} {c_now_folk_kind : Nat → Int32} {c_now_folk_mark : Nat → Int32} {c_now_folk_horn : Nat → Int32} {c_now_folk_brass : Nat → Int32} {c_now_folk_open : Nat → Int32} {c_now_folk_health : Nat → Int32} {c_now_motions : Int32} {c_now_quorum : Nat → Int32} {c_now_favour : Nat → Int32} {c_now_laws : Int32} {c_now_urnHorn : Int32} {c_now_urnBrass : Int32} {c_now_thread : Int32} {c_now_winter : Int32} {c_now_day : Int32} {c_now_chill_use : Int32} {c_now_chill_codes : Nat → Int32} {c_now_chill_size : Int32} {c_now_cold_use : Int32} {c_now_cold_codes : Nat → Int32} {c_now_cold_size : Int32} {c_now_tape : Nat → Int32} {c_now_taped : Int32} {c_now_z : Int32} {c_now_waiting : Nat → Int32} {c_now_waits : Int32} {c_kept_folk_size : Int32} {c_kept_folk_kind : Nat → Int32} {c_kept_folk_mark : Nat → Int32} {c_kept_folk_horn : Nat → Int32} {c_kept_folk_brass : Nat → Int32} {c_kept_folk_open : Nat → Int32} {c_kept_folk_health : Nat → Int32} {c_kept_motions : Int32} {c_kept_quorum : Nat → Int32} {c_kept_favour : Nat → Int32} {c_kept_laws : Int32} {c_kept_urnHorn : Int32} {c_kept_urnBrass : Int32} {c_kept_thread : Int32} {c_kept_winter : Int32} {c_kept_day : Int32} {c_kept_chill_use : Int32} {c_kept_chill_codes : Nat → Int32} {c_kept_chill_size : Int32} {c_kept_cold_use : Int32} {c_kept_cold_codes : Nat → Int32} {c_kept_cold_size : Int32} {c_kept_tape : Nat → Int32} {c_kept_taped : Int32} {c_kept_z : Int32} {c_kept_waiting : Nat → Int32} {c_kept_waits : Int32} {c_voices_traces : Nat → Int32} {c_voices_traced : Int32} {c_sh_bits : Nat → Int32} {c_sh_size : Nat → Int32} {c_sh_numbers : Nat → Nat → Int32} {c_errors : Nat → Int32} {c_images : Int32} {m_d : Nat → Int32} {m_kept : Nat → Int32} {m_images : Int32} {m_found : Nat → Int32} {m_traced : Nat → Int32} {m_traceMany : Int32} {m_bitsOf : Nat → Int32} {m_sizeOf : Nat → Int32} {m_number : Nat → Int32} (R : Rel c_now_folk_size c_now_folk_kind c_now_folk_mark c_now_folk_horn c_now_folk_brass c_now_folk_open c_now_folk_health c_now_motions c_now_quorum c_now_favour c_now_laws c_now_urnHorn c_now_urnBrass c_now_thread c_now_winter c_now_day c_now_chill_use c_now_chill_codes c_now_chill_size c_now_cold_use c_now_cold_codes c_now_cold_size c_now_tape c_now_taped c_now_z c_now_waiting c_now_waits c_kept_folk_size c_kept_folk_kind c_kept_folk_mark c_kept_folk_horn c_kept_folk_brass c_kept_folk_open c_kept_folk_health c_kept_motions c_kept_quorum c_kept_favour c_kept_laws c_kept_urnHorn c_kept_urnBrass c_kept_thread c_kept_winter c_kept_day c_kept_chill_use c_kept_chill_codes c_kept_chill_size c_kept_cold_use c_kept_cold_codes c_kept_cold_size c_kept_tape c_kept_taped c_kept_z c_kept_waiting c_kept_waits c_voices_traces c_voices_traced c_sh_bits c_sh_size c_sh_numbers c_errors c_images m_d m_kept m_images m_found m_traced m_traceMany m_bitsOf m_sizeOf m_number) (p0 : Int32) (p1 : Int32) : ∃ (x_errors : Nat → Int32) (r : Int32) (y_found : Nat → Int32), f_X6_as c_now_folk_size c_now_folk_kind c_now_folk_mark c_errors p0 p1 = some (x_errors, r) ∧ f_X7_as m_d m_found p0 p1 = some (y_found, r) ∧ Rel c_now_folk_size c_now_folk_kind c_now_folk_mark c_now_folk_horn c_now_folk_brass c_now_folk_open c_now_folk_health c_now_motions c_now_quorum c_now_favour c_now_laws c_now_urnHorn c_now_urnBrass c_now_thread c_now_winter c_now_day c_now_chill_use c_now_chill_codes c_now_chill_size c_now_cold_use c_now_cold_codes c_now_cold_size c_now_tape c_now_taped c_now_z c_now_waiting c_now_waits c_kept_folk_size c_kept_folk_kind c_kept_folk_mark c_kept_folk_horn c_kept_folk_brass c_kept_folk_open c_kept_folk_health c_kept_motions c_kept_quorum c_kept_favour c_kept_laws c_kept_urnHorn c_kept_urnBrass c_kept_thread c_kept_winter c_kept_day c_kept_chill_use c_kept_chill_codes c_kept_chill_size c_kept_cold_use c_kept_cold_codes c_kept_cold_size c_kept_tape c_kept_taped c_kept_z c_kept_waiting c_kept_waits c_voices_traces c_voices_traced c_sh_bits c_sh_size c_sh_numbers x_errors c_images m_d m_kept m_images y_found m_traced m_traceMany m_bitsOf m_sizeOf m_number := by
  obtain ⟨⟨hPp, hMo, hSc, hTa, hWa, hUs, hCh, hCo⟩, hIm, hKe, hKu, hEr, hTr, hTn, hTg, hSh⟩ := R
  subst hEr
  have hPp0 := hPp
  obtain ⟨⟨n, hn, rfl⟩, p2, p3⟩ := hPp
  have bad : Rel (nI n) c_now_folk_kind c_now_folk_mark c_now_folk_horn c_now_folk_brass c_now_folk_open c_now_folk_health c_now_motions c_now_quorum c_now_favour c_now_laws c_now_urnHorn c_now_urnBrass c_now_thread c_now_winter c_now_day c_now_chill_use c_now_chill_codes c_now_chill_size c_now_cold_use c_now_cold_codes c_now_cold_size c_now_tape c_now_taped c_now_z c_now_waiting c_now_waits c_kept_folk_size c_kept_folk_kind c_kept_folk_mark c_kept_folk_horn c_kept_folk_brass c_kept_folk_open c_kept_folk_health c_kept_motions c_kept_quorum c_kept_favour c_kept_laws c_kept_urnHorn c_kept_urnBrass c_kept_thread c_kept_winter c_kept_day c_kept_chill_use c_kept_chill_codes c_kept_chill_size c_kept_cold_use c_kept_cold_codes c_kept_cold_size c_kept_tape c_kept_taped c_kept_z c_kept_waiting c_kept_waits c_voices_traces c_voices_traced c_sh_bits c_sh_size c_sh_numbers c_errors c_images m_d m_kept m_images c_errors m_traced m_traceMany m_bitsOf m_sizeOf m_number := ⟨⟨hPp0, hMo, hSc, hTa, hWa, hUs, hCh, hCo⟩, hIm, hKe, hKu, rfl, hTr, hTn, hTg, hSh⟩
  have up : ∀ e : Nat → Int32, Rel (nI n) c_now_folk_kind c_now_folk_mark c_now_folk_horn c_now_folk_brass c_now_folk_open c_now_folk_health c_now_motions c_now_quorum c_now_favour c_now_laws c_now_urnHorn c_now_urnBrass c_now_thread c_now_winter c_now_day c_now_chill_use c_now_chill_codes c_now_chill_size c_now_cold_use c_now_cold_codes c_now_cold_size c_now_tape c_now_taped c_now_z c_now_waiting c_now_waits c_kept_folk_size c_kept_folk_kind c_kept_folk_mark c_kept_folk_horn c_kept_folk_brass c_kept_folk_open c_kept_folk_health c_kept_motions c_kept_quorum c_kept_favour c_kept_laws c_kept_urnHorn c_kept_urnBrass c_kept_thread c_kept_winter c_kept_day c_kept_chill_use c_kept_chill_codes c_kept_chill_size c_kept_cold_use c_kept_cold_codes c_kept_cold_size c_kept_tape c_kept_taped c_kept_z c_kept_waiting c_kept_waits c_voices_traces c_voices_traced c_sh_bits c_sh_size c_sh_numbers e c_images m_d m_kept m_images e m_traced m_traceMany m_bitsOf m_sizeOf m_number := fun e => ⟨⟨hPp0, hMo, hSc, hTa, hWa, hUs, hCh, hCo⟩, hIm, hKe, hKu, rfl, hTr, hTn, hTg, hSh⟩
  by_cases hp : inb p0 n = true
  · obtain ⟨p, hpn, rfl⟩ := inb_of hp (by omega)
    by_cases hb : inb p1 7 = true
    · obtain ⟨q, hq, rfl⟩ := inb_of hb (by decide)
      obtain ⟨⟨⟨j, hj, hk⟩, -, -, -, -, -⟩, b1, b2, -⟩ := p3 p (by omega)
      by_cases hu : asU j q = true
      · refine ⟨c_errors, c_now_folk_mark p, c_errors, ?_, ?_, bad⟩
        · simp only [f_X6_as, e0_has rfl (show n < 1000 by omega), bd1, Option.bind_some, jnA]
          rw [if_pos hp, if_neg (by decide), rngD 7 (by decide), if_pos hb, rdA_i rfl (by omega), hk, as6 j q (by omega) hq, if_pos hu, Option.bind_some, if_neg (by decide), rdA_i rfl (by omega)]
        · simp only [f_X7_as, e7_isPerson p2 (show n < 1000 by omega), jnA, bd1, Option.bind_some]
          rw [if_pos hp, if_neg (by decide), e7_inb 7 (by decide), if_pos hb, Option.bind_some, if_neg (by decide), eo0 (by omega), Option.bind_some, b1, hk, as7 (by omega), Option.bind_some, as7b (by omega) hq, if_pos hu, eo1 (by omega), b2]
          rfl
      · refine ⟨upd c_errors 5 (c_errors 5 + 1), (-1000000000) - 5, upd c_errors 5 (c_errors 5 + 1), ?_, ?_, up _⟩
        · simp only [f_X6_as, e0_has rfl (show n < 1000 by omega), bd1, Option.bind_some, jnA]
          rw [if_pos hp, if_neg (by decide), rngD 7 (by decide), if_pos hb, rdA_i rfl (by omega), hk, as6 j q (by omega) hq, if_neg hu, Option.bind_some, if_pos rfl, ef5]
          rfl
        · simp only [f_X7_as, e7_isPerson p2 (show n < 1000 by omega), jnA, bd1, Option.bind_some]
          rw [if_pos hp, if_neg (by decide), e7_inb 7 (by decide), if_pos hb, Option.bind_some, if_neg (by decide), eo0 (by omega), Option.bind_some, b1, hk, as7 (by omega), Option.bind_some, as7b (by omega) hq, if_neg hu, eg5]
          rfl
    · refine ⟨upd c_errors 1 (c_errors 1 + 1), (-1000000000) - 1, upd c_errors 1 (c_errors 1 + 1), ?_, ?_, up _⟩
      · simp only [f_X6_as, e0_has rfl (show n < 1000 by omega), bd1, Option.bind_some, jnA]
        rw [if_pos hp, if_neg (by decide), rngD 7 (by decide), if_neg hb, ef1]
        rfl
      · simp only [f_X7_as, e7_isPerson p2 (show n < 1000 by omega), jnA, bd1, Option.bind_some]
        rw [if_pos hp, if_neg (by decide), e7_inb 7 (by decide), if_neg hb, eg1]
        rfl
  · refine ⟨upd c_errors 1 (c_errors 1 + 1), (-1000000000) - 1, upd c_errors 1 (c_errors 1 + 1), ?_, ?_, up _⟩
    · simp only [f_X6_as, e0_has rfl (show n < 1000 by omega), bd1, Option.bind_some, jnA]
      rw [if_neg hp, ef1]
      rfl
    · simp only [f_X7_as, e7_isPerson p2 (show n < 1000 by omega), jnA, bd1, Option.bind_some]
      rw [if_neg hp, eg1]
      rfl
