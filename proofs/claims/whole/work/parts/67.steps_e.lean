/-! SHEETS -/
theorem shA_i {β : Type} {j : Nat} {k : Nat → Option β} (hj : j < 4) : shA (nI j) k = k j := by
  unfold shA
  rw [if_pos (nI_bd hj (by decide)), nI_clamp (by omega)]
theorem shx {j i : Nat} : ((40 : Int32) * nI j) + nI i = nI (40 * j + i) := by
  rw [show (40 : Int32) = nI 40 from rfl, pk_mul, nI_add]
theorem vup_s {α : Type} {f : Nat → α} {k : Nat} {v : α} : va_up f k v k = v := by simp [va_up]
theorem vup_n {α : Type} {f : Nat → α} {k j : Nat} {v : α} (h : j ≠ k) : va_up f k v j = f j := by simp [va_up, h]
theorem i32_nat (v : Int32) : v.toInt = (v.toBitVec.toNat : Int) ∨ v.toInt = (v.toBitVec.toNat : Int) - 4294967296 := by
  have h : v.toInt = v.toBitVec.toInt := rfl
  rw [h, BitVec.toInt_eq_toNat_cond]
  split
  · exact Or.inl rfl
  · exact Or.inr (by omega)
theorem num8 (v : Int32) : NumR (v &&& 255) (v.toInt8.toInt32) := by
  have e1 : v &&& 255 = nI (v.toBitVec.toNat % 256) := pk_and v 8 (by decide)
  have e2 : (v.toInt8.toInt32).toInt = v.toInt.bmod 256 := by
    rw [Int8.toInt_toInt32, Int32.toInt_toInt8]
  rw [e1]
  have hm : v.toBitVec.toNat % 256 < 256 := Nat.mod_lt _ (by decide)
  generalize hmm : v.toBitVec.toNat % 256 = mm at hm ⊢
  have e3 : v.toInt.bmod 256 = if mm < 128 then (mm : Int) else (mm : Int) - 256 := by
    rw [Int.bmod_def]
    rcases i32_nat v with h | h <;> rw [h] <;> split <;> split <;> omega
  rw [e3] at e2
  by_cases h : mm < 128
  · rw [if_pos h] at e2
    refine Or.inl (Int32.toInt_inj.mp ?_)
    rw [e2, nI_toInt (by omega)]
  · rw [if_neg h] at e2
    refine Or.inr ⟨?_, ?_⟩
    · rw [Int32.le_iff_toInt_le, nI_toInt (by omega)]
      show (128 : Int) ≤ _
      omega
    · rw [Int32.lt_iff_toInt_lt, e2]
      show _ < (0 : Int)
      omega
theorem num16 (v : Int32) : NumR (v &&& 65535) (v.toInt16.toInt32) := by
  have e1 : v &&& 65535 = nI (v.toBitVec.toNat % 65536) := pk_and v 16 (by decide)
  have e2 : (v.toInt16.toInt32).toInt = v.toInt.bmod 65536 := by
    rw [Int16.toInt_toInt32, Int32.toInt_toInt16]
  rw [e1]
  have hm : v.toBitVec.toNat % 65536 < 65536 := Nat.mod_lt _ (by decide)
  generalize hmm : v.toBitVec.toNat % 65536 = mm at hm ⊢
  have e3 : v.toInt.bmod 65536 = if mm < 32768 then (mm : Int) else (mm : Int) - 65536 := by
    rw [Int.bmod_def]
    rcases i32_nat v with h | h <;> rw [h] <;> split <;> split <;> omega
  rw [e3] at e2
  by_cases h : mm < 32768
  · rw [if_pos h] at e2
    refine Or.inl (Int32.toInt_inj.mp ?_)
    rw [e2, nI_toInt (by omega)]
  · rw [if_neg h] at e2
    refine Or.inr ⟨?_, ?_⟩
    · rw [Int32.le_iff_toInt_le, nI_toInt (by omega)]
      show (128 : Int) ≤ _
      omega
    · rw [Int32.lt_iff_toInt_lt, e2]
      show _ < (0 : Int)
      omega
theorem e2_write {bits size : Int32} {numbers : Nat → Int32} {i n : Nat} {v : Int32} (hs : size = nI n) (hn : n ≤ 40) (hi : i < n) : f_X2_write bits size numbers (nI i) v = some (upd numbers i (if bits = 8 then v &&& 255 else if bits = 16 then v &&& 65535 else v)) := by
  unfold f_X2_write
  rw [rngB n (by rw [hs]; exact nI_toInt (by omega)), if_pos (nI_bd hi (by omega))]
  simp only [jnA]
  by_cases h8 : bits = 8
  · rw [if_pos h8, if_pos h8, wrA_i rfl (by omega)]
  · rw [if_neg h8, if_neg h8]
    by_cases h16 : bits = 16
    · rw [if_pos h16, if_pos h16, wrA_i rfl (by omega)]
    · rw [if_neg h16, if_neg h16, wrA_i rfl (by omega)]
set_option maxHeartbeats 1000000 in
set_option maxRecDepth 10000 in
theorem st_put {c_now_folk_size : Int32} {c_now_folk_kind : Nat → Int32} {c_now_folk_mark : Nat → Int32} {c_now_folk_horn : Nat → Int32} {c_now_folk_brass : Nat → Int32} {c_now_folk_open : Nat → Int32} {c_now_folk_health : Nat → Int32} {c_now_motions : Int32} {c_now_quorum : Nat → Int32} {c_now_favour : Nat → Int32} {c_now_laws : Int32} {c_now_urnHorn : Int32} {c_now_urnBrass : Int32} {c_now_thread : Int32} {c_now_winter : Int32} {c_now_day : Int32} {c_now_chill_use : Int32} {c_now_chill_codes : Nat → Int32} {c_now_chill_size : Int32} {c_now_cold_use : Int32} {c_now_cold_codes : Nat → Int32} {c_now_cold_size : Int32} {c_now_tape : Nat → Int32} {c_now_taped : Int32} {c_now_z : Int32} {c_now_waiting : Nat → Int32} {c_now_waits : Int32} {c_kept_folk_size : Int32} {c_kept_folk_kind : Nat → Int32} {c_kept_folk_mark : Nat → Int32} {c_kept_folk_horn : Nat → Int32} {c_kept_folk_brass : Nat → Int32} {c_kept_folk_open : Nat → Int32} {c_kept_folk_health : Nat → Int32} {c_kept_motions : Int32} {c_kept_quorum : Nat → Int32} {c_kept_favour : Nat → Int32} {c_kept_laws : Int32} {c_kept_urnHorn : Int32} {c_kept_urnBrass : Int32} {c_kept_thread : Int32} {c_kept_winter : Int32} {c_kept_day : Int32} {c_kept_chill_use : Int32} {c_kept_chill_codes : Nat → Int32} {c_kept_chill_size : Int32} {c_kept_cold_use : Int32} {c_kept_cold_codes : Nat → Int32} {c_kept_cold_size : Int32} {c_kept_tape : Nat → Int32} {c_kept_taped : Int32} {c_kept_z : Int32} {c_kept_waiting : Nat → Int32} {c_kept_waits : Int32} {c_voices_traces : Nat → Int32} {c_voices_traced : Int32} {c_sh_bits : Nat → Int32} {c_sh_size : Nat → Int32} {c_sh_numbers : Nat → Nat → Int32} {c_errors : Nat → Int32} {c_images : Int32} {m_d : Nat → Int32} {m_kept : Nat → Int32} {m_images : Int32} {m_found : Nat → Int32} {m_traced : Nat → Int32} {m_traceMany : Int32} {m_bitsOf : Nat → Int32} {m_sizeOf : Nat → Int32} {m_number : Nat → Int32} (R : Rel c_now_folk_size c_now_folk_kind c_now_folk_mark c_now_folk_horn c_now_folk_brass c_now_folk_open c_now_folk_health c_now_motions c_now_quorum c_now_favour c_now_laws c_now_urnHorn c_now_urnBrass c_now_thread c_now_winter c_now_day c_now_chill_use c_now_chill_codes c_now_chill_size c_now_cold_use c_now_cold_codes c_now_cold_size c_now_tape c_now_taped c_now_z c_now_waiting c_now_waits c_kept_folk_size c_kept_folk_kind c_kept_folk_mark c_kept_folk_horn c_kept_folk_brass c_kept_folk_open c_kept_folk_health c_kept_motions c_kept_quorum c_kept_favour c_kept_laws c_kept_urnHorn c_kept_urnBrass c_kept_thread c_kept_winter c_kept_day c_kept_chill_use c_kept_chill_codes c_kept_chill_size c_kept_cold_use c_kept_cold_codes c_kept_cold_size c_kept_tape c_kept_taped c_kept_z c_kept_waiting c_kept_waits c_voices_traces c_voices_traced c_sh_bits c_sh_size c_sh_numbers c_errors c_images m_d m_kept m_images m_found m_traced m_traceMany m_bitsOf m_sizeOf m_number) (p0 : Int32) (p1 : Int32) (p2 : Int32) : ∃ (x_sh_numbers : Nat → Nat → Int32) (x_errors : Nat → Int32) (r : Int32) (y_found : Nat → Int32) (y_number : Nat → Int32), f_X6_put c_sh_bits c_sh_size c_sh_numbers c_errors p0 p1 p2 = some (x_sh_numbers, x_errors, r) ∧ f_X7_put m_found m_bitsOf m_sizeOf m_number p0 p1 p2 = some (y_found, y_number, r) ∧ Rel c_now_folk_size c_now_folk_kind c_now_folk_mark c_now_folk_horn c_now_folk_brass c_now_folk_open c_now_folk_health c_now_motions c_now_quorum c_now_favour c_now_laws c_now_urnHorn c_now_urnBrass c_now_thread c_now_winter c_now_day c_now_chill_use c_now_chill_codes c_now_chill_size c_now_cold_use c_now_cold_codes c_now_cold_size c_now_tape c_now_taped c_now_z c_now_waiting c_now_waits c_kept_folk_size c_kept_folk_kind c_kept_folk_mark c_kept_folk_horn c_kept_folk_brass c_kept_folk_open c_kept_folk_health c_kept_motions c_kept_quorum c_kept_favour c_kept_laws c_kept_urnHorn c_kept_urnBrass c_kept_thread c_kept_winter c_kept_day c_kept_chill_use c_kept_chill_codes c_kept_chill_size c_kept_cold_use c_kept_cold_codes c_kept_cold_size c_kept_tape c_kept_taped c_kept_z c_kept_waiting c_kept_waits c_voices_traces c_voices_traced c_sh_bits c_sh_size x_sh_numbers x_errors c_images m_d m_kept m_images y_found m_traced m_traceMany m_bitsOf m_sizeOf y_number := by
  obtain ⟨hW, hIm, hKe, hKu, hEr, hTr, hTn, hTg, hSh⟩ := R
  subst hEr
  by_cases hp : inb p0 4 = true
  · obtain ⟨j, hj, rfl⟩ := inb_of hp (by decide)
    obtain ⟨s1, s2, s3, ⟨n, hn, hs⟩, s5⟩ := hSh j hj
    by_cases hz : c_sh_bits j = 0
    · refine ⟨c_sh_numbers, upd c_errors 2 (c_errors 2 + 1), (-1000000000) - 2, upd c_errors 2 (c_errors 2 + 1), m_number, ?_, ?_, ⟨hW, hIm, hKe, hKu, rfl, hTr, hTn, hTg, hSh⟩⟩
      · simp only [f_X6_put, e6_sheet, bd1, Option.bind_some]
        rw [if_pos hp, if_neg (by decide), shA_i hj, if_pos hz, ef2]
        rfl
      · simp only [f_X7_put, e7_sheet, bd1, Option.bind_some]
        rw [if_pos hp, if_neg (by decide), rdA_i rfl hj, ← s1, if_pos hz, eg2]
        rfl
    · by_cases hi : inb p1 n = true
      · obtain ⟨i, hin, rfl⟩ := inb_of hi (by omega)
        refine ⟨va_up c_sh_numbers j (upd (c_sh_numbers j) i (if c_sh_bits j = 8 then p2 &&& 255 else if c_sh_bits j = 16 then p2 &&& 65535 else p2)), c_errors, 1, c_errors, upd m_number (40 * j + i) (if c_sh_bits j = 8 then p2.toInt8.toInt32 else if c_sh_bits j = 16 then p2.toInt16.toInt32 else p2), ?_, ?_, ?_⟩
        · simp only [f_X6_put, e6_sheet, bd1, Option.bind_some]
          rw [if_pos hp, if_neg (by decide), shA_i hj, if_neg hz]
          simp only [jnA]
          rw [rngD n (by rw [hs]; exact nI_toInt (by omega)), if_pos hi, e2_write hs hn hin, Option.bind_some]
        · simp only [f_X7_put, e7_sheet, bd1, Option.bind_some, jnA]
          rw [if_pos hp, if_neg (by decide), rdA_i rfl hj, ← s1, if_neg hz, rdA_i rfl hj, ← s2, hs, e7_inb n (pred_toInt (by omega)), if_pos hi, Option.bind_some, if_neg (by decide), rdA_i rfl hj, ← s1]
          by_cases h8 : c_sh_bits j = 8
          · rw [if_pos h8, if_pos h8, wrA_i shx (by omega)]
          · rw [if_neg h8, if_neg h8, rdA_i rfl hj, ← s1]
            by_cases h16 : c_sh_bits j = 16
            · rw [if_pos h16, if_pos h16, wrA_i shx (by omega)]
            · rw [if_neg h16, if_neg h16, wrA_i shx (by omega)]
        · refine ⟨hW, hIm, hKe, hKu, rfl, hTr, hTn, hTg, fun q hq => ?_⟩
          obtain ⟨t1, t2, t3, t4, t5⟩ := hSh q hq
          refine ⟨t1, t2, t3, t4, fun i2 hi2 => ?_⟩
          by_cases hq2 : q = j
          · subst hq2
            rw [vup_s]
            by_cases hi3 : i2 = i
            · subst hi3
              rw [upd_s, upd_s]
              by_cases h8 : c_sh_bits q = 8
              · rw [if_pos h8, if_pos h8]; exact num8 p2
              · rw [if_neg h8, if_neg h8]
                by_cases h16 : c_sh_bits q = 16
                · rw [if_pos h16, if_pos h16]; exact num16 p2
                · rw [if_neg h16, if_neg h16]; exact Or.inl rfl
            · rw [upd_n hi3, upd_n (by omega)]
              exact t5 i2 hi2
          · rw [vup_n hq2, upd_n (by omega)]
            exact t5 i2 hi2
      · refine ⟨c_sh_numbers, upd c_errors 1 (c_errors 1 + 1), (-1000000000) - 1, upd c_errors 1 (c_errors 1 + 1), m_number, ?_, ?_, ⟨hW, hIm, hKe, hKu, rfl, hTr, hTn, hTg, hSh⟩⟩
        · simp only [f_X6_put, e6_sheet, bd1, Option.bind_some]
          rw [if_pos hp, if_neg (by decide), shA_i hj, if_neg hz]
          simp only [jnA]
          rw [rngD n (by rw [hs]; exact nI_toInt (by omega)), if_neg hi, ef1]
          rfl
        · simp only [f_X7_put, e7_sheet, bd1, Option.bind_some, jnA]
          rw [if_pos hp, if_neg (by decide), rdA_i rfl hj, ← s1, if_neg hz, rdA_i rfl hj, ← s2, hs, e7_inb n (pred_toInt (by omega)), if_neg hi, eg1]
          rfl
  · refine ⟨c_sh_numbers, upd c_errors 1 (c_errors 1 + 1), (-1000000000) - 1, upd c_errors 1 (c_errors 1 + 1), m_number, ?_, ?_, ⟨hW, hIm, hKe, hKu, rfl, hTr, hTn, hTg, hSh⟩⟩
    · simp only [f_X6_put, e6_sheet, bd1, Option.bind_some]
      rw [if_neg hp, ef1]
      rfl
    · simp only [f_X7_put, e7_sheet, bd1, Option.bind_some]
      rw [if_neg hp, eg1]
      rfl
