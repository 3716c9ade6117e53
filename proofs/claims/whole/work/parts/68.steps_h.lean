/-! steps that change one thing -/
theorem rngE {α : Type} {x c : Int32} {a b : α} (n : Nat) (hc : c.toInt = (n : Int) - 1) : (if 0 ≤ x then (if x ≤ c then b else a) else a) = if inb x n = true then b else a := by
  rw [← rngC n hc]
  by_cases h : x < 0
  · rw [if_pos h, if_neg (Int32.not_le.mpr h)]
  · rw [if_neg h, if_pos (Int32.not_lt.mp h)]
theorem fr_ppl {motions : Int32} {quorum favour : Nat → Int32} {laws uh ub thread winter day z : Int32} {tape : Nat → Int32} {taped : Int32} {waiting : Nat → Int32} {waits : Int32} {chc : Nat → Int32} {chs : Int32} {coc : Nat → Int32} {cos : Int32} {d d' : Nat → Int32} (hMo : MotR motions quorum favour laws d) (hSc : ScR uh ub thread winter day z d) (hTa : TapeR tape taped d) (hWa : WaitR waiting waits d) (hCh : TextR chc chs (d 76) (fun k => d (98 + k))) (hCo : TextR coc cos (d 77) (fun k => d (148 + k))) (F : ∀ i, ¬ (10 ≤ i ∧ i < 58) → d' i = d i) : MotR motions quorum favour laws d' ∧ ScR uh ub thread winter day z d' ∧ TapeR tape taped d' ∧ WaitR waiting waits d' ∧ TextR chc chs (d' 76) (fun k => d' (98 + k)) ∧ TextR coc cos (d' 77) (fun k => d' (148 + k)) :=
  ⟨hMo.frame (fun i hi => F i (by omega)), hSc.frame (fun i hi => F i (by omega)), rest_fr hTa hWa hCh hCo (fun i hi => F i (by omega))⟩
theorem FW.s_horn {kind mark horn brass open_ health : Nat → Int32} (H : FW kind mark horn brass open_ health) {k : Nat} {v : Int32} (hv : rg 9 v) : FW kind mark (upd horn k v) brass open_ health := by
  intro p hp
  obtain ⟨a1, a2, a3, a4, a5, a6⟩ := H p hp
  by_cases e : p = k
  · subst e
    rw [upd_s]
    exact ⟨a1, a2, hv, a4, a5, a6⟩
  · rw [upd_n e]
    exact ⟨a1, a2, a3, a4, a5, a6⟩
theorem FD.s_horn {kind mark horn brass open_ health d : Nat → Int32} (D : FD kind mark horn brass open_ health d) {k : Nat} {v : Int32} (hk : k < 8) : FD kind mark (upd horn k v) brass open_ health (upd d (12 + 6 * k) v) := by
  intro p hp
  obtain ⟨d1, d2, d3, d4, d5, d6⟩ := D p hp
  refine ⟨by rw [upd_n (by omega)]; exact d1, by rw [upd_n (by omega)]; exact d2, ?_, by rw [upd_n (by omega)]; exact d4, by rw [upd_n (by omega)]; exact d5, by rw [upd_n (by omega)]; exact d6⟩
  by_cases e : p = k
  · subst e
    rw [upd_s, upd_s]
  · rw [upd_n (by omega), upd_n e]
    exact d3
theorem FW.s_brass {kind mark horn brass open_ health : Nat → Int32} (H : FW kind mark horn brass open_ health) {k : Nat} {v : Int32} (hv : rg 9 v) : FW kind mark horn (upd brass k v) open_ health := by
  intro p hp
  obtain ⟨a1, a2, a3, a4, a5, a6⟩ := H p hp
  by_cases e : p = k
  · subst e
    rw [upd_s]
    exact ⟨a1, a2, a3, hv, a5, a6⟩
  · rw [upd_n e]
    exact ⟨a1, a2, a3, a4, a5, a6⟩
theorem FD.s_brass {kind mark horn brass open_ health d : Nat → Int32} (D : FD kind mark horn brass open_ health d) {k : Nat} {v : Int32} (hk : k < 8) : FD kind mark horn (upd brass k v) open_ health (upd d (13 + 6 * k) v) := by
  intro p hp
  obtain ⟨d1, d2, d3, d4, d5, d6⟩ := D p hp
  refine ⟨by rw [upd_n (by omega)]; exact d1, by rw [upd_n (by omega)]; exact d2, by rw [upd_n (by omega)]; exact d3, ?_, by rw [upd_n (by omega)]; exact d5, by rw [upd_n (by omega)]; exact d6⟩
  by_cases e : p = k
  · subst e
    rw [upd_s, upd_s]
  · rw [upd_n (by omega), upd_n e]
    exact d4
theorem FW.s_open_ {kind mark horn brass open_ health : Nat → Int32} (H : FW kind mark horn brass open_ health) {k : Nat} {v : Int32} (hv : rg 99 v) : FW kind mark horn brass (upd open_ k v) health := by
  intro p hp
  obtain ⟨a1, a2, a3, a4, a5, a6⟩ := H p hp
  by_cases e : p = k
  · subst e
    rw [upd_s]
    exact ⟨a1, a2, a3, a4, hv, a6⟩
  · rw [upd_n e]
    exact ⟨a1, a2, a3, a4, a5, a6⟩
theorem FD.s_open_ {kind mark horn brass open_ health d : Nat → Int32} (D : FD kind mark horn brass open_ health d) {k : Nat} {v : Int32} (hk : k < 8) : FD kind mark horn brass (upd open_ k v) health (upd d (14 + 6 * k) v) := by
  intro p hp
  obtain ⟨d1, d2, d3, d4, d5, d6⟩ := D p hp
  refine ⟨by rw [upd_n (by omega)]; exact d1, by rw [upd_n (by omega)]; exact d2, by rw [upd_n (by omega)]; exact d3, by rw [upd_n (by omega)]; exact d4, ?_, by rw [upd_n (by omega)]; exact d6⟩
  by_cases e : p = k
  · subst e
    rw [upd_s, upd_s]
  · rw [upd_n (by omega), upd_n e]
    exact d5
theorem FW.s_health {kind mark horn brass open_ health : Nat → Int32} (H : FW kind mark horn brass open_ health) {k : Nat} {v : Int32} (hv : rg 99 v) : FW kind mark horn brass open_ (upd health k v) := by
  intro p hp
  obtain ⟨a1, a2, a3, a4, a5, a6⟩ := H p hp
  by_cases e : p = k
  · subst e
    rw [upd_s]
    exact ⟨a1, a2, a3, a4, a5, hv⟩
  · rw [upd_n e]
    exact ⟨a1, a2, a3, a4, a5, a6⟩
theorem FD.s_health {kind mark horn brass open_ health d : Nat → Int32} (D : FD kind mark horn brass open_ health d) {k : Nat} {v : Int32} (hk : k < 8) : FD kind mark horn brass open_ (upd health k v) (upd d (15 + 6 * k) v) := by
  intro p hp
  obtain ⟨d1, d2, d3, d4, d5, d6⟩ := D p hp
  refine ⟨by rw [upd_n (by omega)]; exact d1, by rw [upd_n (by omega)]; exact d2, by rw [upd_n (by omega)]; exact d3, by rw [upd_n (by omega)]; exact d4, by rw [upd_n (by omega)]; exact d5, ?_⟩
  by_cases e : p = k
  · subst e
    rw [upd_s, upd_s]
  · rw [upd_n (by omega), upd_n e]
    exact d6
set_option maxHeartbeats 1000000 in
set_option maxRecDepth 10000 in
theorem st_change {c_now_folk_size : Int32} {c_now_folk_kind : Nat → Int32} {c_now_folk_mark : Nat → Int32} {c_now_folk_horn : Nat → Int32} {c_now_folk_brass : Nat → Int32} {c_now_folk_open : Nat → Int32} {c_now_folk_health : Nat → Int32} {c_now_motions : Int32} {c_now_quorum : Nat → Int32} {c_now_favour : Nat → Int32} {c_now_laws : Int32} {c_now_urnHorn : Int32} {c_now_urnBrass : Int32} {c_now_thread : Int32} {c_now_winter : Int32} {c_now_day : Int32} {c_now_chill_use : Int32} {c_now_chill_codes : Nat → Int32} {c_now_chill_size : Int32} {c_now_cold_use : Int32} {c_now_cold_codes : Nat → Int32} {c_now_cold_size : Int32} {c_now_tape : Nat → Int32} {c_now_taped : Int32} {c_now_z : Int32} {c_now_waiting : Nat → Int32} {c_now_waits : Int32} {c_kept_folk_size : Int32} {c_kept_folk_kind : Nat → Int32} {c_kept_folk_mark : Nat → Int32} {c_kept_folk_horn : Nat → Int32} {c_kept_folk_brass : Nat → Int32} {c_kept_folk_open : Nat → Int32} {c_kept_folk_health : Nat → Int32} {c_kept_motions : Int32} {c_kept_quorum : Nat → Int32} {c_kept_favour : Nat → Int32} {c_kept_laws : Int32} {c_kept_urnHorn : Int32} {c_kept_urnBrass : Int32} {c_kept_thread : Int32} {c_kept_winter : Int32} {c_kept_day : Int32} {c_kept_chill_use : Int32} {c_kept_chill_codes : Nat → Int32} {c_kept_chill_size : Int32} {c_kept_cold_use : Int32} {c_kept_cold_codes : Nat → Int32} {c_kept_cold_size : Int32} {c_kept_tape : Nat → Int32} {c_kept_taped : Int32} {c_kept_z : Int32} {c_kept_waiting : Nat → Int32} {c_kept_waits : Int32} {c_voices_traces : Nat → Int32} {c_voices_traced : Int32} {c_sh_bits : Nat → Int32} {c_sh_size : Nat → Int32} {c_sh_numbers : Nat → Nat → Int32} {c_errors : Nat → Int32} {c_images : Int32} {m_d : Nat → Int32} {m_kept : Nat → Int32} {m_images : Int32} {m_found : Nat → Int32} {m_traced : Nat → Int32} {m_traceMany : Int32} {m_bitsOf : Nat → Int32} {m_sizeOf : Nat → Int32} {m_number : Nat → Int32} (R : Rel c_now_folk_size c_now_folk_kind c_now_folk_mark c_now_folk_horn c_now_folk_brass c_now_folk_open c_now_folk_health c_now_motions c_now_quorum c_now_favour c_now_laws c_now_urnHorn c_now_urnBrass c_now_thread c_now_winter c_now_day c_now_chill_use c_now_chill_codes c_now_chill_size c_now_cold_use c_now_cold_codes c_now_cold_size c_now_tape c_now_taped c_now_z c_now_waiting c_now_waits c_kept_folk_size c_kept_folk_kind c_kept_folk_mark c_kept_folk_horn c_kept_folk_brass c_kept_folk_open c_kept_folk_health c_kept_motions c_kept_quorum c_kept_favour c_kept_laws c_kept_urnHorn c_kept_urnBrass c_kept_thread c_kept_winter c_kept_day c_kept_chill_use c_kept_chill_codes c_kept_chill_size c_kept_cold_use c_kept_cold_codes c_kept_cold_size c_kept_tape c_kept_taped c_kept_z c_kept_waiting c_kept_waits c_voices_traces c_voices_traced c_sh_bits c_sh_size c_sh_numbers c_errors c_images m_d m_kept m_images m_found m_traced m_traceMany m_bitsOf m_sizeOf m_number) (p0 : Int32) (p1 : Int32) (p2 : Int32) : ∃ (x_now_folk_horn : Nat → Int32) (x_now_folk_brass : Nat → Int32) (x_now_folk_open : Nat → Int32) (x_now_folk_health : Nat → Int32) (x_errors : Nat → Int32) (r : Int32) (y_d : Nat → Int32) (y_found : Nat → Int32), f_X6_change c_now_folk_size c_now_folk_horn c_now_folk_brass c_now_folk_open c_now_folk_health c_errors p0 p1 p2 = some (x_now_folk_horn, x_now_folk_brass, x_now_folk_open, x_now_folk_health, x_errors, r) ∧ f_X7_change m_d m_found p0 p1 p2 = some (y_d, y_found, r) ∧ Rel c_now_folk_size c_now_folk_kind c_now_folk_mark x_now_folk_horn x_now_folk_brass x_now_folk_open x_now_folk_health c_now_motions c_now_quorum c_now_favour c_now_laws c_now_urnHorn c_now_urnBrass c_now_thread c_now_winter c_now_day c_now_chill_use c_now_chill_codes c_now_chill_size c_now_cold_use c_now_cold_codes c_now_cold_size c_now_tape c_now_taped c_now_z c_now_waiting c_now_waits c_kept_folk_size c_kept_folk_kind c_kept_folk_mark c_kept_folk_horn c_kept_folk_brass c_kept_folk_open c_kept_folk_health c_kept_motions c_kept_quorum c_kept_favour c_kept_laws c_kept_urnHorn c_kept_urnBrass c_kept_thread c_kept_winter c_kept_day c_kept_chill_use c_kept_chill_codes c_kept_chill_size c_kept_cold_use c_kept_cold_codes c_kept_cold_size c_kept_tape c_kept_taped c_kept_z c_kept_waiting c_kept_waits c_voices_traces c_voices_traced c_sh_bits c_sh_size c_sh_numbers x_errors c_images y_d m_kept m_images y_found m_traced m_traceMany m_bitsOf m_sizeOf m_number := by
  obtain ⟨⟨hPp, hMo, hSc, hTa, hWa, hUs, hCh, hCo⟩, hIm, hKe, hKu, hEr, hTr, hTn, hTg, hSh⟩ := R
  subst hEr
  obtain ⟨n, hn, hsz, hD0, H, D⟩ := PplR_out hPp
  subst hsz
  by_cases hp : inb p0 n = true
  · obtain ⟨p, hpn, rfl⟩ := inb_of hp (by omega)
    obtain ⟨d1, d2, d3, d4, d5, d6⟩ := D p (by omega)
    by_cases hb : inb p1 4 = true
    · obtain ⟨k, hk, rfl⟩ := inb_of hb (by decide)
      rcases (show k = 0 ∨ k = 1 ∨ k = 2 ∨ k = 3 by omega) with rfl | rfl | rfl | rfl
      · by_cases hv : inb p2 10 = true
        · obtain ⟨v, hv2, rfl⟩ := inb_of hv (by decide)
          refine ⟨?_, ?_, ?_, ?_, ?_, ?_, ?_, ?_, ?c, ?m, ?r⟩
          case c =>
            simp only [f_X6_change, e0_has rfl (show n < 1000 by omega), bdE1, jnE]
            rw [if_pos hp, if_neg (by decide), rngA 4 (by decide), if_pos hb, if_neg (show ¬ (2 : Int32) ≤ nI 0 by decide), rngE 10 (by decide), if_pos hv]
            unfold f_X0_rowOf
            rw [if_pos (show nI 0 = (0 : Int32) by decide), bdE1, if_pos rfl, rdA_i rfl (by omega), wrA_i rfl (by omega)]
          case m =>
            simp only [f_X7_change, e7_isPerson hD0 (show n < 1000 by omega), bdE1, jnE]
            rw [if_pos hp, if_neg (by decide), e7_inb 4 (by decide), bdE1, b01, if_pos hb, if_neg (show ¬ (2 : Int32) ≤ nI 0 by decide), e7_inb 10 (by decide), bdE1, b01, if_pos hv, show ((2 : Int32) + nI 0) = nI 2 by decide, e7_of 2 rfl (by omega) (by decide), bdE1, e7_sets 2 rfl (by omega) (by decide), bdE1, d3]
          case r =>
            have F : ∀ i, i ≠ 12 + 6 * p → upd m_d (12 + 6 * p) (nI v) i = m_d i := fun i h1 => upd_n h1
            obtain ⟨hMo', hSc', hTa', hWa', hCh', hCo'⟩ := fr_ppl hMo hSc hTa hWa hCh hCo (fun i hi => F i (by omega))
            exact ⟨⟨PplR_of hn ((F 0 (by omega)).trans hD0) (H.s_horn ⟨v, by omega, rfl⟩) (D.s_horn (by omega)), hMo', hSc', hTa', hWa', hUs, hCh', hCo'⟩, hIm, hKe, hKu, rfl, hTr, hTn, hTg, hSh⟩
        · refine ⟨?_, ?_, ?_, ?_, ?_, ?_, ?_, ?_, ?c, ?m, ?r⟩
          case c =>
            simp only [f_X6_change, e0_has rfl (show n < 1000 by omega), bdE1, jnE]
            rw [if_pos hp, if_neg (by decide), rngA 4 (by decide), if_pos hb, if_neg (show ¬ (2 : Int32) ≤ nI 0 by decide), rngE 10 (by decide), if_neg hv, ef1]
            rfl
          case m =>
            simp only [f_X7_change, e7_isPerson hD0 (show n < 1000 by omega), bdE1, jnE]
            rw [if_pos hp, if_neg (by decide), e7_inb 4 (by decide), bdE1, b01, if_pos hb, if_neg (show ¬ (2 : Int32) ≤ nI 0 by decide), e7_inb 10 (by decide), bdE1, b01, if_neg hv, eg1]
            rfl
          case r => exact ⟨⟨hPp, hMo, hSc, hTa, hWa, hUs, hCh, hCo⟩, hIm, hKe, hKu, rfl, hTr, hTn, hTg, hSh⟩
      · by_cases hv : inb p2 10 = true
        · obtain ⟨v, hv2, rfl⟩ := inb_of hv (by decide)
          refine ⟨?_, ?_, ?_, ?_, ?_, ?_, ?_, ?_, ?c, ?m, ?r⟩
          case c =>
            simp only [f_X6_change, e0_has rfl (show n < 1000 by omega), bdE1, jnE]
            rw [if_pos hp, if_neg (by decide), rngA 4 (by decide), if_pos hb, if_neg (show ¬ (2 : Int32) ≤ nI 1 by decide), rngE 10 (by decide), if_pos hv]
            unfold f_X0_rowOf
            rw [if_neg (show ¬ nI 1 = (0 : Int32) by decide), if_pos (show nI 1 = (1 : Int32) by decide), bdE1, if_neg (show ¬ 4 = 3 by decide), if_pos rfl, rdA_i rfl (by omega), wrA_i rfl (by omega)]
          case m =>
            simp only [f_X7_change, e7_isPerson hD0 (show n < 1000 by omega), bdE1, jnE]
            rw [if_pos hp, if_neg (by decide), e7_inb 4 (by decide), bdE1, b01, if_pos hb, if_neg (show ¬ (2 : Int32) ≤ nI 1 by decide), e7_inb 10 (by decide), bdE1, b01, if_pos hv, show ((2 : Int32) + nI 1) = nI 3 by decide, e7_of 3 rfl (by omega) (by decide), bdE1, e7_sets 3 rfl (by omega) (by decide), bdE1, d4]
          case r =>
            have F : ∀ i, i ≠ 13 + 6 * p → upd m_d (13 + 6 * p) (nI v) i = m_d i := fun i h1 => upd_n h1
            obtain ⟨hMo', hSc', hTa', hWa', hCh', hCo'⟩ := fr_ppl hMo hSc hTa hWa hCh hCo (fun i hi => F i (by omega))
            exact ⟨⟨PplR_of hn ((F 0 (by omega)).trans hD0) (H.s_brass ⟨v, by omega, rfl⟩) (D.s_brass (by omega)), hMo', hSc', hTa', hWa', hUs, hCh', hCo'⟩, hIm, hKe, hKu, rfl, hTr, hTn, hTg, hSh⟩
        · refine ⟨?_, ?_, ?_, ?_, ?_, ?_, ?_, ?_, ?c, ?m, ?r⟩
          case c =>
            simp only [f_X6_change, e0_has rfl (show n < 1000 by omega), bdE1, jnE]
            rw [if_pos hp, if_neg (by decide), rngA 4 (by decide), if_pos hb, if_neg (show ¬ (2 : Int32) ≤ nI 1 by decide), rngE 10 (by decide), if_neg hv, ef1]
            rfl
          case m =>
            simp only [f_X7_change, e7_isPerson hD0 (show n < 1000 by omega), bdE1, jnE]
            rw [if_pos hp, if_neg (by decide), e7_inb 4 (by decide), bdE1, b01, if_pos hb, if_neg (show ¬ (2 : Int32) ≤ nI 1 by decide), e7_inb 10 (by decide), bdE1, b01, if_neg hv, eg1]
            rfl
          case r => exact ⟨⟨hPp, hMo, hSc, hTa, hWa, hUs, hCh, hCo⟩, hIm, hKe, hKu, rfl, hTr, hTn, hTg, hSh⟩
      · by_cases hv : inb p2 100 = true
        · obtain ⟨v, hv2, rfl⟩ := inb_of hv (by decide)
          refine ⟨?_, ?_, ?_, ?_, ?_, ?_, ?_, ?_, ?c, ?m, ?r⟩
          case c =>
            simp only [f_X6_change, e0_has rfl (show n < 1000 by omega), bdE1, jnE]
            rw [if_pos hp, if_neg (by decide), rngA 4 (by decide), if_pos hb, if_pos (show (2 : Int32) ≤ nI 2 by decide), rngE 100 (by decide), if_pos hv]
            unfold f_X0_rowOf
            rw [if_neg (show ¬ nI 2 = (0 : Int32) by decide), if_neg (show ¬ nI 2 = (1 : Int32) by decide), if_pos (show nI 2 = (2 : Int32) by decide), bdE1, if_neg (show ¬ 5 = 3 by decide), if_neg (show ¬ 5 = 4 by decide), if_pos rfl, rdA_i rfl (by omega), wrA_i rfl (by omega)]
          case m =>
            simp only [f_X7_change, e7_isPerson hD0 (show n < 1000 by omega), bdE1, jnE]
            rw [if_pos hp, if_neg (by decide), e7_inb 4 (by decide), bdE1, b01, if_pos hb, if_pos (show (2 : Int32) ≤ nI 2 by decide), e7_inb 100 (by decide), bdE1, b01, if_pos hv, show ((2 : Int32) + nI 2) = nI 4 by decide, e7_of 4 rfl (by omega) (by decide), bdE1, e7_sets 4 rfl (by omega) (by decide), bdE1, d5]
          case r =>
            have F : ∀ i, i ≠ 14 + 6 * p → upd m_d (14 + 6 * p) (nI v) i = m_d i := fun i h1 => upd_n h1
            obtain ⟨hMo', hSc', hTa', hWa', hCh', hCo'⟩ := fr_ppl hMo hSc hTa hWa hCh hCo (fun i hi => F i (by omega))
            exact ⟨⟨PplR_of hn ((F 0 (by omega)).trans hD0) (H.s_open_ ⟨v, by omega, rfl⟩) (D.s_open_ (by omega)), hMo', hSc', hTa', hWa', hUs, hCh', hCo'⟩, hIm, hKe, hKu, rfl, hTr, hTn, hTg, hSh⟩
        · refine ⟨?_, ?_, ?_, ?_, ?_, ?_, ?_, ?_, ?c, ?m, ?r⟩
          case c =>
            simp only [f_X6_change, e0_has rfl (show n < 1000 by omega), bdE1, jnE]
            rw [if_pos hp, if_neg (by decide), rngA 4 (by decide), if_pos hb, if_pos (show (2 : Int32) ≤ nI 2 by decide), rngE 100 (by decide), if_neg hv, ef1]
            rfl
          case m =>
            simp only [f_X7_change, e7_isPerson hD0 (show n < 1000 by omega), bdE1, jnE]
            rw [if_pos hp, if_neg (by decide), e7_inb 4 (by decide), bdE1, b01, if_pos hb, if_pos (show (2 : Int32) ≤ nI 2 by decide), e7_inb 100 (by decide), bdE1, b01, if_neg hv, eg1]
            rfl
          case r => exact ⟨⟨hPp, hMo, hSc, hTa, hWa, hUs, hCh, hCo⟩, hIm, hKe, hKu, rfl, hTr, hTn, hTg, hSh⟩
      · by_cases hv : inb p2 100 = true
        · obtain ⟨v, hv2, rfl⟩ := inb_of hv (by decide)
          refine ⟨?_, ?_, ?_, ?_, ?_, ?_, ?_, ?_, ?c, ?m, ?r⟩
          case c =>
            simp only [f_X6_change, e0_has rfl (show n < 1000 by omega), bdE1, jnE]
            rw [if_pos hp, if_neg (by decide), rngA 4 (by decide), if_pos hb, if_pos (show (2 : Int32) ≤ nI 3 by decide), rngE 100 (by decide), if_pos hv]
            unfold f_X0_rowOf
            rw [if_neg (show ¬ nI 3 = (0 : Int32) by decide), if_neg (show ¬ nI 3 = (1 : Int32) by decide), if_neg (show ¬ nI 3 = (2 : Int32) by decide), bdE1, if_neg (show ¬ 6 = 3 by decide), if_neg (show ¬ 6 = 4 by decide), if_neg (show ¬ 6 = 5 by decide), if_pos rfl, rdA_i rfl (by omega), wrA_i rfl (by omega)]
          case m =>
            simp only [f_X7_change, e7_isPerson hD0 (show n < 1000 by omega), bdE1, jnE]
            rw [if_pos hp, if_neg (by decide), e7_inb 4 (by decide), bdE1, b01, if_pos hb, if_pos (show (2 : Int32) ≤ nI 3 by decide), e7_inb 100 (by decide), bdE1, b01, if_pos hv, show ((2 : Int32) + nI 3) = nI 5 by decide, e7_of 5 rfl (by omega) (by decide), bdE1, e7_sets 5 rfl (by omega) (by decide), bdE1, d6]
          case r =>
            have F : ∀ i, i ≠ 15 + 6 * p → upd m_d (15 + 6 * p) (nI v) i = m_d i := fun i h1 => upd_n h1
            obtain ⟨hMo', hSc', hTa', hWa', hCh', hCo'⟩ := fr_ppl hMo hSc hTa hWa hCh hCo (fun i hi => F i (by omega))
            exact ⟨⟨PplR_of hn ((F 0 (by omega)).trans hD0) (H.s_health ⟨v, by omega, rfl⟩) (D.s_health (by omega)), hMo', hSc', hTa', hWa', hUs, hCh', hCo'⟩, hIm, hKe, hKu, rfl, hTr, hTn, hTg, hSh⟩
        · refine ⟨?_, ?_, ?_, ?_, ?_, ?_, ?_, ?_, ?c, ?m, ?r⟩
          case c =>
            simp only [f_X6_change, e0_has rfl (show n < 1000 by omega), bdE1, jnE]
            rw [if_pos hp, if_neg (by decide), rngA 4 (by decide), if_pos hb, if_pos (show (2 : Int32) ≤ nI 3 by decide), rngE 100 (by decide), if_neg hv, ef1]
            rfl
          case m =>
            simp only [f_X7_change, e7_isPerson hD0 (show n < 1000 by omega), bdE1, jnE]
            rw [if_pos hp, if_neg (by decide), e7_inb 4 (by decide), bdE1, b01, if_pos hb, if_pos (show (2 : Int32) ≤ nI 3 by decide), e7_inb 100 (by decide), bdE1, b01, if_neg hv, eg1]
            rfl
          case r => exact ⟨⟨hPp, hMo, hSc, hTa, hWa, hUs, hCh, hCo⟩, hIm, hKe, hKu, rfl, hTr, hTn, hTg, hSh⟩
    · refine ⟨?_, ?_, ?_, ?_, ?_, ?_, ?_, ?_, ?c, ?m, ?r⟩
      case c =>
        simp only [f_X6_change, e0_has rfl (show n < 1000 by omega), bdE1, jnE]
        rw [if_pos hp, if_neg (by decide), rngA 4 (by decide), if_neg hb, ef1]
        rfl
      case m =>
        simp only [f_X7_change, e7_isPerson hD0 (show n < 1000 by omega), bdE1, jnE]
        rw [if_pos hp, if_neg (by decide), e7_inb 4 (by decide), bdE1, b01, if_neg hb, eg1]
        rfl
      case r => exact ⟨⟨hPp, hMo, hSc, hTa, hWa, hUs, hCh, hCo⟩, hIm, hKe, hKu, rfl, hTr, hTn, hTg, hSh⟩
  · refine ⟨?_, ?_, ?_, ?_, ?_, ?_, ?_, ?_, ?c, ?m, ?r⟩
    case c =>
      simp only [f_X6_change, e0_has rfl (show n < 1000 by omega), bdE1, jnE]
      rw [if_neg hp, if_pos rfl, ef1]
      rfl
    case m =>
      simp only [f_X7_change, e7_isPerson hD0 (show n < 1000 by omega), bdE1, jnE]
      rw [if_neg hp, if_pos rfl, eg1]
      rfl
    case r => exact ⟨⟨hPp, hMo, hSc, hTa, hWa, hUs, hCh, hCo⟩, hIm, hKe, hKu, rfl, hTr, hTn, hTg, hSh⟩
