/-! plans, the step -/
def pl7 (v_d : Nat → Int32) (v_found : Nat → Int32) (v_aside : Nat → Int32) (v_names : Nat → Int32) (v_pile : Nat → Int32) (v_horn : Int32) (v_brass : Int32) (v_which : Nat → Int32) (v_whichMany : Int32) (v_bestPass : Int32) (v_bestLive : Int32) (v_bestCode : Int32) (p1 : Int32) (p2 : Int32) (t f : Int32) : Option ((Nat → Int32) × (Nat → Int32) × (Nat → Int32) × (Nat → Int32) × (Nat → Int32) × (Int32) × (Int32) × (Nat → Int32) × (Int32) × (Int32) × (Int32) × (Int32) × (Int32)) :=
  f_X7_plan_L63 t (fun (v_which_4 : Nat → Int32) (v_whichMany_5 : Int32) (l5_6 : Int32) => jnA (bd2 (f_X7_finds v_found 1) (fun v_found_7 r_8 => some (v_d, v_found_7, v_aside, v_names, v_pile, v_horn, v_brass, v_which_4, v_whichMany_5, v_bestPass, v_bestLive, v_bestCode, r_8))) (fun J160 => (if l5_6 = 0 then J160 else bd1 (f_X7_in (p2.toInt64) (-2) ((v_whichMany_5 - 1).toInt64)) (fun r_9 => (if r_9 = 0 then J160 else jnA (fun (l6_10 : Int32) => jnA (fun (v_d_11 : Nat → Int32) (v_aside_12 : Nat → Int32) (v_names_13 : Nat → Int32) (v_pile_14 : Nat → Int32) (v_horn_15 : Int32) (v_brass_16 : Int32) (v_bestPass_17 : Int32) (v_bestLive_18 : Int32) (v_bestCode_19 : Int32) => jnA (fun (l7_20 : Int32) => (if p2 = (-1) then some (v_d_11, v_found, v_aside_12, v_names_13, v_pile_14, v_horn_15, v_brass_16, v_which_4, v_whichMany_5, v_bestPass_17, v_bestLive_18, v_bestCode_19, v_bestPass_17) else (if p2 = (-2) then some (v_d_11, v_found, v_aside_12, v_names_13, v_pile_14, v_horn_15, v_brass_16, v_which_4, v_whichMany_5, v_bestPass_17, v_bestLive_18, v_bestCode_19, v_bestLive_18) else nzA l7_20 (nzA p1 (some (v_d_11, v_found, v_aside_12, v_names_13, v_pile_14, v_horn_15, v_brass_16, v_which_4, v_whichMany_5, v_bestPass_17, v_bestLive_18, v_bestCode_19, (rmI (v_bestCode_19 / l7_20) p1))))))) (fun J246 => f_X7_plan_L228 p1 p2 J246 300 l6_10 0)) (fun J221 => f_X7_plan_L201 p1 v_which_4 v_whichMany_5 l6_10 J221 300 v_d v_aside v_names v_pile v_horn v_brass v_bestPass v_bestLive (-1) 0)) (fun J193 => f_X7_plan_L172 p1 v_whichMany_5 J193 300 1 0)))))) 300 v_which 0 f 0
theorem e7_plan_cut {v_d : Nat → Int32} {v_found : Nat → Int32} {v_aside : Nat → Int32} {v_names : Nat → Int32} {v_pile : Nat → Int32} {v_horn : Int32} {v_brass : Int32} {v_which : Nat → Int32} {v_whichMany : Int32} {v_bestPass : Int32} {v_bestLive : Int32} {v_bestCode : Int32} {p0 : Int32} {p1 : Int32} {p2 : Int32} : f_X7_plan v_d v_found v_aside v_names v_pile v_horn v_brass v_which v_whichMany v_bestPass v_bestLive v_bestCode p0 p1 p2 = pl7 v_d v_found v_aside v_names v_pile v_horn v_brass v_which v_whichMany v_bestPass v_bestLive v_bestCode p1 p2 (if inb p0 64 = true ∧ p0 ≠ 0 then p0 else 0) (if (inb p0 64 = true ∧ p0 ≠ 0) ∧ (inb p1 6 = true ∧ p1 ≠ 0) ∧ p0 >>> (v_d 1 &&& 31) = 0 then 1 else 0) := by
  obtain ⟨X, hX⟩ : ∃ X : Int32 → Int32 → Option ((Nat → Int32) × (Nat → Int32) × (Nat → Int32) × (Nat → Int32) × (Nat → Int32) × (Int32) × (Int32) × (Nat → Int32) × (Int32) × (Int32) × (Int32) × (Int32) × (Int32)), X = pl7 v_d v_found v_aside v_names v_pile v_horn v_brass v_which v_whichMany v_bestPass v_bestLive v_bestCode p1 p2 := ⟨_, rfl⟩
  rw [← hX]
  have e : f_X7_plan v_d v_found v_aside v_names v_pile v_horn v_brass v_which v_whichMany v_bestPass v_bestLive v_bestCode p0 p1 p2 = bd1 (f_X7_in (p0.toInt64) 1 63) (fun r_1 => if r_1 = 0 then (if (0 : Int32) ≤ 0 then X 0 0 else bd1 (f_X7_in (p1.toInt64) 1 5) (fun r_61 => if r_61 = 0 then X 0 0 else rdA 248 v_d 1 (fun x_62 => if ((0 : Int32) >>> (x_62 &&& 31)) = 0 then X 0 1 else X 0 0))) else (if p0 ≤ 0 then X p0 0 else bd1 (f_X7_in (p1.toInt64) 1 5) (fun r_61 => if r_61 = 0 then X p0 0 else rdA 248 v_d 1 (fun x_62 => if (p0 >>> (x_62 &&& 31)) = 0 then X p0 1 else X p0 0)))) := by
    rw [hX]
    rfl
  rw [e, e7_in1 64 (by decide), bdE1, b01, e7_in1 6 (by decide), bdE1, b01, bdE1, b01, rdA_i (i := 1) (k := 1) rfl (by decide), rdA_i (i := 1) (k := 1) rfl (by decide)]
  by_cases z : inb p0 64 = true ∧ p0 ≠ 0
  · rw [if_pos z, if_pos z]
    have z0 : ¬ p0 ≤ 0 := by
      intro q
      have h1 := inb_iff.mp z.1
      rw [Int32.le_iff_toInt_le] at q
      have c0 : (0 : Int32).toInt = 0 := by decide
      exact z.2 (Int32.toInt_inj.mp (by omega))
    rw [if_neg z0]
    by_cases y : inb p1 6 = true ∧ p1 ≠ 0
    · rw [if_pos y]
      by_cases x : p0 >>> (v_d 1 &&& 31) = 0
      · rw [if_pos x, if_pos ⟨z, y, x⟩]
      · rw [if_neg x, if_neg (fun q => x q.2.2)]
    · rw [if_neg y, if_neg (fun q => y q.2.1)]
  · rw [if_neg z, if_neg z, if_pos (by decide), if_neg (fun q => z q.1)]
theorem pl7_0 {v_d : Nat → Int32} {v_found : Nat → Int32} {v_aside : Nat → Int32} {v_names : Nat → Int32} {v_pile : Nat → Int32} {v_horn : Int32} {v_brass : Int32} {v_which : Nat → Int32} {v_whichMany : Int32} {v_bestPass : Int32} {v_bestLive : Int32} {v_bestCode : Int32} {p1 : Int32} {p2 : Int32} {t : Int32} : pl7 v_d v_found v_aside v_names v_pile v_horn v_brass v_which v_whichMany v_bestPass v_bestLive v_bestCode p1 p2 t 0 = some (v_d, upd v_found 1 (v_found 1 + 1), v_aside, v_names, v_pile, v_horn, v_brass, v_which, 0, v_bestPass, v_bestLive, v_bestCode, (-1000000000) - 1) := by
  unfold pl7
  refine (e7_flag0 (fu := 299) _).trans ?_
  simp only [jnE]
  rw [if_pos trivial, eg1]
  rfl
theorem pl7_many {v_d : Nat → Int32} {v_found : Nat → Int32} {v_aside : Nat → Int32} {v_names : Nat → Int32} {v_pile : Nat → Int32} {v_horn : Int32} {v_brass : Int32} {v_which : Nat → Int32} {v_whichMany : Int32} {v_bestPass : Int32} {v_bestLive : Int32} {v_bestCode : Int32} {p1 : Int32} {p2 : Int32} {S : Nat} (hS : S < 64) (hc : 3 < cntN S 6) : ∃ wh mm, pl7 v_d v_found v_aside v_names v_pile v_horn v_brass v_which v_whichMany v_bestPass v_bestLive v_bestCode p1 p2 (nI S) 1 = some (v_d, upd v_found 1 (v_found 1 + 1), v_aside, v_names, v_pile, v_horn, v_brass, wh, mm, v_bestPass, v_bestLive, v_bestCode, (-1000000000) - 1) := by
  obtain ⟨wh, mm, e⟩ := e7_many hS hc v_which
  refine ⟨wh, mm, ?_⟩
  unfold pl7
  refine (e _).trans ?_
  simp only [jnE]
  rw [if_pos trivial, eg1]
  rfl
theorem pl7_ok {v_d : Nat → Int32} {v_found : Nat → Int32} {v_aside : Nat → Int32} {v_names : Nat → Int32} {v_pile : Nat → Int32} {v_horn : Int32} {v_brass : Int32} {v_which : Nat → Int32} {v_whichMany : Int32} {v_bestPass : Int32} {v_bestLive : Int32} {v_bestCode : Int32} {p1 : Int32} {p2 : Int32} {S : Nat} (hS : S < 64) (hc : cntN S 6 ≤ 3) : ∃ wh : Nat → Int32, (∀ q, q < cntN S 6 → wh q = nI (bitN S q)) ∧ pl7 v_d v_found v_aside v_names v_pile v_horn v_brass v_which v_whichMany v_bestPass v_bestLive v_bestCode p1 p2 (nI S) 1 = bd1 (f_X7_in (p2.toInt64) (-2) ((nI (cntN S 6) - 1).toInt64)) (fun r_9 => (if r_9 = 0 then (bd2 (f_X7_finds v_found 1) (fun v_found_7 r_8 => some (v_d, v_found_7, v_aside, v_names, v_pile, v_horn, v_brass, wh, nI (cntN S 6), v_bestPass, v_bestLive, v_bestCode, r_8))) else jnA (fun (l6_10 : Int32) => jnA (fun (v_d_11 : Nat → Int32) (v_aside_12 : Nat → Int32) (v_names_13 : Nat → Int32) (v_pile_14 : Nat → Int32) (v_horn_15 : Int32) (v_brass_16 : Int32) (v_bestPass_17 : Int32) (v_bestLive_18 : Int32) (v_bestCode_19 : Int32) => jnA (fun (l7_20 : Int32) => (if p2 = (-1) then some (v_d_11, v_found, v_aside_12, v_names_13, v_pile_14, v_horn_15, v_brass_16, wh, (nI (cntN S 6)), v_bestPass_17, v_bestLive_18, v_bestCode_19, v_bestPass_17) else (if p2 = (-2) then some (v_d_11, v_found, v_aside_12, v_names_13, v_pile_14, v_horn_15, v_brass_16, wh, (nI (cntN S 6)), v_bestPass_17, v_bestLive_18, v_bestCode_19, v_bestLive_18) else nzA l7_20 (nzA p1 (some (v_d_11, v_found, v_aside_12, v_names_13, v_pile_14, v_horn_15, v_brass_16, wh, (nI (cntN S 6)), v_bestPass_17, v_bestLive_18, v_bestCode_19, (rmI (v_bestCode_19 / l7_20) p1))))))) (fun J246 => f_X7_plan_L228 p1 p2 J246 300 l6_10 0)) (fun J221 => f_X7_plan_L201 p1 wh (nI (cntN S 6)) l6_10 J221 300 v_d v_aside v_names v_pile v_horn v_brass v_bestPass v_bestLive (-1) 0)) (fun J193 => f_X7_plan_L172 p1 (nI (cntN S 6)) J193 300 1 0))) := by
  obtain ⟨wh, e0, e⟩ := e7_which hS hc v_which
  refine ⟨wh, e0, ?_⟩
  unfold pl7
  refine (e _).trans ?_
  rw [jnE]
  exact if_neg (by decide)
set_option maxHeartbeats 1000000 in
set_option maxRecDepth 10000 in
theorem st_plan {c_now_folk_size : Int32} {c_now_folk_kind : Nat → Int32} {c_now_folk_mark : Nat → Int32} {c_now_folk_horn : Nat → Int32} {c_now_folk_brass : Nat → Int32} {c_now_folk_open : Nat → Int32} {c_now_folk_health : Nat → Int32} {c_now_motions : Int32} {c_now_quorum : Nat → Int32} {c_now_favour : Nat → Int32} {c_now_laws : Int32} {c_now_urnHorn : Int32} {c_now_urnBrass : Int32} {c_now_thread : Int32} {c_now_winter : Int32} {c_now_day : Int32} {c_now_chill_use : Int32} {c_now_chill_codes : Nat → Int32} {c_now_chill_size : Int32} {c_now_chill_stack : Nat → Int32} {c_now_cold_use : Int32} {c_now_cold_codes : Nat → Int32} {c_now_cold_size : Int32} {c_now_cold_stack : Nat → Int32} {c_now_tape : Nat → Int32} {c_now_taped : Int32} {c_now_z : Int32} {c_now_waiting : Nat → Int32} {c_now_waits : Int32} {c_kept_folk_size : Int32} {c_kept_folk_kind : Nat → Int32} {c_kept_folk_mark : Nat → Int32} {c_kept_folk_horn : Nat → Int32} {c_kept_folk_brass : Nat → Int32} {c_kept_folk_open : Nat → Int32} {c_kept_folk_health : Nat → Int32} {c_kept_motions : Int32} {c_kept_quorum : Nat → Int32} {c_kept_favour : Nat → Int32} {c_kept_laws : Int32} {c_kept_urnHorn : Int32} {c_kept_urnBrass : Int32} {c_kept_thread : Int32} {c_kept_winter : Int32} {c_kept_day : Int32} {c_kept_chill_use : Int32} {c_kept_chill_codes : Nat → Int32} {c_kept_chill_size : Int32} {c_kept_cold_use : Int32} {c_kept_cold_codes : Nat → Int32} {c_kept_cold_size : Int32} {c_kept_tape : Nat → Int32} {c_kept_taped : Int32} {c_kept_z : Int32} {c_kept_waiting : Nat → Int32} {c_kept_waits : Int32} {c_thought_size : Int32} {c_thought_kind : Nat → Int32} {c_thought_mark : Nat → Int32} {c_thought_horn : Nat → Int32} {c_thought_brass : Nat → Int32} {c_thought_open : Nat → Int32} {c_thought_health : Nat → Int32} {c_voices_traces : Nat → Int32} {c_voices_traced : Int32} {c_sh_bits : Nat → Int32} {c_sh_size : Nat → Int32} {c_sh_numbers : Nat → Nat → Int32} {c_errors : Nat → Int32} {c_images : Int32} {m_d : Nat → Int32} {m_kept : Nat → Int32} {m_images : Int32} {m_found : Nat → Int32} {m_aside : Nat → Int32} {m_names : Nat → Int32} {m_pile : Nat → Int32} {m_horn : Int32} {m_brass : Int32} {m_which : Nat → Int32} {m_whichMany : Int32} {m_bestPass : Int32} {m_bestLive : Int32} {m_bestCode : Int32} {m_traced : Nat → Int32} {m_traceMany : Int32} {m_bitsOf : Nat → Int32} {m_sizeOf : Nat → Int32} {m_number : Nat → Int32} (R : Rel c_now_folk_size c_now_folk_kind c_now_folk_mark c_now_folk_horn c_now_folk_brass c_now_folk_open c_now_folk_health c_now_motions c_now_quorum c_now_favour c_now_laws c_now_urnHorn c_now_urnBrass c_now_thread c_now_winter c_now_day c_now_chill_use c_now_chill_codes c_now_chill_size c_now_cold_use c_now_cold_codes c_now_cold_size c_now_tape c_now_taped c_now_z c_now_waiting c_now_waits c_kept_folk_size c_kept_folk_kind c_kept_folk_mark c_kept_folk_horn c_kept_folk_brass c_kept_folk_open c_kept_folk_health c_kept_motions c_kept_quorum c_kept_favour c_kept_laws c_kept_urnHorn c_kept_urnBrass c_kept_thread c_kept_winter c_kept_day c_kept_chill_use c_kept_chill_codes c_kept_chill_size c_kept_cold_use c_kept_cold_codes c_kept_cold_size c_kept_tape c_kept_taped c_kept_z c_kept_waiting c_kept_waits c_voices_traces c_voices_traced c_sh_bits c_sh_size c_sh_numbers c_errors c_images m_d m_kept m_images m_found m_traced m_traceMany m_bitsOf m_sizeOf m_number) (p0 : Int32) (p1 : Int32) (p2 : Int32) : ∃ (x_now_chill_stack : Nat → Int32) (x_now_cold_stack : Nat → Int32) (x_thought_size : Int32) (x_thought_kind : Nat → Int32) (x_thought_mark : Nat → Int32) (x_thought_horn : Nat → Int32) (x_thought_brass : Nat → Int32) (x_thought_open : Nat → Int32) (x_thought_health : Nat → Int32) (x_errors : Nat → Int32) (r : Int32) (y_d : Nat → Int32) (y_found : Nat → Int32) (y_aside : Nat → Int32) (y_names : Nat → Int32) (y_pile : Nat → Int32) (y_horn : Int32) (y_brass : Int32) (y_which : Nat → Int32) (y_whichMany : Int32) (y_bestPass : Int32) (y_bestLive : Int32) (y_bestCode : Int32), f_X6_plan c_now_folk_size c_now_folk_kind c_now_folk_mark c_now_folk_horn c_now_folk_brass c_now_folk_open c_now_folk_health c_now_motions c_now_quorum c_now_favour c_now_laws c_now_winter c_now_day c_now_chill_use c_now_chill_codes c_now_chill_size c_now_chill_stack c_now_cold_use c_now_cold_codes c_now_cold_size c_now_cold_stack c_thought_size c_thought_kind c_thought_mark c_thought_horn c_thought_brass c_thought_open c_thought_health c_errors p0 p1 p2 = some (x_now_chill_stack, x_now_cold_stack, x_thought_size, x_thought_kind, x_thought_mark, x_thought_horn, x_thought_brass, x_thought_open, x_thought_health, x_errors, r) ∧ f_X7_plan m_d m_found m_aside m_names m_pile m_horn m_brass m_which m_whichMany m_bestPass m_bestLive m_bestCode p0 p1 p2 = some (y_d, y_found, y_aside, y_names, y_pile, y_horn, y_brass, y_which, y_whichMany, y_bestPass, y_bestLive, y_bestCode, r) ∧ Rel c_now_folk_size c_now_folk_kind c_now_folk_mark c_now_folk_horn c_now_folk_brass c_now_folk_open c_now_folk_health c_now_motions c_now_quorum c_now_favour c_now_laws c_now_urnHorn c_now_urnBrass c_now_thread c_now_winter c_now_day c_now_chill_use c_now_chill_codes c_now_chill_size c_now_cold_use c_now_cold_codes c_now_cold_size c_now_tape c_now_taped c_now_z c_now_waiting c_now_waits c_kept_folk_size c_kept_folk_kind c_kept_folk_mark c_kept_folk_horn c_kept_folk_brass c_kept_folk_open c_kept_folk_health c_kept_motions c_kept_quorum c_kept_favour c_kept_laws c_kept_urnHorn c_kept_urnBrass c_kept_thread c_kept_winter c_kept_day c_kept_chill_use c_kept_chill_codes c_kept_chill_size c_kept_cold_use c_kept_cold_codes c_kept_cold_size c_kept_tape c_kept_taped c_kept_z c_kept_waiting c_kept_waits c_voices_traces c_voices_traced c_sh_bits c_sh_size c_sh_numbers x_errors c_images y_d m_kept m_images y_found m_traced m_traceMany m_bitsOf m_sizeOf m_number := by
  obtain ⟨⟨hPp, hMo, hSc, hTa, hWa, hUs, hCh, hCo⟩, hIm, hKe, hKu, hEr, hTr, hTn, hTg, hSh⟩ := R
  subst hEr
  obtain ⟨n, hn, hsz, hD0, H, D⟩ := PplR_out hPp
  subst hsz
  obtain ⟨mo, w, hmo, hlw, hL, hQ⟩ := MotR_out hMo
  subst hmo
  subst hlw
  have hmo6 : mo ≤ 6 := hL.1
  have hUs0 := hUs
  obtain ⟨hU0, hU1⟩ := hUs0
  subst hU0
  subst hU1
  obtain ⟨nc, hnc, hX, hY⟩ := TextR_0 hCh
  subst hnc
  obtain ⟨ng, hng, hX1, hY1⟩ := TextR_1 hCo
  subst hng
  have hSc0 := hSc
  obtain ⟨⟨u1, u2⟩, ⟨u3, u4⟩, ⟨u5, u6⟩, ⟨u7, u8⟩, ⟨u9, u10⟩, u11⟩ := hSc0
  obtain ⟨r1, er1⟩ := bc_some p0
  obtain ⟨tw, tw2⟩ := two8 (n := mo) (by omega)
  have tw6 : 2 ^ mo ≤ 64 := Nat.pow_le_pow_right (n := 2) (by decide) hmo6
  have hd1 : m_d 1 = nI mo := hL.2.2.1
  have c0 : (0 : Int32).toInt = 0 := by decide
  have c1 : (1 : Int32).toInt = 1 := by decide
  have cm1 : (-1 : Int32).toInt = -1 := by decide
  have cm2 : (-2 : Int32).toInt = -2 := by decide
  by_cases V : (∃ S, 0 < S ∧ S < 2 ^ mo ∧ p0 = nI S ∧ cntN S 6 ≤ 3) ∧ (inb p1 6 = true ∧ p1 ≠ 0)
  · obtain ⟨⟨S, S1, S2, rfl, S4⟩, V1⟩ := V
    have S64 : S < 64 := by omega
    obtain ⟨N, hN, rfl⟩ := inb_of V1.1 (by decide)
    have N0 : 0 < N := by
      rcases Nat.eq_zero_or_pos N with z | z
      · exact absurd (by rw [z]; rfl) V1.2
      · exact z
    have ec := cn_pc S S64
    have e1c := cn_1 S S64 S1
    obtain ⟨wh, hw, P7⟩ := pl7_ok (v_d := m_d) (v_found := c_errors) (v_aside := m_aside) (v_names := m_names) (v_pile := m_pile) (v_horn := m_horn) (v_brass := m_brass) (v_which := m_which) (v_whichMany := m_whichMany) (v_bestPass := m_bestPass) (v_bestLive := m_bestLive) (v_bestCode := m_bestCode) (p1 := nI N) (p2 := p2) S64 S4
    have cut := e7_plan_cut (v_d := m_d) (v_found := c_errors) (v_aside := m_aside) (v_names := m_names) (v_pile := m_pile) (v_horn := m_horn) (v_brass := m_brass) (v_which := m_which) (v_whichMany := m_whichMany) (v_bestPass := m_bestPass) (v_bestLive := m_bestLive) (v_bestCode := m_bestCode) (p0 := nI S) (p1 := nI N) (p2 := p2)
    have hp0 : inb (nI S) 64 = true ∧ nI S ≠ 0 := ⟨nI_bd S64 (by decide), nI_ne0 S1 (by omega)⟩
    rw [if_pos hp0, if_pos ⟨hp0, V1, by rw [hd1]; exact (cn_sh S S64 mo (by omega)).mpr S2⟩, P7] at cut
    clear P7
    have er2 := pc_bits (w := S) (by omega)
    rw [ec] at er2
    obtain ⟨c, hc⟩ : ∃ c, cntN S 6 = c := ⟨_, rfl⟩
    rw [hc] at S4 e1c hw cut er2 ec
    have in2 : f_X7_in (p2.toInt64) (-2) ((nI c - 1).toInt64) = some (if -2 ≤ p2.toInt ∧ p2.toInt ≤ (c : Int) - 1 then 1 else 0) := by
      rw [e7_in, pred_toInt (by omega), Int32.toInt_toInt64]
      have : (-2 : Int64).toInt = -2 := by decide
      rw [this]
    rw [in2, bdE1, b01] at cut
    have eS1 : ¬ nI S < 1 := nI_nlt (b := 1) (by omega) (by omega)
    have eS2 : ¬ nI (2 ^ mo) ≤ nI S := nI_ge S2 (by omega)
    have eS3 : nI c ≤ 3 := nI_le (b := 3) S4 (by decide)
    have ec2 : (nI c).toInt = c := nI_toInt (by omega)
    by_cases W : -2 ≤ p2.toInt ∧ p2.toInt ≤ (c : Int) - 1
    · rw [if_pos W] at cut
      obtain ⟨best', bw', bp', bl', bc', ts', a', b', s1, s2, tk', tm', th', tb', to', tl', as', n', p', ⟨P, L, Cb, hP, hL2, hCb, rfl, rfl, rfl, rfl, rfl⟩, e6, e7⟩ := plan_loop (which := wh) H D hn hmo6 S64 S2 hc e1c S4 hQ hD0 N0 (show N ≤ 5 by omega) hw hX hY hX1 hY1 hL u2 u4 u1 u3 u7 u9 (N ^ c) 0 300 300 0 (-1) m_bestPass m_bestLive (-1) c_thought_size m_horn m_brass c_now_chill_stack c_now_cold_stack c_thought_kind c_thought_mark c_thought_horn c_thought_brass c_thought_open c_thought_health m_aside m_names m_pile (by omega) (by have := pw_b (N := N) (c := c) (by omega) S4; omega) (by have := pw_b (N := N) (c := c) (by omega) S4; omega) (Or.inl ⟨rfl, rfl, rfl, rfl⟩)
      have sel : ∀ {α : Type} (X : Int32 → α), (if nI c = 1 then X (nI N) else if nI c = 2 then X (nI N * nI N) else X (nI N * nI N * nI N)) = X (nI (N ^ c)) := by
        intro α X
        rcases (show c = 1 ∨ c = 2 ∨ c = 3 by omega) with rfl | rfl | rfl
        · rw [if_pos (show nI 1 = (1 : Int32) from rfl), Nat.pow_one]
        · rw [if_neg (show ¬ nI 2 = (1 : Int32) by decide), if_pos (show nI 2 = (2 : Int32) from rfl), pk_mul, Nat.pow_two]
        · rw [if_neg (show ¬ nI 3 = (1 : Int32) by decide), if_neg (show ¬ nI 3 = (2 : Int32) by decide), pk_mul, pk_mul, Nat.pow_succ, Nat.pow_two]
      have C6 : ∀ X, (if p2 = (-1) then nzA 10 (some (s1, s2, ts', tk', tm', th', tb', to', tl', c_errors, (nI (10 * P + L) / 10))) else (if p2 = (-2) then nzA 10 (some (s1, s2, ts', tk', tm', th', tb', to', tl', c_errors, (rmI (nI (10 * P + L)) 10))) else bd1 (f_X6_dayInRow (nI Cb) (nI N) ((nI c - 1) - p2)) (fun r_18 => some (s1, s2, ts', tk', tm', th', tb', to', tl', c_errors, r_18)))) = X → f_X6_plan (nI n) c_now_folk_kind c_now_folk_mark c_now_folk_horn c_now_folk_brass c_now_folk_open c_now_folk_health (nI mo) c_now_quorum c_now_favour (nI w) c_now_winter c_now_day 0 c_now_chill_codes (nI nc) c_now_chill_stack 1 c_now_cold_codes (nI ng) c_now_cold_stack c_thought_size c_thought_kind c_thought_mark c_thought_horn c_thought_brass c_thought_open c_thought_health c_errors (nI S) (nI N) p2 = X := by
        intro X hX
        simp only [f_X6_plan, er2, bdE1, jnE]
        rw [tw, if_neg eS1, if_neg eS2, if_pos eS3, rngG 6 (by decide), if_pos V1, if_neg (by rw [Int32.lt_iff_toInt_lt]; omega), if_pos (by rw [Int32.lt_iff_toInt_lt]; omega)]
        refine (sel (fun t0_6 => f_X6_plan_L102 (nI n) c_now_folk_kind c_now_folk_mark c_now_folk_horn c_now_folk_brass c_now_folk_open c_now_folk_health (nI mo) c_now_quorum c_now_favour (nI w) c_now_winter c_now_day 0 c_now_chill_codes (nI nc) 1 c_now_cold_codes (nI ng) (nI S) (nI N) t0_6 (fun (v_now_chill_stack_7 : Nat → Int32) (v_now_cold_stack_8 : Nat → Int32) (v_thought_size_9 : Int32) (v_thought_kind_10 : Nat → Int32) (v_thought_mark_11 : Nat → Int32) (v_thought_horn_12 : Nat → Int32) (v_thought_brass_13 : Nat → Int32) (v_thought_open_14 : Nat → Int32) (v_thought_health_15 : Nat → Int32) (l6_16 : Int32) (l7_17 : Int32) => (if p2 = (-1) then nzA 10 (some (v_now_chill_stack_7, v_now_cold_stack_8, v_thought_size_9, v_thought_kind_10, v_thought_mark_11, v_thought_horn_12, v_thought_brass_13, v_thought_open_14, v_thought_health_15, c_errors, (l7_17 / 10))) else (if p2 = (-2) then nzA 10 (some (v_now_chill_stack_7, v_now_cold_stack_8, v_thought_size_9, v_thought_kind_10, v_thought_mark_11, v_thought_horn_12, v_thought_brass_13, v_thought_open_14, v_thought_health_15, c_errors, (rmI l7_17 10))) else bd1 (f_X6_dayInRow l6_16 (nI N) (((nI c) - 1) - p2)) (fun r_18 => some (v_now_chill_stack_7, v_now_cold_stack_8, v_thought_size_9, v_thought_kind_10, v_thought_mark_11, v_thought_horn_12, v_thought_brass_13, v_thought_open_14, v_thought_health_15, c_errors, r_18))))) 300 c_now_chill_stack c_now_cold_stack c_thought_size c_thought_kind c_thought_mark c_thought_horn c_thought_brass c_thought_open c_thought_health 0 (-1) 0)).trans ?_
        exact (e6 _).trans hX
      have pw := pw_b (N := N) (c := c) (by omega) S4
      rcases (show p2.toInt = -1 ∨ p2.toInt = -2 ∨ 0 ≤ p2.toInt by omega) with W1 | W1 | W1
      · obtain rfl : p2 = -1 := Int32.toInt_inj.mp (W1.trans cm1.symm)
        refine ⟨?_, ?_, ?_, ?_, ?_, ?_, ?_, ?_, ?_, ?_, ?_, ?_, ?_, ?_, ?_, ?_, ?_, ?_, ?_, ?_, ?_, ?_, ?_, ?c, ?q7, ?r⟩
        case c =>
          refine C6 _ ?_
          rw [if_pos rfl, nzA_k (by decide), show nI (10 * P + L) / 10 = nI ((10 * P + L) / 10) from pk_div (d := 10) (by omega) (by decide) (by decide), show (10 * P + L) / 10 = P by omega]
        case q7 =>
          rw [cut, jnE, e7_rows (by omega) S4, jnE]
          refine (e7 _).trans ?_
          rw [jnE]
          refine (e7_unitN (fu := 299) (by decide) _).trans ?_
          exact if_pos rfl
        case r => exact ⟨⟨hPp, hMo, hSc, hTa, hWa, hUs, hCh, hCo⟩, hIm, hKe, hKu, rfl, hTr, hTn, hTg, hSh⟩
      · obtain rfl : p2 = -2 := Int32.toInt_inj.mp (W1.trans cm2.symm)
        refine ⟨?_, ?_, ?_, ?_, ?_, ?_, ?_, ?_, ?_, ?_, ?_, ?_, ?_, ?_, ?_, ?_, ?_, ?_, ?_, ?_, ?_, ?_, ?_, ?c, ?q7, ?r⟩
        case c =>
          refine C6 _ ?_
          rw [if_neg (by decide), if_pos rfl, nzA_k (by decide), show rmI (nI (10 * P + L)) 10 = nI ((10 * P + L) % 10) from rm_nI (d := 10) (by omega) (by decide) (by decide), show (10 * P + L) % 10 = L by omega]
        case q7 =>
          rw [cut, jnE, e7_rows (by omega) S4, jnE]
          refine (e7 _).trans ?_
          rw [jnE]
          refine (e7_unitN (fu := 299) (by decide) _).trans ?_
          rw [if_neg (show ¬ (-2 : Int32) = -1 by decide), if_pos rfl]
        case r => exact ⟨⟨hPp, hMo, hSc, hTa, hWa, hUs, hCh, hCo⟩, hIm, hKe, hKu, rfl, hTr, hTn, hTg, hSh⟩
      · obtain ⟨t, ht, rfl⟩ := nI_of (x := p2) (by rw [Int32.lt_iff_toInt_lt]; omega)
        have et : (nI t).toInt = t := nI_toInt ht
        have htc : t < c := by omega
        have nm1 : ¬ nI t = -1 := fun q => by rw [q] at et; omega
        have nm2 : ¬ nI t = -2 := fun q => by rw [q] at et; omega
        have pwt := pw_b (N := N) (c := c - 1 - t) (by omega) (by omega)
        have pp : 0 < N ^ (c - 1 - t) := Nat.pow_pos N0
        have dv : Cb / N ^ (c - 1 - t) ≤ Cb := Nat.div_le_self _ _
        have ix : (nI c - 1) - nI t = nI (c - 1 - t) := by
          obtain ⟨c', rfl⟩ : ∃ c', c = c' + 1 := ⟨c - 1, by omega⟩
          rw [nI_pred, pk_sub (by omega)]
          rfl
        refine ⟨?_, ?_, ?_, ?_, ?_, ?_, ?_, ?_, ?_, ?_, ?_, ?_, ?_, ?_, ?_, ?_, ?_, ?_, ?_, ?_, ?_, ?_, ?_, ?c, ?q7, ?r⟩
        case c =>
          refine C6 _ ?_
          rw [if_neg nm1, if_neg nm2, ix, e6_dir (by omega) N0 (by omega) (by omega), bdE1]
        case q7 =>
          rw [cut, jnE, e7_rows (by omega) S4, jnE]
          refine (e7 _).trans ?_
          rw [jnE]
          refine (e7_unit N0 (by omega) S4 htc _).trans ?_
          rw [if_neg nm1, if_neg nm2, nzA_k (nI_ne0 pp (by omega)), nzA_k (nI_ne0 N0 (by omega)), pk_div (by omega) pp (by omega), rm_nI (by omega) N0 (by omega)]
        case r => exact ⟨⟨hPp, hMo, hSc, hTa, hWa, hUs, hCh, hCo⟩, hIm, hKe, hKu, rfl, hTr, hTn, hTg, hSh⟩
    · rw [if_neg W, eg1, bdE2] at cut
      have cl : ∀ {α : Type} (F X : α), (if p2 < -2 then F else (if p2 < nI c then X else F)) = F := by
        intro α F X
        by_cases z : p2 < -2
        · rw [if_pos z]
        · rw [if_neg z, if_neg (fun q => W (by rw [Int32.lt_iff_toInt_lt] at z q; omega))]
      refine ⟨?_, ?_, ?_, ?_, ?_, ?_, ?_, ?_, ?_, ?_, ?_, ?_, ?_, ?_, ?_, ?_, ?_, ?_, ?_, ?_, ?_, ?_, ?_, ?c, ?q7, ?r⟩
      case c =>
        simp only [f_X6_plan, er2, bdE1, jnE]
        rw [tw, if_neg eS1, if_neg eS2, if_pos eS3, rngG 6 (by decide), if_pos V1]
        refine (cl _ _).trans ?_
        rw [ef1]
        rfl
      case q7 =>
        exact cut
      case r => exact ⟨⟨hPp, hMo, hSc, hTa, hWa, hUs, hCh, hCo⟩, hIm, hKe, hKu, rfl, hTr, hTn, hTg, hSh⟩
  · have cl : ∀ {α : Type} (F X : α), (if p0 < 1 then F else (if nI (2 ^ mo) ≤ p0 then F else (if r1 ≤ 3 then (if p1 < 1 then F else (if 5 < p1 then F else X)) else F))) = F := by
      intro α F X
      by_cases z : p0 < 1
      · rw [if_pos z]
      · rw [if_neg z]
        by_cases y : nI (2 ^ mo) ≤ p0
        · rw [if_pos y]
        · rw [if_neg y]
          rw [Int32.lt_iff_toInt_lt] at z
          obtain ⟨S, hS, rfl⟩ := nI_of (x := p0) (by rw [Int32.lt_iff_toInt_lt]; omega)
          have eS : (nI S).toInt = S := nI_toInt hS
          have S2 : S < 2 ^ mo := by
            rcases Nat.lt_or_ge S (2 ^ mo) with x | x
            · exact x
            · exact absurd (nI_le x hS) y
          rw [pc_bits (by omega), cn_pc S (by omega)] at er1
          obtain rfl : nI (cntN S 6) = r1 := Option.some.inj er1
          by_cases x : nI (cntN S 6) ≤ 3
          · rw [if_pos x, rngG 6 (by decide), if_neg (fun q => V ⟨⟨S, by omega, S2, rfl, ?_⟩, q⟩)]
            rw [Int32.le_iff_toInt_le, nI_toInt (by have := pc8 S; have := cn_pc S (by omega); omega)] at x
            have c3 : (3 : Int32).toInt = 3 := by decide
            omega
          · rw [if_neg x]
    have cut := e7_plan_cut (v_d := m_d) (v_found := c_errors) (v_aside := m_aside) (v_names := m_names) (v_pile := m_pile) (v_horn := m_horn) (v_brass := m_brass) (v_which := m_which) (v_whichMany := m_whichMany) (v_bestPass := m_bestPass) (v_bestLive := m_bestLive) (v_bestCode := m_bestCode) (p0 := p0) (p1 := p1) (p2 := p2)
    by_cases fl : (inb p0 64 = true ∧ p0 ≠ 0) ∧ (inb p1 6 = true ∧ p1 ≠ 0) ∧ p0 >>> (m_d 1 &&& 31) = 0
    · obtain ⟨S, S64, rfl⟩ := inb_of fl.1.1 (by decide)
      have S1 : 0 < S := by
        rcases Nat.eq_zero_or_pos S with z | z
        · exact absurd (by rw [z]; rfl) fl.1.2
        · exact z
      have S2 : S < 2 ^ mo := by
        have h := fl.2.2
        rw [hd1] at h
        exact (cn_sh S S64 mo (by omega)).mp h
      have c4 : 3 < cntN S 6 := by
        rcases Nat.lt_or_ge 3 (cntN S 6) with x | x
        · exact x
        · exact absurd ⟨⟨S, S1, S2, rfl, x⟩, fl.2.1⟩ V
      obtain ⟨wh, mm, P7⟩ := pl7_many (v_d := m_d) (v_found := c_errors) (v_aside := m_aside) (v_names := m_names) (v_pile := m_pile) (v_horn := m_horn) (v_brass := m_brass) (v_which := m_which) (v_whichMany := m_whichMany) (v_bestPass := m_bestPass) (v_bestLive := m_bestLive) (v_bestCode := m_bestCode) (p1 := p1) (p2 := p2) S64 c4
      rw [if_pos fl.1, if_pos fl, P7] at cut
      refine ⟨?_, ?_, ?_, ?_, ?_, ?_, ?_, ?_, ?_, ?_, ?_, ?_, ?_, ?_, ?_, ?_, ?_, ?_, ?_, ?_, ?_, ?_, ?_, ?c, ?q7, ?r⟩
      case c =>
        simp only [f_X6_plan, er1, bdE1, jnE]
        rw [tw]
        refine (cl _ _).trans ?_
        rw [ef1]
        rfl
      case q7 =>
        exact cut
      case r => exact ⟨⟨hPp, hMo, hSc, hTa, hWa, hUs, hCh, hCo⟩, hIm, hKe, hKu, rfl, hTr, hTn, hTg, hSh⟩
    · rw [if_neg fl, pl7_0] at cut
      refine ⟨?_, ?_, ?_, ?_, ?_, ?_, ?_, ?_, ?_, ?_, ?_, ?_, ?_, ?_, ?_, ?_, ?_, ?_, ?_, ?_, ?_, ?_, ?_, ?c, ?q7, ?r⟩
      case c =>
        simp only [f_X6_plan, er1, bdE1, jnE]
        rw [tw]
        refine (cl _ _).trans ?_
        rw [ef1]
        rfl
      case q7 =>
        exact cut
      case r => exact ⟨⟨hPp, hMo, hSc, hTa, hWa, hUs, hCh, hCo⟩, hIm, hKe, hKu, rfl, hTr, hTn, hTg, hSh⟩
