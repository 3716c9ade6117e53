def f_X7_cutsByB (rc : (Nat → Int32) → (Int32) → (Int32) → Int32 → Int32 → Option ((Nat → Int32) × (Int32) × (Int32))) (v_traced : Nat → Int32) (v_traceMany : Int32) (v_who : Int32) (p0 : Int32) (p1 : Int32) : Option ((Nat → Int32) × (Int32) × (Int32)) :=
  (if p0 = 0 then bd2 (f_X7_ran v_traced v_traceMany 10) (fun v_traced_1 v_traceMany_2 => some (v_traced_1, v_traceMany_2, (p1 + v_who))) else (if p0 = 2 then bd2 (f_X7_ran v_traced v_traceMany 30) (fun v_traced_3 v_traceMany_4 => bd1 (f_X7_above 2) (fun r_5 => bd3 (rc v_traced_3 v_traceMany_4 v_who r_5 p1) (fun v_traced_6 v_traceMany_7 r_8 => some (v_traced_6, v_traceMany_7, (r_8 * 3))))) else bd1 (f_X7_above p0) (fun r_9 => bd3 (rc v_traced v_traceMany v_who r_9 p1) (fun v_traced_10 v_traceMany_11 r_12 => some (v_traced_10, v_traceMany_11, r_12)))))
set_option maxHeartbeats 600000 in
set_option maxRecDepth 100000 in
theorem c_X7_cutsByB (l : Launch) (D : va_G) (cI cS : ClassId) (o : Nat → Nat) (rc : (Nat → Int32) → (Int32) → (Int32) → Int32 → Int32 → Option ((Nat → Int32) × (Int32) × (Int32))) (fr lo : Nat) (hrc : ∀ (v_d : Nat → Int32) (v_kept : Nat → Int32) (v_images : Int32) (v_found : Nat → Int32) (v_aside : Nat → Int32) (v_base : Int32) (v_at : Int32) (v_size : Int32) (v_fault : Int32) (v_opened : Int32) (v_isCold : Int32) (v_names : Nat → Int32) (v_code : Nat → Int32) (v_coded : Int32) (v_pile : Nat → Int32) (v_horn : Int32) (v_brass : Int32) (v_coldAhead : Nat → Int32) (v_which : Nat → Int32) (v_whichMany : Int32) (v_bestPass : Int32) (v_bestLive : Int32) (v_bestCode : Int32) (v_traced : Nat → Int32) (v_traceMany : Int32) (v_who : Int32) (v_bitsOf : Nat → Int32) (v_sizeOf : Nat → Int32) (v_number : Nat → Int32) (v_lifted : Nat → Int32) (p0 : Int32) (p1 : Int32) (w_traced : Nat → Int32) (w_traceMany : Int32) (r_out : Int32), rc v_traced v_traceMany v_who p0 p1 = some (w_traced, w_traceMany, r_out) → MetI l D (tysX cI cS) St0 yX7_cutsBy cX7_cutsBy 3 (some .int) fr lo [.ref (o 0), .int p0, .int p1] (pcX7 o cI v_d v_kept v_images v_found v_aside v_base v_at v_size v_fault v_opened v_isCold v_names v_code v_coded v_pile v_horn v_brass v_coldAhead v_which v_whichMany v_bestPass v_bestLive v_bestCode v_traced v_traceMany v_who v_bitsOf v_sizeOf v_number v_lifted) r_out (pcX7 o cI v_d v_kept v_images v_found v_aside v_base v_at v_size v_fault v_opened v_isCold v_names v_code v_coded v_pile v_horn v_brass v_coldAhead v_which v_whichMany v_bestPass v_bestLive v_bestCode w_traced w_traceMany v_who v_bitsOf v_sizeOf v_number v_lifted)) {v_d : Nat → Int32} {v_kept : Nat → Int32} {v_images : Int32} {v_found : Nat → Int32} {v_aside : Nat → Int32} {v_base : Int32} {v_at : Int32} {v_size : Int32} {v_fault : Int32} {v_opened : Int32} {v_isCold : Int32} {v_names : Nat → Int32} {v_code : Nat → Int32} {v_coded : Int32} {v_pile : Nat → Int32} {v_horn : Int32} {v_brass : Int32} {v_coldAhead : Nat → Int32} {v_which : Nat → Int32} {v_whichMany : Int32} {v_bestPass : Int32} {v_bestLive : Int32} {v_bestCode : Int32} {v_traced : Nat → Int32} {v_traceMany : Int32} {v_who : Int32} {v_bitsOf : Nat → Int32} {v_sizeOf : Nat → Int32} {v_number : Nat → Int32} {v_lifted : Nat → Int32} {p0 : Int32} {p1 : Int32} {w_traced : Nat → Int32} {w_traceMany : Int32} {r_out : Int32} (h : f_X7_cutsByB rc v_traced v_traceMany v_who p0 p1 = some (w_traced, w_traceMany, r_out)) : MetI l D (tysX cI cS) St0 yX7_cutsBy cX7_cutsBy 3 (some .int) (fr + 1) (lo + 22) [.ref (o 0), .int p0, .int p1] (pcX7 o cI v_d v_kept v_images v_found v_aside v_base v_at v_size v_fault v_opened v_isCold v_names v_code v_coded v_pile v_horn v_brass v_coldAhead v_which v_whichMany v_bestPass v_bestLive v_bestCode v_traced v_traceMany v_who v_bitsOf v_sizeOf v_number v_lifted) r_out (pcX7 o cI v_d v_kept v_images v_found v_aside v_base v_at v_size v_fault v_opened v_isCold v_names v_code v_coded v_pile v_horn v_brass v_coldAhead v_which v_whichMany v_bestPass v_bestLive v_bestCode w_traced w_traceMany v_who v_bitsOf v_sizeOf v_number v_lifted) := by
  refine Ent.metI (by decide +kernel) (Nat.le_of_ble_eq_true rfl) ?_
  intro p e s m args below meth c A ls hx hb hr hml hown hts hlocks hA hK hSt hP hD hS hl
  have hown : s.vm.findClass RX7 = some m.cls := hown
  have S : XFix p m c cX7_cutsBy 3 s args RX7 := ⟨hx, hb, hml, hown, hts⟩
  have hl : lv_has ls 3 [(0, .ref (o 0)), (1, .int p0), (2, .int p1)] := hl
  unfold f_X7_cutsByB at h
  refine lv_iload_n hx hb dX7_cutsBy_0 rfl (lv_at hl 1 rfl) ?_
  by_cases c1_0 : p0 = 0
  · replace h := ite_t c1_0 h
    refine lv_lookup (off := 27) (tgt := 28) hx hb dX7_cutsBy_1 (by decide +kernel) (by rw [c1_0]; decide +kernel) (by decide) ?_
    refine lv_aload_n hx hb dX7_cutsBy_28 rfl (lv_at hl 0 rfl) ?_
    refine lv_bipush (v := 10) hx hb dX7_cutsBy_29 (by decide) ?_
    obtain ⟨v_traced_1, v_traceMany_2, hc31, h⟩ := bd2_s h
    refine x_selfVv (As := [.int 10]) (rest := []) St0_ok S (c_X7_ran l D cI cS o hc31) yf_X7_ran wd35_9 ⟨by show 0 + 1 ≤ (fr + 1); omega, by show 8 + (2 + 11) + 0 ≤ (lo + 22); omega⟩ hK hSt hA hP hD hS 0 rfl rfl rfl hl.1 rfl (Nat.le_of_ble_eq_true rfl) dX7_cutsBy_31 (Nat.zero_le _) (Nat.zero_le _) (fun H locs hP hD hS => ?_)
    refine lv_iload_n hx hb dX7_cutsBy_34 rfl (lv_at hl 2 rfl) ?_
    refine lv_aload_n hx hb dX7_cutsBy_35 rfl (lv_at hl 0 rfl) ?_
    refine gt_X7_282 S hK hP 0 rfl rfl dX7_cutsBy_36 ?_
    refine lv_iadd hx hb dX7_cutsBy_39 ?_
    cases h
    exact x_iret hx hb hr hlocks hK hP hD hS rfl rfl dX7_cutsBy_40
  replace h := ite_f c1_0 h
  by_cases c1_1 : p0 = 2
  · replace h := ite_t c1_1 h
    refine lv_lookup (off := 40) (tgt := 41) hx hb dX7_cutsBy_1 (by decide +kernel) (by rw [c1_1]; decide +kernel) (by decide) ?_
    refine lv_aload_n hx hb dX7_cutsBy_41 rfl (lv_at hl 0 rfl) ?_
    refine lv_bipush (v := 30) hx hb dX7_cutsBy_42 (by decide) ?_
    obtain ⟨v_traced_3, v_traceMany_4, hc44, h⟩ := bd2_s h
    refine x_selfVv (As := [.int 30]) (rest := []) St0_ok S (c_X7_ran l D cI cS o hc44) yf_X7_ran wd35_9 ⟨by show 0 + 1 ≤ (fr + 1); omega, by show 8 + (2 + 11) + 0 ≤ (lo + 22); omega⟩ hK hSt hA hP hD hS 0 rfl rfl rfl hl.1 rfl (Nat.le_of_ble_eq_true rfl) dX7_cutsBy_44 (Nat.zero_le _) (Nat.zero_le _) (fun H locs hP hD hS => ?_)
    refine lv_aload_n hx hb dX7_cutsBy_47 rfl (lv_at hl 0 rfl) ?_
    refine lv_iconst (v := 2) hx hb dX7_cutsBy_48 (by decide) ?_
    obtain ⟨r_5, hc49, h⟩ := bd1_s h
    refine x_statI (As := [.int 2]) (rest := [.ref (o 0)]) St0_ok S (c_X7_above l D cI cS o hc49) ys_X7_above wd14_0 ⟨by show 0 + 1 ≤ (fr + 1); omega, by show 8 + (1 + 11) + 0 ≤ (lo + 22); omega⟩ hK hSt hA hP hD hS rfl hl.1 rfl (Nat.le_of_ble_eq_true rfl) dX7_cutsBy_49 (Nat.zero_le _) (Nat.zero_le _) (fun H locs hP hD hS => ?_)
    refine lv_iload_n hx hb dX7_cutsBy_52 rfl (lv_at hl 2 rfl) ?_
    obtain ⟨v_traced_6, v_traceMany_7, r_8, hc53, h⟩ := bd3_s h
    refine x_selfVi (As := [.int r_5, .int p1]) (rest := []) St0_ok S (hrc _ _ _ _ _ _ _ _ _ _ _ _ _ _ _ _ _ _ _ _ _ _ _ _ _ _ _ _ _ _ _ _ _ _ _ hc53) yf_X7_cutsBy wd35_5 ⟨by show fr + 1 ≤ (fr + 1); omega, by show 8 + (3 + 11) + lo ≤ (lo + 22); omega⟩ hK hSt hA hP hD hS 0 rfl rfl rfl hl.1 rfl (Nat.le_of_ble_eq_true rfl) dX7_cutsBy_53 (Nat.zero_le _) (Nat.zero_le _) (fun H locs hP hD hS => ?_)
    refine lv_iconst (v := 3) hx hb dX7_cutsBy_56 (by decide) ?_
    refine lv_imul hx hb dX7_cutsBy_57 ?_
    cases h
    exact x_iret hx hb hr hlocks hK hP hD hS rfl rfl dX7_cutsBy_58
  replace h := ite_f c1_1 h
  refine lv_lookup (off := 58) (tgt := 59) hx hb dX7_cutsBy_1 (by decide +kernel) (by show Op.lookupswitch.offset [(0, 27), (2, 40)] 58 (p0).toInt = 58; rw [lv_osw c1_0 (by decide), lv_osw c1_1 (by decide)]; rfl) (by decide) ?_
  refine lv_aload_n hx hb dX7_cutsBy_59 rfl (lv_at hl 0 rfl) ?_
  refine lv_iload_n hx hb dX7_cutsBy_60 rfl (lv_at hl 1 rfl) ?_
  obtain ⟨r_9, hc61, h⟩ := bd1_s h
  refine x_statI (As := [.int p0]) (rest := [.ref (o 0)]) St0_ok S (c_X7_above l D cI cS o hc61) ys_X7_above wd14_0 ⟨by show 0 + 1 ≤ (fr + 1); omega, by show 8 + (1 + 11) + 0 ≤ (lo + 22); omega⟩ hK hSt hA hP hD hS rfl hl.1 rfl (Nat.le_of_ble_eq_true rfl) dX7_cutsBy_61 (Nat.zero_le _) (Nat.zero_le _) (fun H locs hP hD hS => ?_)
  refine lv_iload_n hx hb dX7_cutsBy_64 rfl (lv_at hl 2 rfl) ?_
  obtain ⟨v_traced_10, v_traceMany_11, r_12, hc65, h⟩ := bd3_s h
  refine x_selfVi (As := [.int r_9, .int p1]) (rest := []) St0_ok S (hrc _ _ _ _ _ _ _ _ _ _ _ _ _ _ _ _ _ _ _ _ _ _ _ _ _ _ _ _ _ _ _ _ _ _ _ hc65) yf_X7_cutsBy wd35_5 ⟨by show fr + 1 ≤ (fr + 1); omega, by show 8 + (3 + 11) + lo ≤ (lo + 22); omega⟩ hK hSt hA hP hD hS 0 rfl rfl rfl hl.1 rfl (Nat.le_of_ble_eq_true rfl) dX7_cutsBy_65 (Nat.zero_le _) (Nat.zero_le _) (fun H locs hP hD hS => ?_)
  cases h
  exact x_iret hx hb hr hlocks hK hP hD hS rfl rfl dX7_cutsBy_68

def f_X7_cutsBy : Nat → (Nat → Int32) → (Int32) → (Int32) → Int32 → Int32 → Option ((Nat → Int32) × (Int32) × (Int32))
  | 0, _, _, _, _, _ => none
  | k_n + 1, v_traced, v_traceMany, v_who, p0, p1 => f_X7_cutsByB (f_X7_cutsBy k_n) v_traced v_traceMany v_who p0 p1
theorem c_X7_cutsBy (l : Launch) (D : va_G) (cI cS : ClassId) (o : Nat → Nat) : ∀ (k_n : Nat), ∀ (v_d : Nat → Int32) (v_kept : Nat → Int32) (v_images : Int32) (v_found : Nat → Int32) (v_aside : Nat → Int32) (v_base : Int32) (v_at : Int32) (v_size : Int32) (v_fault : Int32) (v_opened : Int32) (v_isCold : Int32) (v_names : Nat → Int32) (v_code : Nat → Int32) (v_coded : Int32) (v_pile : Nat → Int32) (v_horn : Int32) (v_brass : Int32) (v_coldAhead : Nat → Int32) (v_which : Nat → Int32) (v_whichMany : Int32) (v_bestPass : Int32) (v_bestLive : Int32) (v_bestCode : Int32) (v_traced : Nat → Int32) (v_traceMany : Int32) (v_who : Int32) (v_bitsOf : Nat → Int32) (v_sizeOf : Nat → Int32) (v_number : Nat → Int32) (v_lifted : Nat → Int32) (p0 : Int32) (p1 : Int32) (w_traced : Nat → Int32) (w_traceMany : Int32) (r_out : Int32), f_X7_cutsBy k_n v_traced v_traceMany v_who p0 p1 = some (w_traced, w_traceMany, r_out) → MetI l D (tysX cI cS) St0 yX7_cutsBy cX7_cutsBy 3 (some .int) (1 * k_n) (22 * k_n) [.ref (o 0), .int p0, .int p1] (pcX7 o cI v_d v_kept v_images v_found v_aside v_base v_at v_size v_fault v_opened v_isCold v_names v_code v_coded v_pile v_horn v_brass v_coldAhead v_which v_whichMany v_bestPass v_bestLive v_bestCode v_traced v_traceMany v_who v_bitsOf v_sizeOf v_number v_lifted) r_out (pcX7 o cI v_d v_kept v_images v_found v_aside v_base v_at v_size v_fault v_opened v_isCold v_names v_code v_coded v_pile v_horn v_brass v_coldAhead v_which v_whichMany v_bestPass v_bestLive v_bestCode w_traced w_traceMany v_who v_bitsOf v_sizeOf v_number v_lifted) := by
  intro k_n
  induction k_n with
  | zero => intro v_d v_kept v_images v_found v_aside v_base v_at v_size v_fault v_opened v_isCold v_names v_code v_coded v_pile v_horn v_brass v_coldAhead v_which v_whichMany v_bestPass v_bestLive v_bestCode v_traced v_traceMany v_who v_bitsOf v_sizeOf v_number v_lifted p0 p1 w_traced w_traceMany r_out h; rw [f_X7_cutsBy] at h; cases h
  | succ k_n ih => intro v_d v_kept v_images v_found v_aside v_base v_at v_size v_fault v_opened v_isCold v_names v_code v_coded v_pile v_horn v_brass v_coldAhead v_which v_whichMany v_bestPass v_bestLive v_bestCode v_traced v_traceMany v_who v_bitsOf v_sizeOf v_number v_lifted p0 p1 w_traced w_traceMany r_out h; rw [f_X7_cutsBy] at h; exact c_X7_cutsByB l D cI cS o (f_X7_cutsBy k_n) (1 * k_n) (22 * k_n) ih h
def f_X7_chillsByB (rc : (Nat → Int32) → (Nat → Int32) → (Int32) → (Int32) → Int32 → Int32 → Option ((Nat → Int32) × (Int32) × (Int32))) (v_d : Nat → Int32) (v_traced : Nat → Int32) (v_traceMany : Int32) (v_who : Int32) (p0 : Int32) (p1 : Int32) : Option ((Nat → Int32) × (Int32) × (Int32)) :=
  (if p0 = 0 then bd2 (f_X7_ran v_traced v_traceMany 12) (fun v_traced_1 v_traceMany_2 => bd1 (f_X7_of v_d v_who 1) (fun r_3 => some (v_traced_1, v_traceMany_2, (p1 - r_3)))) else (if p0 = 1 then bd2 (f_X7_ran v_traced v_traceMany 20) (fun v_traced_4 v_traceMany_5 => bd1 (f_X7_above 1) (fun r_6 => bd3 (rc v_d v_traced_4 v_traceMany_5 v_who r_6 p1) (fun v_traced_7 v_traceMany_8 r_9 => some (v_traced_7, v_traceMany_8, (-r_9))))) else (if p0 = 2 then bd1 (f_X7_above p0) (fun r_10 => bd3 (rc v_d v_traced v_traceMany v_who r_10 p1) (fun v_traced_11 v_traceMany_12 r_13 => some (v_traced_11, v_traceMany_12, r_13))) else (if p0 = 3 then bd1 (f_X7_above p0) (fun r_14 => bd3 (rc v_d v_traced v_traceMany v_who r_14 p1) (fun v_traced_15 v_traceMany_16 r_17 => some (v_traced_15, v_traceMany_16, r_17))) else (if p0 = 4 then bd2 (f_X7_ran v_traced v_traceMany 50) (fun v_traced_18 v_traceMany_19 => bd1 (f_X7_above 4) (fun r_20 => bd3 (rc v_d v_traced_18 v_traceMany_19 v_who r_20 p1) (fun v_traced_21 v_traceMany_22 r_23 => some (v_traced_21, v_traceMany_22, (r_23 ^^^ v_who))))) else bd1 (f_X7_above p0) (fun r_24 => bd3 (rc v_d v_traced v_traceMany v_who r_24 p1) (fun v_traced_25 v_traceMany_26 r_27 => some (v_traced_25, v_traceMany_26, r_27))))))))
set_option maxHeartbeats 600000 in
set_option maxRecDepth 100000 in
theorem c_X7_chillsByB (l : Launch) (D : va_G) (cI cS : ClassId) (o : Nat → Nat) (rc : (Nat → Int32) → (Nat → Int32) → (Int32) → (Int32) → Int32 → Int32 → Option ((Nat → Int32) × (Int32) × (Int32))) (fr lo : Nat) (hrc : ∀ (v_d : Nat → Int32) (v_kept : Nat → Int32) (v_images : Int32) (v_found : Nat → Int32) (v_aside : Nat → Int32) (v_base : Int32) (v_at : Int32) (v_size : Int32) (v_fault : Int32) (v_opened : Int32) (v_isCold : Int32) (v_names : Nat → Int32) (v_code : Nat → Int32) (v_coded : Int32) (v_pile : Nat → Int32) (v_horn : Int32) (v_brass : Int32) (v_coldAhead : Nat → Int32) (v_which : Nat → Int32) (v_whichMany : Int32) (v_bestPass : Int32) (v_bestLive : Int32) (v_bestCode : Int32) (v_traced : Nat → Int32) (v_traceMany : Int32) (v_who : Int32) (v_bitsOf : Nat → Int32) (v_sizeOf : Nat → Int32) (v_number : Nat → Int32) (v_lifted : Nat → Int32) (p0 : Int32) (p1 : Int32) (w_traced : Nat → Int32) (w_traceMany : Int32) (r_out : Int32), rc v_d v_traced v_traceMany v_who p0 p1 = some (w_traced, w_traceMany, r_out) → MetI l D (tysX cI cS) St0 yX7_chillsBy cX7_chillsBy 3 (some .int) fr lo [.ref (o 0), .int p0, .int p1] (pcX7 o cI v_d v_kept v_images v_found v_aside v_base v_at v_size v_fault v_opened v_isCold v_names v_code v_coded v_pile v_horn v_brass v_coldAhead v_which v_whichMany v_bestPass v_bestLive v_bestCode v_traced v_traceMany v_who v_bitsOf v_sizeOf v_number v_lifted) r_out (pcX7 o cI v_d v_kept v_images v_found v_aside v_base v_at v_size v_fault v_opened v_isCold v_names v_code v_coded v_pile v_horn v_brass v_coldAhead v_which v_whichMany v_bestPass v_bestLive v_bestCode w_traced w_traceMany v_who v_bitsOf v_sizeOf v_number v_lifted)) {v_d : Nat → Int32} {v_kept : Nat → Int32} {v_images : Int32} {v_found : Nat → Int32} {v_aside : Nat → Int32} {v_base : Int32} {v_at : Int32} {v_size : Int32} {v_fault : Int32} {v_opened : Int32} {v_isCold : Int32} {v_names : Nat → Int32} {v_code : Nat → Int32} {v_coded : Int32} {v_pile : Nat → Int32} {v_horn : Int32} {v_brass : Int32} {v_coldAhead : Nat → Int32} {v_which : Nat → Int32} {v_whichMany : Int32} {v_bestPass : Int32} {v_bestLive : Int32} {v_bestCode : Int32} {v_traced : Nat → Int32} {v_traceMany : Int32} {v_who : Int32} {v_bitsOf : Nat → Int32} {v_sizeOf : Nat → Int32} {v_number : Nat → Int32} {v_lifted : Nat → Int32} {p0 : Int32} {p1 : Int32} {w_traced : Nat → Int32} {w_traceMany : Int32} {r_out : Int32} (h : f_X7_chillsByB rc v_d v_traced v_traceMany v_who p0 p1 = some (w_traced, w_traceMany, r_out)) : MetI l D (tysX cI cS) St0 yX7_chillsBy cX7_chillsBy 3 (some .int) (fr + 1) (lo + 22) [.ref (o 0), .int p0, .int p1] (pcX7 o cI v_d v_kept v_images v_found v_aside v_base v_at v_size v_fault v_opened v_isCold v_names v_code v_coded v_pile v_horn v_brass v_coldAhead v_which v_whichMany v_bestPass v_bestLive v_bestCode v_traced v_traceMany v_who v_bitsOf v_sizeOf v_number v_lifted) r_out (pcX7 o cI v_d v_kept v_images v_found v_aside v_base v_at v_size v_fault v_opened v_isCold v_names v_code v_coded v_pile v_horn v_brass v_coldAhead v_which v_whichMany v_bestPass v_bestLive v_bestCode w_traced w_traceMany v_who v_bitsOf v_sizeOf v_number v_lifted) := by
  refine Ent.metI (by decide +kernel) (Nat.le_of_ble_eq_true rfl) ?_
  intro p e s m args below meth c A ls hx hb hr hml hown hts hlocks hA hK hSt hP hD hS hl
  have hown : s.vm.findClass RX7 = some m.cls := hown
  have S : XFix p m c cX7_chillsBy 3 s args RX7 := ⟨hx, hb, hml, hown, hts⟩
  have hl : lv_has ls 3 [(0, .ref (o 0)), (1, .int p0), (2, .int p1)] := hl
  unfold f_X7_chillsByB at h
  refine lv_iload_n hx hb dX7_chillsBy_0 rfl (lv_at hl 1 rfl) ?_
  by_cases c1_0 : p0 = 0
  · replace h := ite_t c1_0 h
    refine lv_tableIn (off := 35) (tgt := 36) hx hb dX7_chillsBy_1 (by rw [c1_0]; decide) (by rw [c1_0]; decide) (by rw [c1_0]; rfl) (by decide) ?_
    refine lv_aload_n hx hb dX7_chillsBy_36 rfl (lv_at hl 0 rfl) ?_
    refine lv_bipush (v := 12) hx hb dX7_chillsBy_37 (by decide) ?_
    obtain ⟨v_traced_1, v_traceMany_2, hc39, h⟩ := bd2_s h
    refine x_selfVv (As := [.int 12]) (rest := []) St0_ok S (c_X7_ran l D cI cS o hc39) yf_X7_ran wd35_9 ⟨by show 0 + 1 ≤ (fr + 1); omega, by show 8 + (2 + 11) + 0 ≤ (lo + 22); omega⟩ hK hSt hA hP hD hS 0 rfl rfl rfl hl.1 rfl (Nat.le_of_ble_eq_true rfl) dX7_chillsBy_39 (Nat.zero_le _) (Nat.zero_le _) (fun H locs hP hD hS => ?_)
    refine lv_iload_n hx hb dX7_chillsBy_42 rfl (lv_at hl 2 rfl) ?_
    refine lv_aload_n hx hb dX7_chillsBy_43 rfl (lv_at hl 0 rfl) ?_
    refine lv_aload_n hx hb dX7_chillsBy_44 rfl (lv_at hl 0 rfl) ?_
    refine gt_X7_282 S hK hP 0 rfl rfl dX7_chillsBy_45 ?_
    refine lv_iconst (v := 1) hx hb dX7_chillsBy_48 (by decide) ?_
    obtain ⟨r_3, hc49, h⟩ := bd1_s h
    refine x_selfVi (As := [.int v_who, .int 1]) (rest := [.int p1]) St0_ok S (c_X7_of l D cI cS o hc49) yf_X7_of wd10_11 ⟨by show 0 + 1 ≤ (fr + 1); omega, by show 8 + (3 + 11) + 0 ≤ (lo + 22); omega⟩ hK hSt hA hP hD hS 0 rfl rfl rfl hl.1 rfl (Nat.le_of_ble_eq_true rfl) dX7_chillsBy_49 (Nat.zero_le _) (Nat.zero_le _) (fun H locs hP hD hS => ?_)
    refine lv_isub hx hb dX7_chillsBy_52 ?_
    cases h
    exact x_iret hx hb hr hlocks hK hP hD hS rfl rfl dX7_chillsBy_53
  replace h := ite_f c1_0 h
  by_cases c1_1 : p0 = 1
  · replace h := ite_t c1_1 h
    refine lv_tableIn (off := 53) (tgt := 54) hx hb dX7_chillsBy_1 (by rw [c1_1]; decide) (by rw [c1_1]; decide) (by rw [c1_1]; rfl) (by decide) ?_
    refine lv_aload_n hx hb dX7_chillsBy_54 rfl (lv_at hl 0 rfl) ?_
    refine lv_bipush (v := 20) hx hb dX7_chillsBy_55 (by decide) ?_
    obtain ⟨v_traced_4, v_traceMany_5, hc57, h⟩ := bd2_s h
    refine x_selfVv (As := [.int 20]) (rest := []) St0_ok S (c_X7_ran l D cI cS o hc57) yf_X7_ran wd35_9 ⟨by show 0 + 1 ≤ (fr + 1); omega, by show 8 + (2 + 11) + 0 ≤ (lo + 22); omega⟩ hK hSt hA hP hD hS 0 rfl rfl rfl hl.1 rfl (Nat.le_of_ble_eq_true rfl) dX7_chillsBy_57 (Nat.zero_le _) (Nat.zero_le _) (fun H locs hP hD hS => ?_)
    refine lv_aload_n hx hb dX7_chillsBy_60 rfl (lv_at hl 0 rfl) ?_
    refine lv_iconst (v := 1) hx hb dX7_chillsBy_61 (by decide) ?_
    obtain ⟨r_6, hc62, h⟩ := bd1_s h
    refine x_statI (As := [.int 1]) (rest := [.ref (o 0)]) St0_ok S (c_X7_above l D cI cS o hc62) ys_X7_above wd14_0 ⟨by show 0 + 1 ≤ (fr + 1); omega, by show 8 + (1 + 11) + 0 ≤ (lo + 22); omega⟩ hK hSt hA hP hD hS rfl hl.1 rfl (Nat.le_of_ble_eq_true rfl) dX7_chillsBy_62 (Nat.zero_le _) (Nat.zero_le _) (fun H locs hP hD hS => ?_)
    refine lv_iload_n hx hb dX7_chillsBy_65 rfl (lv_at hl 2 rfl) ?_
    obtain ⟨v_traced_7, v_traceMany_8, r_9, hc66, h⟩ := bd3_s h
    refine x_selfVi (As := [.int r_6, .int p1]) (rest := []) St0_ok S (hrc _ _ _ _ _ _ _ _ _ _ _ _ _ _ _ _ _ _ _ _ _ _ _ _ _ _ _ _ _ _ _ _ _ _ _ hc66) yf_X7_chillsBy wd35_17 ⟨by show fr + 1 ≤ (fr + 1); omega, by show 8 + (3 + 11) + lo ≤ (lo + 22); omega⟩ hK hSt hA hP hD hS 0 rfl rfl rfl hl.1 rfl (Nat.le_of_ble_eq_true rfl) dX7_chillsBy_66 (Nat.zero_le _) (Nat.zero_le _) (fun H locs hP hD hS => ?_)
    refine lv_ineg hx hb dX7_chillsBy_69 ?_
    cases h
    exact x_iret hx hb hr hlocks hK hP hD hS rfl rfl dX7_chillsBy_70
  replace h := ite_f c1_1 h
  by_cases c1_2 : p0 = 2
  · replace h := ite_t c1_2 h
    refine lv_tableIn (off := 91) (tgt := 92) hx hb dX7_chillsBy_1 (by rw [c1_2]; decide) (by rw [c1_2]; decide) (by rw [c1_2]; rfl) (by decide) ?_
    refine lv_aload_n hx hb dX7_chillsBy_92 rfl (lv_at hl 0 rfl) ?_
    refine lv_iload_n hx hb dX7_chillsBy_93 rfl (lv_at hl 1 rfl) ?_
    obtain ⟨r_10, hc94, h⟩ := bd1_s h
    refine x_statI (As := [.int p0]) (rest := [.ref (o 0)]) St0_ok S (c_X7_above l D cI cS o hc94) ys_X7_above wd14_0 ⟨by show 0 + 1 ≤ (fr + 1); omega, by show 8 + (1 + 11) + 0 ≤ (lo + 22); omega⟩ hK hSt hA hP hD hS rfl hl.1 rfl (Nat.le_of_ble_eq_true rfl) dX7_chillsBy_94 (Nat.zero_le _) (Nat.zero_le _) (fun H locs hP hD hS => ?_)
    refine lv_iload_n hx hb dX7_chillsBy_97 rfl (lv_at hl 2 rfl) ?_
    obtain ⟨v_traced_11, v_traceMany_12, r_13, hc98, h⟩ := bd3_s h
    refine x_selfVi (As := [.int r_10, .int p1]) (rest := []) St0_ok S (hrc _ _ _ _ _ _ _ _ _ _ _ _ _ _ _ _ _ _ _ _ _ _ _ _ _ _ _ _ _ _ _ _ _ _ _ hc98) yf_X7_chillsBy wd35_17 ⟨by show fr + 1 ≤ (fr + 1); omega, by show 8 + (3 + 11) + lo ≤ (lo + 22); omega⟩ hK hSt hA hP hD hS 0 rfl rfl rfl hl.1 rfl (Nat.le_of_ble_eq_true rfl) dX7_chillsBy_98 (Nat.zero_le _) (Nat.zero_le _) (fun H locs hP hD hS => ?_)
    cases h
    exact x_iret hx hb hr hlocks hK hP hD hS rfl rfl dX7_chillsBy_101
  replace h := ite_f c1_2 h
  by_cases c1_3 : p0 = 3
  · replace h := ite_t c1_3 h
    refine lv_tableIn (off := 91) (tgt := 92) hx hb dX7_chillsBy_1 (by rw [c1_3]; decide) (by rw [c1_3]; decide) (by rw [c1_3]; rfl) (by decide) ?_
    refine lv_aload_n hx hb dX7_chillsBy_92 rfl (lv_at hl 0 rfl) ?_
    refine lv_iload_n hx hb dX7_chillsBy_93 rfl (lv_at hl 1 rfl) ?_
    obtain ⟨r_14, hc94, h⟩ := bd1_s h
    refine x_statI (As := [.int p0]) (rest := [.ref (o 0)]) St0_ok S (c_X7_above l D cI cS o hc94) ys_X7_above wd14_0 ⟨by show 0 + 1 ≤ (fr + 1); omega, by show 8 + (1 + 11) + 0 ≤ (lo + 22); omega⟩ hK hSt hA hP hD hS rfl hl.1 rfl (Nat.le_of_ble_eq_true rfl) dX7_chillsBy_94 (Nat.zero_le _) (Nat.zero_le _) (fun H locs hP hD hS => ?_)
    refine lv_iload_n hx hb dX7_chillsBy_97 rfl (lv_at hl 2 rfl) ?_
    obtain ⟨v_traced_15, v_traceMany_16, r_17, hc98, h⟩ := bd3_s h
    refine x_selfVi (As := [.int r_14, .int p1]) (rest := []) St0_ok S (hrc _ _ _ _ _ _ _ _ _ _ _ _ _ _ _ _ _ _ _ _ _ _ _ _ _ _ _ _ _ _ _ _ _ _ _ hc98) yf_X7_chillsBy wd35_17 ⟨by show fr + 1 ≤ (fr + 1); omega, by show 8 + (3 + 11) + lo ≤ (lo + 22); omega⟩ hK hSt hA hP hD hS 0 rfl rfl rfl hl.1 rfl (Nat.le_of_ble_eq_true rfl) dX7_chillsBy_98 (Nat.zero_le _) (Nat.zero_le _) (fun H locs hP hD hS => ?_)
    cases h
    exact x_iret hx hb hr hlocks hK hP hD hS rfl rfl dX7_chillsBy_101
  replace h := ite_f c1_3 h
  by_cases c1_4 : p0 = 4
  · replace h := ite_t c1_4 h
    refine lv_tableIn (off := 70) (tgt := 71) hx hb dX7_chillsBy_1 (by rw [c1_4]; decide) (by rw [c1_4]; decide) (by rw [c1_4]; rfl) (by decide) ?_
    refine lv_aload_n hx hb dX7_chillsBy_71 rfl (lv_at hl 0 rfl) ?_
    refine lv_bipush (v := 50) hx hb dX7_chillsBy_72 (by decide) ?_
    obtain ⟨v_traced_18, v_traceMany_19, hc74, h⟩ := bd2_s h
    refine x_selfVv (As := [.int 50]) (rest := []) St0_ok S (c_X7_ran l D cI cS o hc74) yf_X7_ran wd35_9 ⟨by show 0 + 1 ≤ (fr + 1); omega, by show 8 + (2 + 11) + 0 ≤ (lo + 22); omega⟩ hK hSt hA hP hD hS 0 rfl rfl rfl hl.1 rfl (Nat.le_of_ble_eq_true rfl) dX7_chillsBy_74 (Nat.zero_le _) (Nat.zero_le _) (fun H locs hP hD hS => ?_)
    refine lv_aload_n hx hb dX7_chillsBy_77 rfl (lv_at hl 0 rfl) ?_
    refine lv_iconst (v := 4) hx hb dX7_chillsBy_78 (by decide) ?_
    obtain ⟨r_20, hc79, h⟩ := bd1_s h
    refine x_statI (As := [.int 4]) (rest := [.ref (o 0)]) St0_ok S (c_X7_above l D cI cS o hc79) ys_X7_above wd14_0 ⟨by show 0 + 1 ≤ (fr + 1); omega, by show 8 + (1 + 11) + 0 ≤ (lo + 22); omega⟩ hK hSt hA hP hD hS rfl hl.1 rfl (Nat.le_of_ble_eq_true rfl) dX7_chillsBy_79 (Nat.zero_le _) (Nat.zero_le _) (fun H locs hP hD hS => ?_)
    refine lv_iload_n hx hb dX7_chillsBy_82 rfl (lv_at hl 2 rfl) ?_
    obtain ⟨v_traced_21, v_traceMany_22, r_23, hc83, h⟩ := bd3_s h
    refine x_selfVi (As := [.int r_20, .int p1]) (rest := []) St0_ok S (hrc _ _ _ _ _ _ _ _ _ _ _ _ _ _ _ _ _ _ _ _ _ _ _ _ _ _ _ _ _ _ _ _ _ _ _ hc83) yf_X7_chillsBy wd35_17 ⟨by show fr + 1 ≤ (fr + 1); omega, by show 8 + (3 + 11) + lo ≤ (lo + 22); omega⟩ hK hSt hA hP hD hS 0 rfl rfl rfl hl.1 rfl (Nat.le_of_ble_eq_true rfl) dX7_chillsBy_83 (Nat.zero_le _) (Nat.zero_le _) (fun H locs hP hD hS => ?_)
    refine lv_aload_n hx hb dX7_chillsBy_86 rfl (lv_at hl 0 rfl) ?_
    refine gt_X7_282 S hK hP 0 rfl rfl dX7_chillsBy_87 ?_
    refine lv_ixor hx hb dX7_chillsBy_90 ?_
    cases h
    exact x_iret hx hb hr hlocks hK hP hD hS rfl rfl dX7_chillsBy_91
  replace h := ite_f c1_4 h
  refine lv_tableOut (tgt := 92) hx hb dX7_chillsBy_1 (by have n0 := lv_neT c1_0 (show ((0) : Int32).toInt = 0 by decide); have n1 := lv_neT c1_1 (show ((1) : Int32).toInt = 1 by decide); have n2 := lv_neT c1_2 (show ((2) : Int32).toInt = 2 by decide); have n3 := lv_neT c1_3 (show ((3) : Int32).toInt = 3 by decide); have n4 := lv_neT c1_4 (show ((4) : Int32).toInt = 4 by decide); omega) (by decide) ?_
  refine lv_aload_n hx hb dX7_chillsBy_92 rfl (lv_at hl 0 rfl) ?_
  refine lv_iload_n hx hb dX7_chillsBy_93 rfl (lv_at hl 1 rfl) ?_
  obtain ⟨r_24, hc94, h⟩ := bd1_s h
  refine x_statI (As := [.int p0]) (rest := [.ref (o 0)]) St0_ok S (c_X7_above l D cI cS o hc94) ys_X7_above wd14_0 ⟨by show 0 + 1 ≤ (fr + 1); omega, by show 8 + (1 + 11) + 0 ≤ (lo + 22); omega⟩ hK hSt hA hP hD hS rfl hl.1 rfl (Nat.le_of_ble_eq_true rfl) dX7_chillsBy_94 (Nat.zero_le _) (Nat.zero_le _) (fun H locs hP hD hS => ?_)
  refine lv_iload_n hx hb dX7_chillsBy_97 rfl (lv_at hl 2 rfl) ?_
  obtain ⟨v_traced_25, v_traceMany_26, r_27, hc98, h⟩ := bd3_s h
  refine x_selfVi (As := [.int r_24, .int p1]) (rest := []) St0_ok S (hrc _ _ _ _ _ _ _ _ _ _ _ _ _ _ _ _ _ _ _ _ _ _ _ _ _ _ _ _ _ _ _ _ _ _ _ hc98) yf_X7_chillsBy wd35_17 ⟨by show fr + 1 ≤ (fr + 1); omega, by show 8 + (3 + 11) + lo ≤ (lo + 22); omega⟩ hK hSt hA hP hD hS 0 rfl rfl rfl hl.1 rfl (Nat.le_of_ble_eq_true rfl) dX7_chillsBy_98 (Nat.zero_le _) (Nat.zero_le _) (fun H locs hP hD hS => ?_)
  cases h
  exact x_iret hx hb hr hlocks hK hP hD hS rfl rfl dX7_chillsBy_101

def f_X7_chillsBy : Nat → (Nat → Int32) → (Nat → Int32) → (Int32) → (Int32) → Int32 → Int32 → Option ((Nat → Int32) × (Int32) × (Int32))
  | 0, _, _, _, _, _, _ => none
  | k_n + 1, v_d, v_traced, v_traceMany, v_who, p0, p1 => f_X7_chillsByB (f_X7_chillsBy k_n) v_d v_traced v_traceMany v_who p0 p1
theorem c_X7_chillsBy (l : Launch) (D : va_G) (cI cS : ClassId) (o : Nat → Nat) : ∀ (k_n : Nat), ∀ (v_d : Nat → Int32) (v_kept : Nat → Int32) (v_images : Int32) (v_found : Nat → Int32) (v_aside : Nat → Int32) (v_base : Int32) (v_at : Int32) (v_size : Int32) (v_fault : Int32) (v_opened : Int32) (v_isCold : Int32) (v_names : Nat → Int32) (v_code : Nat → Int32) (v_coded : Int32) (v_pile : Nat → Int32) (v_horn : Int32) (v_brass : Int32) (v_coldAhead : Nat → Int32) (v_which : Nat → Int32) (v_whichMany : Int32) (v_bestPass : Int32) (v_bestLive : Int32) (v_bestCode : Int32) (v_traced : Nat → Int32) (v_traceMany : Int32) (v_who : Int32) (v_bitsOf : Nat → Int32) (v_sizeOf : Nat → Int32) (v_number : Nat → Int32) (v_lifted : Nat → Int32) (p0 : Int32) (p1 : Int32) (w_traced : Nat → Int32) (w_traceMany : Int32) (r_out : Int32), f_X7_chillsBy k_n v_d v_traced v_traceMany v_who p0 p1 = some (w_traced, w_traceMany, r_out) → MetI l D (tysX cI cS) St0 yX7_chillsBy cX7_chillsBy 3 (some .int) (1 * k_n) (22 * k_n) [.ref (o 0), .int p0, .int p1] (pcX7 o cI v_d v_kept v_images v_found v_aside v_base v_at v_size v_fault v_opened v_isCold v_names v_code v_coded v_pile v_horn v_brass v_coldAhead v_which v_whichMany v_bestPass v_bestLive v_bestCode v_traced v_traceMany v_who v_bitsOf v_sizeOf v_number v_lifted) r_out (pcX7 o cI v_d v_kept v_images v_found v_aside v_base v_at v_size v_fault v_opened v_isCold v_names v_code v_coded v_pile v_horn v_brass v_coldAhead v_which v_whichMany v_bestPass v_bestLive v_bestCode w_traced w_traceMany v_who v_bitsOf v_sizeOf v_number v_lifted) := by
  intro k_n
  induction k_n with
  | zero => intro v_d v_kept v_images v_found v_aside v_base v_at v_size v_fault v_opened v_isCold v_names v_code v_coded v_pile v_horn v_brass v_coldAhead v_which v_whichMany v_bestPass v_bestLive v_bestCode v_traced v_traceMany v_who v_bitsOf v_sizeOf v_number v_lifted p0 p1 w_traced w_traceMany r_out h; rw [f_X7_chillsBy] at h; cases h
  | succ k_n ih => intro v_d v_kept v_images v_found v_aside v_base v_at v_size v_fault v_opened v_isCold v_names v_code v_coded v_pile v_horn v_brass v_coldAhead v_which v_whichMany v_bestPass v_bestLive v_bestCode v_traced v_traceMany v_who v_bitsOf v_sizeOf v_number v_lifted p0 p1 w_traced w_traceMany r_out h; rw [f_X7_chillsBy] at h; exact c_X7_chillsByB l D cI cS o (f_X7_chillsBy k_n) (1 * k_n) (22 * k_n) ih h
def f_X7_countsByB (rc : (Nat → Int32) → (Nat → Int32) → (Int32) → (Int32) → Int32 → Int32 → Option ((Nat → Int32) × (Int32) × (Int32))) (v_d : Nat → Int32) (v_traced : Nat → Int32) (v_traceMany : Int32) (v_who : Int32) (p0 : Int32) (p1 : Int32) : Option ((Nat → Int32) × (Int32) × (Int32)) :=
  (if p0 = 0 then bd2 (f_X7_ran v_traced v_traceMany 11) (fun v_traced_1 v_traceMany_2 => bd1 (f_X7_of v_d v_who 0) (fun r_3 => bd3 (f_X7_cutsBy 4 v_traced_1 v_traceMany_2 v_who r_3 p1) (fun v_traced_4 v_traceMany_5 r_6 => some (v_traced_4, v_traceMany_5, (r_6 * 2))))) else (if p0 = 3 then bd2 (f_X7_ran v_traced v_traceMany 40) (fun v_traced_7 v_traceMany_8 => bd1 (f_X7_above 3) (fun r_9 => bd3 (rc v_d v_traced_7 v_traceMany_8 v_who r_9 p1) (fun v_traced_10 v_traceMany_11 r_12 => bd1 (f_X7_of v_d v_who 0) (fun r_13 => bd3 (f_X7_chillsBy 4 v_d v_traced_10 v_traceMany_11 v_who r_13 1) (fun v_traced_14 v_traceMany_15 r_16 => some (v_traced_14, v_traceMany_15, (r_12 - r_16))))))) else (if p0 = 6 then bd2 (f_X7_ran v_traced v_traceMany 70) (fun v_traced_17 v_traceMany_18 => bd1 (f_X7_above 6) (fun r_19 => bd3 (rc v_d v_traced_17 v_traceMany_18 v_who r_19 (p1 + 1)) (fun v_traced_20 v_traceMany_21 r_22 => some (v_traced_20, v_traceMany_21, r_22)))) else bd1 (f_X7_above p0) (fun r_23 => bd3 (rc v_d v_traced v_traceMany v_who r_23 p1) (fun v_traced_24 v_traceMany_25 r_26 => some (v_traced_24, v_traceMany_25, r_26))))))
set_option maxHeartbeats 600000 in
set_option maxRecDepth 100000 in
theorem c_X7_countsByB (l : Launch) (D : va_G) (cI cS : ClassId) (o : Nat → Nat) (rc : (Nat → Int32) → (Nat → Int32) → (Int32) → (Int32) → Int32 → Int32 → Option ((Nat → Int32) × (Int32) × (Int32))) (fr lo : Nat) (hrc : ∀ (v_d : Nat → Int32) (v_kept : Nat → Int32) (v_images : Int32) (v_found : Nat → Int32) (v_aside : Nat → Int32) (v_base : Int32) (v_at : Int32) (v_size : Int32) (v_fault : Int32) (v_opened : Int32) (v_isCold : Int32) (v_names : Nat → Int32) (v_code : Nat → Int32) (v_coded : Int32) (v_pile : Nat → Int32) (v_horn : Int32) (v_brass : Int32) (v_coldAhead : Nat → Int32) (v_which : Nat → Int32) (v_whichMany : Int32) (v_bestPass : Int32) (v_bestLive : Int32) (v_bestCode : Int32) (v_traced : Nat → Int32) (v_traceMany : Int32) (v_who : Int32) (v_bitsOf : Nat → Int32) (v_sizeOf : Nat → Int32) (v_number : Nat → Int32) (v_lifted : Nat → Int32) (p0 : Int32) (p1 : Int32) (w_traced : Nat → Int32) (w_traceMany : Int32) (r_out : Int32), rc v_d v_traced v_traceMany v_who p0 p1 = some (w_traced, w_traceMany, r_out) → MetI l D (tysX cI cS) St0 yX7_countsBy cX7_countsBy 4 (some .int) fr lo [.ref (o 0), .int p0, .int p1] (pcX7 o cI v_d v_kept v_images v_found v_aside v_base v_at v_size v_fault v_opened v_isCold v_names v_code v_coded v_pile v_horn v_brass v_coldAhead v_which v_whichMany v_bestPass v_bestLive v_bestCode v_traced v_traceMany v_who v_bitsOf v_sizeOf v_number v_lifted) r_out (pcX7 o cI v_d v_kept v_images v_found v_aside v_base v_at v_size v_fault v_opened v_isCold v_names v_code v_coded v_pile v_horn v_brass v_coldAhead v_which v_whichMany v_bestPass v_bestLive v_bestCode w_traced w_traceMany v_who v_bitsOf v_sizeOf v_number v_lifted)) {v_d : Nat → Int32} {v_kept : Nat → Int32} {v_images : Int32} {v_found : Nat → Int32} {v_aside : Nat → Int32} {v_base : Int32} {v_at : Int32} {v_size : Int32} {v_fault : Int32} {v_opened : Int32} {v_isCold : Int32} {v_names : Nat → Int32} {v_code : Nat → Int32} {v_coded : Int32} {v_pile : Nat → Int32} {v_horn : Int32} {v_brass : Int32} {v_coldAhead : Nat → Int32} {v_which : Nat → Int32} {v_whichMany : Int32} {v_bestPass : Int32} {v_bestLive : Int32} {v_bestCode : Int32} {v_traced : Nat → Int32} {v_traceMany : Int32} {v_who : Int32} {v_bitsOf : Nat → Int32} {v_sizeOf : Nat → Int32} {v_number : Nat → Int32} {v_lifted : Nat → Int32} {p0 : Int32} {p1 : Int32} {w_traced : Nat → Int32} {w_traceMany : Int32} {r_out : Int32} (h : f_X7_countsByB rc v_d v_traced v_traceMany v_who p0 p1 = some (w_traced, w_traceMany, r_out)) : MetI l D (tysX cI cS) St0 yX7_countsBy cX7_countsBy 4 (some .int) (fr + 5) (lo + 110) [.ref (o 0), .int p0, .int p1] (pcX7 o cI v_d v_kept v_images v_found v_aside v_base v_at v_size v_fault v_opened v_isCold v_names v_code v_coded v_pile v_horn v_brass v_coldAhead v_which v_whichMany v_bestPass v_bestLive v_bestCode v_traced v_traceMany v_who v_bitsOf v_sizeOf v_number v_lifted) r_out (pcX7 o cI v_d v_kept v_images v_found v_aside v_base v_at v_size v_fault v_opened v_isCold v_names v_code v_coded v_pile v_horn v_brass v_coldAhead v_which v_whichMany v_bestPass v_bestLive v_bestCode w_traced w_traceMany v_who v_bitsOf v_sizeOf v_number v_lifted) := by
  refine Ent.metI (by decide +kernel) (Nat.le_of_ble_eq_true rfl) ?_
  intro p e s m args below meth c A ls hx hb hr hml hown hts hlocks hA hK hSt hP hD hS hl
  have hown : s.vm.findClass RX7 = some m.cls := hown
  have S : XFix p m c cX7_countsBy 4 s args RX7 := ⟨hx, hb, hml, hown, hts⟩
  have hl : lv_has ls 4 [(0, .ref (o 0)), (1, .int p0), (2, .int p1)] := hl
  unfold f_X7_countsByB at h
  refine lv_iload_n hx hb dX7_countsBy_0 rfl (lv_at hl 1 rfl) ?_
  by_cases c1_0 : p0 = 0
  · replace h := ite_t c1_0 h
    refine lv_lookup (off := 35) (tgt := 36) hx hb dX7_countsBy_1 (by decide +kernel) (by rw [c1_0]; decide +kernel) (by decide) ?_
    refine lv_aload_n hx hb dX7_countsBy_36 rfl (lv_at hl 0 rfl) ?_
    refine lv_bipush (v := 11) hx hb dX7_countsBy_37 (by decide) ?_
    obtain ⟨v_traced_1, v_traceMany_2, hc39, h⟩ := bd2_s h
    refine x_selfVv (As := [.int 11]) (rest := []) St0_ok S (c_X7_ran l D cI cS o hc39) yf_X7_ran wd35_9 ⟨by show 0 + 1 ≤ (fr + 5); omega, by show 8 + (2 + 11) + 0 ≤ (lo + 110); omega⟩ hK hSt hA hP hD hS 0 rfl rfl rfl hl.1 rfl (Nat.le_of_ble_eq_true rfl) dX7_countsBy_39 (Nat.zero_le _) (Nat.zero_le _) (fun H locs hP hD hS => ?_)
    refine lv_aload_n hx hb dX7_countsBy_42 rfl (lv_at hl 0 rfl) ?_
    refine lv_aload_n hx hb dX7_countsBy_43 rfl (lv_at hl 0 rfl) ?_
    refine lv_aload_n hx hb dX7_countsBy_44 rfl (lv_at hl 0 rfl) ?_
    refine gt_X7_282 S hK hP 0 rfl rfl dX7_countsBy_45 ?_
    refine lv_iconst (v := 0) hx hb dX7_countsBy_48 (by decide) ?_
    obtain ⟨r_3, hc49, h⟩ := bd1_s h
    refine x_selfVi (As := [.int v_who, .int 0]) (rest := [.ref (o 0)]) St0_ok S (c_X7_of l D cI cS o hc49) yf_X7_of wd10_11 ⟨by show 0 + 1 ≤ (fr + 5); omega, by show 8 + (3 + 11) + 0 ≤ (lo + 110); omega⟩ hK hSt hA hP hD hS 0 rfl rfl rfl hl.1 rfl (Nat.le_of_ble_eq_true rfl) dX7_countsBy_49 (Nat.zero_le _) (Nat.zero_le _) (fun H locs hP hD hS => ?_)
    refine lv_iload_n hx hb dX7_countsBy_52 rfl (lv_at hl 2 rfl) ?_
    obtain ⟨v_traced_4, v_traceMany_5, r_6, hc53, h⟩ := bd3_s h
    refine x_selfVi (As := [.int r_3, .int p1]) (rest := []) St0_ok S (c_X7_cutsBy l D cI cS o 4 _ _ _ _ _ _ _ _ _ _ _ _ _ _ _ _ _ _ _ _ _ _ _ _ _ _ _ _ _ _ _ _ _ _ _ hc53) yf_X7_cutsBy wd35_5 ⟨by show 4 + 1 ≤ (fr + 5); omega, by show 8 + (3 + 11) + 88 ≤ (lo + 110); omega⟩ hK hSt hA hP hD hS 0 rfl rfl rfl hl.1 rfl (Nat.le_of_ble_eq_true rfl) dX7_countsBy_53 (Nat.zero_le _) (Nat.zero_le _) (fun H locs hP hD hS => ?_)
    refine lv_iconst (v := 2) hx hb dX7_countsBy_56 (by decide) ?_
    refine lv_imul hx hb dX7_countsBy_57 ?_
    cases h
    exact x_iret hx hb hr hlocks hK hP hD hS rfl rfl dX7_countsBy_58
  replace h := ite_f c1_0 h
  by_cases c1_1 : p0 = 3
  · replace h := ite_t c1_1 h
    refine lv_lookup (off := 58) (tgt := 59) hx hb dX7_countsBy_1 (by decide +kernel) (by rw [c1_1]; decide +kernel) (by decide) ?_
    refine lv_aload_n hx hb dX7_countsBy_59 rfl (lv_at hl 0 rfl) ?_
    refine lv_bipush (v := 40) hx hb dX7_countsBy_60 (by decide) ?_
    obtain ⟨v_traced_7, v_traceMany_8, hc62, h⟩ := bd2_s h
    refine x_selfVv (As := [.int 40]) (rest := []) St0_ok S (c_X7_ran l D cI cS o hc62) yf_X7_ran wd35_9 ⟨by show 0 + 1 ≤ (fr + 5); omega, by show 8 + (2 + 11) + 0 ≤ (lo + 110); omega⟩ hK hSt hA hP hD hS 0 rfl rfl rfl hl.1 rfl (Nat.le_of_ble_eq_true rfl) dX7_countsBy_62 (Nat.zero_le _) (Nat.zero_le _) (fun H locs hP hD hS => ?_)
    refine lv_aload_n hx hb dX7_countsBy_65 rfl (lv_at hl 0 rfl) ?_
    refine lv_iconst (v := 3) hx hb dX7_countsBy_66 (by decide) ?_
    obtain ⟨r_9, hc67, h⟩ := bd1_s h
    refine x_statI (As := [.int 3]) (rest := [.ref (o 0)]) St0_ok S (c_X7_above l D cI cS o hc67) ys_X7_above wd14_0 ⟨by show 0 + 1 ≤ (fr + 5); omega, by show 8 + (1 + 11) + 0 ≤ (lo + 110); omega⟩ hK hSt hA hP hD hS rfl hl.1 rfl (Nat.le_of_ble_eq_true rfl) dX7_countsBy_67 (Nat.zero_le _) (Nat.zero_le _) (fun H locs hP hD hS => ?_)
    refine lv_iload_n hx hb dX7_countsBy_70 rfl (lv_at hl 2 rfl) ?_
    obtain ⟨v_traced_10, v_traceMany_11, r_12, hc71, h⟩ := bd3_s h
    refine x_selfVi (As := [.int r_9, .int p1]) (rest := []) St0_ok S (hrc _ _ _ _ _ _ _ _ _ _ _ _ _ _ _ _ _ _ _ _ _ _ _ _ _ _ _ _ _ _ _ _ _ _ _ hc71) yf_X7_countsBy wd35_13 ⟨by show fr + 1 ≤ (fr + 5); omega, by show 8 + (4 + 11) + lo ≤ (lo + 110); omega⟩ hK hSt hA hP hD hS 0 rfl rfl rfl hl.1 rfl (Nat.le_of_ble_eq_true rfl) dX7_countsBy_71 (Nat.zero_le _) (Nat.zero_le _) (fun H locs hP hD hS => ?_)
    refine lv_istore_n (lv' := [(3, .int r_12), (0, .ref (o 0)), (1, .int p0), (2, .int p1)]) hx hb dX7_countsBy_74 rfl hl (by decide) rfl (fun ls hl => ?_)
    refine lv_iload_n hx hb dX7_countsBy_75 rfl (lv_at hl 0 rfl) ?_
    refine lv_aload_n hx hb dX7_countsBy_76 rfl (lv_at hl 1 rfl) ?_
    refine lv_aload_n hx hb dX7_countsBy_77 rfl (lv_at hl 1 rfl) ?_
    refine lv_aload_n hx hb dX7_countsBy_78 rfl (lv_at hl 1 rfl) ?_
    refine gt_X7_282 S hK hP 0 rfl rfl dX7_countsBy_79 ?_
    refine lv_iconst (v := 0) hx hb dX7_countsBy_82 (by decide) ?_
    obtain ⟨r_13, hc83, h⟩ := bd1_s h
    refine x_selfVi (As := [.int v_who, .int 0]) (rest := [.ref (o 0), .int r_12]) St0_ok S (c_X7_of l D cI cS o hc83) yf_X7_of wd10_11 ⟨by show 0 + 1 ≤ (fr + 5); omega, by show 8 + (3 + 11) + 0 ≤ (lo + 110); omega⟩ hK hSt hA hP hD hS 0 rfl rfl rfl hl.1 rfl (Nat.le_of_ble_eq_true rfl) dX7_countsBy_83 (Nat.zero_le _) (Nat.zero_le _) (fun H locs hP hD hS => ?_)
    refine lv_iconst (v := 1) hx hb dX7_countsBy_86 (by decide) ?_
    obtain ⟨v_traced_14, v_traceMany_15, r_16, hc87, h⟩ := bd3_s h
    refine x_selfVi (As := [.int r_13, .int 1]) (rest := [.int r_12]) St0_ok S (c_X7_chillsBy l D cI cS o 4 _ _ _ _ _ _ _ _ _ _ _ _ _ _ _ _ _ _ _ _ _ _ _ _ _ _ _ _ _ _ _ _ _ _ _ hc87) yf_X7_chillsBy wd35_17 ⟨by show 4 + 1 ≤ (fr + 5); omega, by show 8 + (3 + 11) + 88 ≤ (lo + 110); omega⟩ hK hSt hA hP hD hS 0 rfl rfl rfl hl.1 rfl (Nat.le_of_ble_eq_true rfl) dX7_countsBy_87 (Nat.zero_le _) (Nat.zero_le _) (fun H locs hP hD hS => ?_)
    refine lv_isub hx hb dX7_countsBy_90 ?_
    cases h
    exact x_iret hx hb hr hlocks hK hP hD hS rfl rfl dX7_countsBy_91
  replace h := ite_f c1_1 h
  by_cases c1_2 : p0 = 6
  · replace h := ite_t c1_2 h
    refine lv_lookup (off := 91) (tgt := 92) hx hb dX7_countsBy_1 (by decide +kernel) (by rw [c1_2]; decide +kernel) (by decide) ?_
    refine lv_aload_n hx hb dX7_countsBy_92 rfl (lv_at hl 0 rfl) ?_
    refine lv_bipush (v := 70) hx hb dX7_countsBy_93 (by decide) ?_
    obtain ⟨v_traced_17, v_traceMany_18, hc95, h⟩ := bd2_s h
    refine x_selfVv (As := [.int 70]) (rest := []) St0_ok S (c_X7_ran l D cI cS o hc95) yf_X7_ran wd35_9 ⟨by show 0 + 1 ≤ (fr + 5); omega, by show 8 + (2 + 11) + 0 ≤ (lo + 110); omega⟩ hK hSt hA hP hD hS 0 rfl rfl rfl hl.1 rfl (Nat.le_of_ble_eq_true rfl) dX7_countsBy_95 (Nat.zero_le _) (Nat.zero_le _) (fun H locs hP hD hS => ?_)
    refine lv_aload_n hx hb dX7_countsBy_98 rfl (lv_at hl 0 rfl) ?_
    refine lv_bipush (v := 6) hx hb dX7_countsBy_99 (by decide) ?_
    obtain ⟨r_19, hc101, h⟩ := bd1_s h
    refine x_statI (As := [.int 6]) (rest := [.ref (o 0)]) St0_ok S (c_X7_above l D cI cS o hc101) ys_X7_above wd14_0 ⟨by show 0 + 1 ≤ (fr + 5); omega, by show 8 + (1 + 11) + 0 ≤ (lo + 110); omega⟩ hK hSt hA hP hD hS rfl hl.1 rfl (Nat.le_of_ble_eq_true rfl) dX7_countsBy_101 (Nat.zero_le _) (Nat.zero_le _) (fun H locs hP hD hS => ?_)
    refine lv_iload_n hx hb dX7_countsBy_104 rfl (lv_at hl 2 rfl) ?_
    refine lv_iconst (v := 1) hx hb dX7_countsBy_105 (by decide) ?_
    refine lv_iadd hx hb dX7_countsBy_106 ?_
    obtain ⟨v_traced_20, v_traceMany_21, r_22, hc107, h⟩ := bd3_s h
    refine x_selfVi (As := [.int r_19, .int (p1 + 1)]) (rest := []) St0_ok S (hrc _ _ _ _ _ _ _ _ _ _ _ _ _ _ _ _ _ _ _ _ _ _ _ _ _ _ _ _ _ _ _ _ _ _ _ hc107) yf_X7_countsBy wd35_13 ⟨by show fr + 1 ≤ (fr + 5); omega, by show 8 + (4 + 11) + lo ≤ (lo + 110); omega⟩ hK hSt hA hP hD hS 0 rfl rfl rfl hl.1 rfl (Nat.le_of_ble_eq_true rfl) dX7_countsBy_107 (Nat.zero_le _) (Nat.zero_le _) (fun H locs hP hD hS => ?_)
    cases h
    exact x_iret hx hb hr hlocks hK hP hD hS rfl rfl dX7_countsBy_110
  replace h := ite_f c1_2 h
  refine lv_lookup (off := 110) (tgt := 111) hx hb dX7_countsBy_1 (by decide +kernel) (by show Op.lookupswitch.offset [(0, 35), (3, 58), (6, 91)] 110 (p0).toInt = 110; rw [lv_osw c1_0 (by decide), lv_osw c1_1 (by decide), lv_osw c1_2 (by decide)]; rfl) (by decide) ?_
  refine lv_aload_n hx hb dX7_countsBy_111 rfl (lv_at hl 0 rfl) ?_
  refine lv_iload_n hx hb dX7_countsBy_112 rfl (lv_at hl 1 rfl) ?_
  obtain ⟨r_23, hc113, h⟩ := bd1_s h
  refine x_statI (As := [.int p0]) (rest := [.ref (o 0)]) St0_ok S (c_X7_above l D cI cS o hc113) ys_X7_above wd14_0 ⟨by show 0 + 1 ≤ (fr + 5); omega, by show 8 + (1 + 11) + 0 ≤ (lo + 110); omega⟩ hK hSt hA hP hD hS rfl hl.1 rfl (Nat.le_of_ble_eq_true rfl) dX7_countsBy_113 (Nat.zero_le _) (Nat.zero_le _) (fun H locs hP hD hS => ?_)
  refine lv_iload_n hx hb dX7_countsBy_116 rfl (lv_at hl 2 rfl) ?_
  obtain ⟨v_traced_24, v_traceMany_25, r_26, hc117, h⟩ := bd3_s h
  refine x_selfVi (As := [.int r_23, .int p1]) (rest := []) St0_ok S (hrc _ _ _ _ _ _ _ _ _ _ _ _ _ _ _ _ _ _ _ _ _ _ _ _ _ _ _ _ _ _ _ _ _ _ _ hc117) yf_X7_countsBy wd35_13 ⟨by show fr + 1 ≤ (fr + 5); omega, by show 8 + (4 + 11) + lo ≤ (lo + 110); omega⟩ hK hSt hA hP hD hS 0 rfl rfl rfl hl.1 rfl (Nat.le_of_ble_eq_true rfl) dX7_countsBy_117 (Nat.zero_le _) (Nat.zero_le _) (fun H locs hP hD hS => ?_)
  cases h
  exact x_iret hx hb hr hlocks hK hP hD hS rfl rfl dX7_countsBy_120

def f_X7_countsBy : Nat → (Nat → Int32) → (Nat → Int32) → (Int32) → (Int32) → Int32 → Int32 → Option ((Nat → Int32) × (Int32) × (Int32))
  | 0, _, _, _, _, _, _ => none
  | k_n + 1, v_d, v_traced, v_traceMany, v_who, p0, p1 => f_X7_countsByB (f_X7_countsBy k_n) v_d v_traced v_traceMany v_who p0 p1
theorem c_X7_countsBy (l : Launch) (D : va_G) (cI cS : ClassId) (o : Nat → Nat) : ∀ (k_n : Nat), ∀ (v_d : Nat → Int32) (v_kept : Nat → Int32) (v_images : Int32) (v_found : Nat → Int32) (v_aside : Nat → Int32) (v_base : Int32) (v_at : Int32) (v_size : Int32) (v_fault : Int32) (v_opened : Int32) (v_isCold : Int32) (v_names : Nat → Int32) (v_code : Nat → Int32) (v_coded : Int32) (v_pile : Nat → Int32) (v_horn : Int32) (v_brass : Int32) (v_coldAhead : Nat → Int32) (v_which : Nat → Int32) (v_whichMany : Int32) (v_bestPass : Int32) (v_bestLive : Int32) (v_bestCode : Int32) (v_traced : Nat → Int32) (v_traceMany : Int32) (v_who : Int32) (v_bitsOf : Nat → Int32) (v_sizeOf : Nat → Int32) (v_number : Nat → Int32) (v_lifted : Nat → Int32) (p0 : Int32) (p1 : Int32) (w_traced : Nat → Int32) (w_traceMany : Int32) (r_out : Int32), f_X7_countsBy k_n v_d v_traced v_traceMany v_who p0 p1 = some (w_traced, w_traceMany, r_out) → MetI l D (tysX cI cS) St0 yX7_countsBy cX7_countsBy 4 (some .int) (5 * k_n) (110 * k_n) [.ref (o 0), .int p0, .int p1] (pcX7 o cI v_d v_kept v_images v_found v_aside v_base v_at v_size v_fault v_opened v_isCold v_names v_code v_coded v_pile v_horn v_brass v_coldAhead v_which v_whichMany v_bestPass v_bestLive v_bestCode v_traced v_traceMany v_who v_bitsOf v_sizeOf v_number v_lifted) r_out (pcX7 o cI v_d v_kept v_images v_found v_aside v_base v_at v_size v_fault v_opened v_isCold v_names v_code v_coded v_pile v_horn v_brass v_coldAhead v_which v_whichMany v_bestPass v_bestLive v_bestCode w_traced w_traceMany v_who v_bitsOf v_sizeOf v_number v_lifted) := by
  intro k_n
  induction k_n with
  | zero => intro v_d v_kept v_images v_found v_aside v_base v_at v_size v_fault v_opened v_isCold v_names v_code v_coded v_pile v_horn v_brass v_coldAhead v_which v_whichMany v_bestPass v_bestLive v_bestCode v_traced v_traceMany v_who v_bitsOf v_sizeOf v_number v_lifted p0 p1 w_traced w_traceMany r_out h; rw [f_X7_countsBy] at h; cases h
  | succ k_n ih => intro v_d v_kept v_images v_found v_aside v_base v_at v_size v_fault v_opened v_isCold v_names v_code v_coded v_pile v_horn v_brass v_coldAhead v_which v_whichMany v_bestPass v_bestLive v_bestCode v_traced v_traceMany v_who v_bitsOf v_sizeOf v_number v_lifted p0 p1 w_traced w_traceMany r_out h; rw [f_X7_countsBy] at h; exact c_X7_countsByB l D cI cS o (f_X7_countsBy k_n) (5 * k_n) (110 * k_n) ih h
def f_X7_tellsByB (rc : (Nat → Int32) → (Nat → Int32) → (Int32) → (Int32) → Int32 → Int32 → Option ((Nat → Int32) × (Int32) × (Int32))) (v_d : Nat → Int32) (v_traced : Nat → Int32) (v_traceMany : Int32) (v_who : Int32) (p0 : Int32) (p1 : Int32) : Option ((Nat → Int32) × (Int32) × (Int32)) :=
  (if p0 = 0 then bd2 (f_X7_ran v_traced v_traceMany 13) (fun v_traced_1 v_traceMany_2 => bd1 (f_X7_of v_d v_who 0) (fun r_3 => bd3 (f_X7_countsBy 4 v_d v_traced_1 v_traceMany_2 v_who r_3 p1) (fun v_traced_4 v_traceMany_5 r_6 => bd1 (f_X7_of v_d v_who 0) (fun r_7 => bd3 (f_X7_chillsBy 4 v_d v_traced_4 v_traceMany_5 v_who r_7 p1) (fun v_traced_8 v_traceMany_9 r_10 => some (v_traced_8, v_traceMany_9, (r_6 ^^^ r_10))))))) else (if p0 = 4 then bd2 (f_X7_ran v_traced v_traceMany 51) (fun v_traced_11 v_traceMany_12 => bd1 (f_X7_of v_d v_who 0) (fun r_13 => bd3 (f_X7_countsBy 4 v_d v_traced_11 v_traceMany_12 v_who r_13 p1) (fun v_traced_14 v_traceMany_15 r_16 => bd1 (f_X7_above 4) (fun r_17 => bd3 (rc v_d v_traced_14 v_traceMany_15 v_who r_17 p1) (fun v_traced_18 v_traceMany_19 r_20 => some (v_traced_18, v_traceMany_19, (r_16 - r_20))))))) else (if p0 = 5 then bd2 (f_X7_ran v_traced v_traceMany 60) (fun v_traced_21 v_traceMany_22 => bd1 (f_X7_above 5) (fun r_23 => bd3 (rc v_d v_traced_21 v_traceMany_22 v_who r_23 p1) (fun v_traced_24 v_traceMany_25 r_26 => bd1 (f_X7_of v_d v_who 0) (fun r_27 => bd3 (f_X7_cutsBy 4 v_traced_24 v_traceMany_25 v_who r_27 2) (fun v_traced_28 v_traceMany_29 r_30 => some (v_traced_28, v_traceMany_29, (r_26 - r_30))))))) else bd1 (f_X7_above p0) (fun r_31 => bd3 (rc v_d v_traced v_traceMany v_who r_31 p1) (fun v_traced_32 v_traceMany_33 r_34 => some (v_traced_32, v_traceMany_33, r_34))))))
set_option maxHeartbeats 600000 in
set_option maxRecDepth 100000 in
theorem c_X7_tellsByB (l : Launch) (D : va_G) (cI cS : ClassId) (o : Nat → Nat) (rc : (Nat → Int32) → (Nat → Int32) → (Int32) → (Int32) → Int32 → Int32 → Option ((Nat → Int32) × (Int32) × (Int32))) (fr lo : Nat) (hrc : ∀ (v_d : Nat → Int32) (v_kept : Nat → Int32) (v_images : Int32) (v_found : Nat → Int32) (v_aside : Nat → Int32) (v_base : Int32) (v_at : Int32) (v_size : Int32) (v_fault : Int32) (v_opened : Int32) (v_isCold : Int32) (v_names : Nat → Int32) (v_code : Nat → Int32) (v_coded : Int32) (v_pile : Nat → Int32) (v_horn : Int32) (v_brass : Int32) (v_coldAhead : Nat → Int32) (v_which : Nat → Int32) (v_whichMany : Int32) (v_bestPass : Int32) (v_bestLive : Int32) (v_bestCode : Int32) (v_traced : Nat → Int32) (v_traceMany : Int32) (v_who : Int32) (v_bitsOf : Nat → Int32) (v_sizeOf : Nat → Int32) (v_number : Nat → Int32) (v_lifted : Nat → Int32) (p0 : Int32) (p1 : Int32) (w_traced : Nat → Int32) (w_traceMany : Int32) (r_out : Int32), rc v_d v_traced v_traceMany v_who p0 p1 = some (w_traced, w_traceMany, r_out) → MetI l D (tysX cI cS) St0 yX7_tellsBy cX7_tellsBy 4 (some .int) fr lo [.ref (o 0), .int p0, .int p1] (pcX7 o cI v_d v_kept v_images v_found v_aside v_base v_at v_size v_fault v_opened v_isCold v_names v_code v_coded v_pile v_horn v_brass v_coldAhead v_which v_whichMany v_bestPass v_bestLive v_bestCode v_traced v_traceMany v_who v_bitsOf v_sizeOf v_number v_lifted) r_out (pcX7 o cI v_d v_kept v_images v_found v_aside v_base v_at v_size v_fault v_opened v_isCold v_names v_code v_coded v_pile v_horn v_brass v_coldAhead v_which v_whichMany v_bestPass v_bestLive v_bestCode w_traced w_traceMany v_who v_bitsOf v_sizeOf v_number v_lifted)) {v_d : Nat → Int32} {v_kept : Nat → Int32} {v_images : Int32} {v_found : Nat → Int32} {v_aside : Nat → Int32} {v_base : Int32} {v_at : Int32} {v_size : Int32} {v_fault : Int32} {v_opened : Int32} {v_isCold : Int32} {v_names : Nat → Int32} {v_code : Nat → Int32} {v_coded : Int32} {v_pile : Nat → Int32} {v_horn : Int32} {v_brass : Int32} {v_coldAhead : Nat → Int32} {v_which : Nat → Int32} {v_whichMany : Int32} {v_bestPass : Int32} {v_bestLive : Int32} {v_bestCode : Int32} {v_traced : Nat → Int32} {v_traceMany : Int32} {v_who : Int32} {v_bitsOf : Nat → Int32} {v_sizeOf : Nat → Int32} {v_number : Nat → Int32} {v_lifted : Nat → Int32} {p0 : Int32} {p1 : Int32} {w_traced : Nat → Int32} {w_traceMany : Int32} {r_out : Int32} (h : f_X7_tellsByB rc v_d v_traced v_traceMany v_who p0 p1 = some (w_traced, w_traceMany, r_out)) : MetI l D (tysX cI cS) St0 yX7_tellsBy cX7_tellsBy 4 (some .int) (fr + 21) (lo + 463) [.ref (o 0), .int p0, .int p1] (pcX7 o cI v_d v_kept v_images v_found v_aside v_base v_at v_size v_fault v_opened v_isCold v_names v_code v_coded v_pile v_horn v_brass v_coldAhead v_which v_whichMany v_bestPass v_bestLive v_bestCode v_traced v_traceMany v_who v_bitsOf v_sizeOf v_number v_lifted) r_out (pcX7 o cI v_d v_kept v_images v_found v_aside v_base v_at v_size v_fault v_opened v_isCold v_names v_code v_coded v_pile v_horn v_brass v_coldAhead v_which v_whichMany v_bestPass v_bestLive v_bestCode w_traced w_traceMany v_who v_bitsOf v_sizeOf v_number v_lifted) := by
  refine Ent.metI (by decide +kernel) (Nat.le_of_ble_eq_true rfl) ?_
  intro p e s m args below meth c A ls hx hb hr hml hown hts hlocks hA hK hSt hP hD hS hl
  have hown : s.vm.findClass RX7 = some m.cls := hown
  have S : XFix p m c cX7_tellsBy 4 s args RX7 := ⟨hx, hb, hml, hown, hts⟩
  have hl : lv_has ls 4 [(0, .ref (o 0)), (1, .int p0), (2, .int p1)] := hl
  unfold f_X7_tellsByB at h
  refine lv_iconst (v := 0) hx hb dX7_tellsBy_0 (by decide) ?_
  refine lv_istore_n (lv' := [(3, .int 0), (0, .ref (o 0)), (1, .int p0), (2, .int p1)]) hx hb dX7_tellsBy_1 rfl hl (by decide) rfl (fun ls hl => ?_)
  refine lv_iload_n hx hb dX7_tellsBy_2 rfl (lv_at hl 2 rfl) ?_
  by_cases c3_0 : p0 = 0
  · replace h := ite_t c3_0 h
    refine lv_lookup (off := 33) (tgt := 36) hx hb dX7_tellsBy_3 (by decide +kernel) (by rw [c3_0]; decide +kernel) (by decide) ?_
    refine lv_aload_n hx hb dX7_tellsBy_36 rfl (lv_at hl 1 rfl) ?_
    refine lv_bipush (v := 13) hx hb dX7_tellsBy_37 (by decide) ?_
    obtain ⟨v_traced_1, v_traceMany_2, hc39, h⟩ := bd2_s h
    refine x_selfVv (As := [.int 13]) (rest := []) St0_ok S (c_X7_ran l D cI cS o hc39) yf_X7_ran wd35_9 ⟨by show 0 + 1 ≤ (fr + 21); omega, by show 8 + (2 + 11) + 0 ≤ (lo + 463); omega⟩ hK hSt hA hP hD hS 0 rfl rfl rfl hl.1 rfl (Nat.le_of_ble_eq_true rfl) dX7_tellsBy_39 (Nat.zero_le _) (Nat.zero_le _) (fun H locs hP hD hS => ?_)
    refine lv_aload_n hx hb dX7_tellsBy_42 rfl (lv_at hl 1 rfl) ?_
    refine lv_aload_n hx hb dX7_tellsBy_43 rfl (lv_at hl 1 rfl) ?_
    refine lv_aload_n hx hb dX7_tellsBy_44 rfl (lv_at hl 1 rfl) ?_
    refine gt_X7_282 S hK hP 0 rfl rfl dX7_tellsBy_45 ?_
    refine lv_iconst (v := 0) hx hb dX7_tellsBy_48 (by decide) ?_
    obtain ⟨r_3, hc49, h⟩ := bd1_s h
    refine x_selfVi (As := [.int v_who, .int 0]) (rest := [.ref (o 0)]) St0_ok S (c_X7_of l D cI cS o hc49) yf_X7_of wd10_11 ⟨by show 0 + 1 ≤ (fr + 21); omega, by show 8 + (3 + 11) + 0 ≤ (lo + 463); omega⟩ hK hSt hA hP hD hS 0 rfl rfl rfl hl.1 rfl (Nat.le_of_ble_eq_true rfl) dX7_tellsBy_49 (Nat.zero_le _) (Nat.zero_le _) (fun H locs hP hD hS => ?_)
    refine lv_iload_n hx hb dX7_tellsBy_52 rfl (lv_at hl 3 rfl) ?_
    obtain ⟨v_traced_4, v_traceMany_5, r_6, hc53, h⟩ := bd3_s h
    refine x_selfVi (As := [.int r_3, .int p1]) (rest := []) St0_ok S (c_X7_countsBy l D cI cS o 4 _ _ _ _ _ _ _ _ _ _ _ _ _ _ _ _ _ _ _ _ _ _ _ _ _ _ _ _ _ _ _ _ _ _ _ hc53) yf_X7_countsBy wd35_13 ⟨by show 20 + 1 ≤ (fr + 21); omega, by show 8 + (4 + 11) + 440 ≤ (lo + 463); omega⟩ hK hSt hA hP hD hS 0 rfl rfl rfl hl.1 rfl (Nat.le_of_ble_eq_true rfl) dX7_tellsBy_53 (Nat.zero_le _) (Nat.zero_le _) (fun H locs hP hD hS => ?_)
    refine lv_istore_n (lv' := [(3, .int r_6), (0, .ref (o 0)), (1, .int p0), (2, .int p1)]) hx hb dX7_tellsBy_56 rfl hl (by decide) rfl (fun ls hl => ?_)
    refine lv_iload_n hx hb dX7_tellsBy_57 rfl (lv_at hl 0 rfl) ?_
    refine lv_aload_n hx hb dX7_tellsBy_58 rfl (lv_at hl 1 rfl) ?_
    refine lv_aload_n hx hb dX7_tellsBy_59 rfl (lv_at hl 1 rfl) ?_
    refine lv_aload_n hx hb dX7_tellsBy_60 rfl (lv_at hl 1 rfl) ?_
    refine gt_X7_282 S hK hP 0 rfl rfl dX7_tellsBy_61 ?_
    refine lv_iconst (v := 0) hx hb dX7_tellsBy_64 (by decide) ?_
    obtain ⟨r_7, hc65, h⟩ := bd1_s h
    refine x_selfVi (As := [.int v_who, .int 0]) (rest := [.ref (o 0), .int r_6]) St0_ok S (c_X7_of l D cI cS o hc65) yf_X7_of wd10_11 ⟨by show 0 + 1 ≤ (fr + 21); omega, by show 8 + (3 + 11) + 0 ≤ (lo + 463); omega⟩ hK hSt hA hP hD hS 0 rfl rfl rfl hl.1 rfl (Nat.le_of_ble_eq_true rfl) dX7_tellsBy_65 (Nat.zero_le _) (Nat.zero_le _) (fun H locs hP hD hS => ?_)
    refine lv_iload_n hx hb dX7_tellsBy_68 rfl (lv_at hl 3 rfl) ?_
    obtain ⟨v_traced_8, v_traceMany_9, r_10, hc69, h⟩ := bd3_s h
    refine x_selfVi (As := [.int r_7, .int p1]) (rest := [.int r_6]) St0_ok S (c_X7_chillsBy l D cI cS o 4 _ _ _ _ _ _ _ _ _ _ _ _ _ _ _ _ _ _ _ _ _ _ _ _ _ _ _ _ _ _ _ _ _ _ _ hc69) yf_X7_chillsBy wd35_17 ⟨by show 4 + 1 ≤ (fr + 21); omega, by show 8 + (3 + 11) + 88 ≤ (lo + 463); omega⟩ hK hSt hA hP hD hS 0 rfl rfl rfl hl.1 rfl (Nat.le_of_ble_eq_true rfl) dX7_tellsBy_69 (Nat.zero_le _) (Nat.zero_le _) (fun H locs hP hD hS => ?_)
    refine lv_ixor hx hb dX7_tellsBy_72 ?_
    cases h
    exact x_iret hx hb hr hlocks hK hP hD hS rfl rfl dX7_tellsBy_73
  replace h := ite_f c3_0 h
  by_cases c3_1 : p0 = 4
  · replace h := ite_t c3_1 h
    refine lv_lookup (off := 71) (tgt := 74) hx hb dX7_tellsBy_3 (by decide +kernel) (by rw [c3_1]; decide +kernel) (by decide) ?_
    refine lv_aload_n hx hb dX7_tellsBy_74 rfl (lv_at hl 1 rfl) ?_
    refine lv_bipush (v := 51) hx hb dX7_tellsBy_75 (by decide) ?_
    obtain ⟨v_traced_11, v_traceMany_12, hc77, h⟩ := bd2_s h
    refine x_selfVv (As := [.int 51]) (rest := []) St0_ok S (c_X7_ran l D cI cS o hc77) yf_X7_ran wd35_9 ⟨by show 0 + 1 ≤ (fr + 21); omega, by show 8 + (2 + 11) + 0 ≤ (lo + 463); omega⟩ hK hSt hA hP hD hS 0 rfl rfl rfl hl.1 rfl (Nat.le_of_ble_eq_true rfl) dX7_tellsBy_77 (Nat.zero_le _) (Nat.zero_le _) (fun H locs hP hD hS => ?_)
    refine lv_aload_n hx hb dX7_tellsBy_80 rfl (lv_at hl 1 rfl) ?_
    refine lv_aload_n hx hb dX7_tellsBy_81 rfl (lv_at hl 1 rfl) ?_
    refine lv_aload_n hx hb dX7_tellsBy_82 rfl (lv_at hl 1 rfl) ?_
    refine gt_X7_282 S hK hP 0 rfl rfl dX7_tellsBy_83 ?_
    refine lv_iconst (v := 0) hx hb dX7_tellsBy_86 (by decide) ?_
    obtain ⟨r_13, hc87, h⟩ := bd1_s h
    refine x_selfVi (As := [.int v_who, .int 0]) (rest := [.ref (o 0)]) St0_ok S (c_X7_of l D cI cS o hc87) yf_X7_of wd10_11 ⟨by show 0 + 1 ≤ (fr + 21); omega, by show 8 + (3 + 11) + 0 ≤ (lo + 463); omega⟩ hK hSt hA hP hD hS 0 rfl rfl rfl hl.1 rfl (Nat.le_of_ble_eq_true rfl) dX7_tellsBy_87 (Nat.zero_le _) (Nat.zero_le _) (fun H locs hP hD hS => ?_)
    refine lv_iload_n hx hb dX7_tellsBy_90 rfl (lv_at hl 3 rfl) ?_
    obtain ⟨v_traced_14, v_traceMany_15, r_16, hc91, h⟩ := bd3_s h
    refine x_selfVi (As := [.int r_13, .int p1]) (rest := []) St0_ok S (c_X7_countsBy l D cI cS o 4 _ _ _ _ _ _ _ _ _ _ _ _ _ _ _ _ _ _ _ _ _ _ _ _ _ _ _ _ _ _ _ _ _ _ _ hc91) yf_X7_countsBy wd35_13 ⟨by show 20 + 1 ≤ (fr + 21); omega, by show 8 + (4 + 11) + 440 ≤ (lo + 463); omega⟩ hK hSt hA hP hD hS 0 rfl rfl rfl hl.1 rfl (Nat.le_of_ble_eq_true rfl) dX7_tellsBy_91 (Nat.zero_le _) (Nat.zero_le _) (fun H locs hP hD hS => ?_)
    refine lv_istore_n (lv' := [(3, .int r_16), (0, .ref (o 0)), (1, .int p0), (2, .int p1)]) hx hb dX7_tellsBy_94 rfl hl (by decide) rfl (fun ls hl => ?_)
    refine lv_iload_n hx hb dX7_tellsBy_95 rfl (lv_at hl 0 rfl) ?_
    refine lv_aload_n hx hb dX7_tellsBy_96 rfl (lv_at hl 1 rfl) ?_
    refine lv_iconst (v := 4) hx hb dX7_tellsBy_97 (by decide) ?_
    obtain ⟨r_17, hc98, h⟩ := bd1_s h
    refine x_statI (As := [.int 4]) (rest := [.ref (o 0), .int r_16]) St0_ok S (c_X7_above l D cI cS o hc98) ys_X7_above wd14_0 ⟨by show 0 + 1 ≤ (fr + 21); omega, by show 8 + (1 + 11) + 0 ≤ (lo + 463); omega⟩ hK hSt hA hP hD hS rfl hl.1 rfl (Nat.le_of_ble_eq_true rfl) dX7_tellsBy_98 (Nat.zero_le _) (Nat.zero_le _) (fun H locs hP hD hS => ?_)
    refine lv_iload_n hx hb dX7_tellsBy_101 rfl (lv_at hl 3 rfl) ?_
    obtain ⟨v_traced_18, v_traceMany_19, r_20, hc102, h⟩ := bd3_s h
    refine x_selfVi (As := [.int r_17, .int p1]) (rest := [.int r_16]) St0_ok S (hrc _ _ _ _ _ _ _ _ _ _ _ _ _ _ _ _ _ _ _ _ _ _ _ _ _ _ _ _ _ _ _ _ _ _ _ hc102) yf_X7_tellsBy wd35_21 ⟨by show fr + 1 ≤ (fr + 21); omega, by show 8 + (4 + 11) + lo ≤ (lo + 463); omega⟩ hK hSt hA hP hD hS 0 rfl rfl rfl hl.1 rfl (Nat.le_of_ble_eq_true rfl) dX7_tellsBy_102 (Nat.zero_le _) (Nat.zero_le _) (fun H locs hP hD hS => ?_)
    refine lv_isub hx hb dX7_tellsBy_105 ?_
    cases h
    exact x_iret hx hb hr hlocks hK hP hD hS rfl rfl dX7_tellsBy_106
  replace h := ite_f c3_1 h
  by_cases c3_2 : p0 = 5
  · replace h := ite_t c3_2 h
    refine lv_lookup (off := 104) (tgt := 107) hx hb dX7_tellsBy_3 (by decide +kernel) (by rw [c3_2]; decide +kernel) (by decide) ?_
    refine lv_aload_n hx hb dX7_tellsBy_107 rfl (lv_at hl 1 rfl) ?_
    refine lv_bipush (v := 60) hx hb dX7_tellsBy_108 (by decide) ?_
    obtain ⟨v_traced_21, v_traceMany_22, hc110, h⟩ := bd2_s h
    refine x_selfVv (As := [.int 60]) (rest := []) St0_ok S (c_X7_ran l D cI cS o hc110) yf_X7_ran wd35_9 ⟨by show 0 + 1 ≤ (fr + 21); omega, by show 8 + (2 + 11) + 0 ≤ (lo + 463); omega⟩ hK hSt hA hP hD hS 0 rfl rfl rfl hl.1 rfl (Nat.le_of_ble_eq_true rfl) dX7_tellsBy_110 (Nat.zero_le _) (Nat.zero_le _) (fun H locs hP hD hS => ?_)
    refine lv_aload_n hx hb dX7_tellsBy_113 rfl (lv_at hl 1 rfl) ?_
    refine lv_iconst (v := 5) hx hb dX7_tellsBy_114 (by decide) ?_
    obtain ⟨r_23, hc115, h⟩ := bd1_s h
    refine x_statI (As := [.int 5]) (rest := [.ref (o 0)]) St0_ok S (c_X7_above l D cI cS o hc115) ys_X7_above wd14_0 ⟨by show 0 + 1 ≤ (fr + 21); omega, by show 8 + (1 + 11) + 0 ≤ (lo + 463); omega⟩ hK hSt hA hP hD hS rfl hl.1 rfl (Nat.le_of_ble_eq_true rfl) dX7_tellsBy_115 (Nat.zero_le _) (Nat.zero_le _) (fun H locs hP hD hS => ?_)
    refine lv_iload_n hx hb dX7_tellsBy_118 rfl (lv_at hl 3 rfl) ?_
    obtain ⟨v_traced_24, v_traceMany_25, r_26, hc119, h⟩ := bd3_s h
    refine x_selfVi (As := [.int r_23, .int p1]) (rest := []) St0_ok S (hrc _ _ _ _ _ _ _ _ _ _ _ _ _ _ _ _ _ _ _ _ _ _ _ _ _ _ _ _ _ _ _ _ _ _ _ hc119) yf_X7_tellsBy wd35_21 ⟨by show fr + 1 ≤ (fr + 21); omega, by show 8 + (4 + 11) + lo ≤ (lo + 463); omega⟩ hK hSt hA hP hD hS 0 rfl rfl rfl hl.1 rfl (Nat.le_of_ble_eq_true rfl) dX7_tellsBy_119 (Nat.zero_le _) (Nat.zero_le _) (fun H locs hP hD hS => ?_)
    refine lv_istore_n (lv' := [(3, .int r_26), (0, .ref (o 0)), (1, .int p0), (2, .int p1)]) hx hb dX7_tellsBy_122 rfl hl (by decide) rfl (fun ls hl => ?_)
    refine lv_iload_n hx hb dX7_tellsBy_123 rfl (lv_at hl 0 rfl) ?_
    refine lv_aload_n hx hb dX7_tellsBy_124 rfl (lv_at hl 1 rfl) ?_
    refine lv_aload_n hx hb dX7_tellsBy_125 rfl (lv_at hl 1 rfl) ?_
    refine lv_aload_n hx hb dX7_tellsBy_126 rfl (lv_at hl 1 rfl) ?_
    refine gt_X7_282 S hK hP 0 rfl rfl dX7_tellsBy_127 ?_
    refine lv_iconst (v := 0) hx hb dX7_tellsBy_130 (by decide) ?_
    obtain ⟨r_27, hc131, h⟩ := bd1_s h
    refine x_selfVi (As := [.int v_who, .int 0]) (rest := [.ref (o 0), .int r_26]) St0_ok S (c_X7_of l D cI cS o hc131) yf_X7_of wd10_11 ⟨by show 0 + 1 ≤ (fr + 21); omega, by show 8 + (3 + 11) + 0 ≤ (lo + 463); omega⟩ hK hSt hA hP hD hS 0 rfl rfl rfl hl.1 rfl (Nat.le_of_ble_eq_true rfl) dX7_tellsBy_131 (Nat.zero_le _) (Nat.zero_le _) (fun H locs hP hD hS => ?_)
    refine lv_iconst (v := 2) hx hb dX7_tellsBy_134 (by decide) ?_
    obtain ⟨v_traced_28, v_traceMany_29, r_30, hc135, h⟩ := bd3_s h
    refine x_selfVi (As := [.int r_27, .int 2]) (rest := [.int r_26]) St0_ok S (c_X7_cutsBy l D cI cS o 4 _ _ _ _ _ _ _ _ _ _ _ _ _ _ _ _ _ _ _ _ _ _ _ _ _ _ _ _ _ _ _ _ _ _ _ hc135) yf_X7_cutsBy wd35_5 ⟨by show 4 + 1 ≤ (fr + 21); omega, by show 8 + (3 + 11) + 88 ≤ (lo + 463); omega⟩ hK hSt hA hP hD hS 0 rfl rfl rfl hl.1 rfl (Nat.le_of_ble_eq_true rfl) dX7_tellsBy_135 (Nat.zero_le _) (Nat.zero_le _) (fun H locs hP hD hS => ?_)
    refine lv_isub hx hb dX7_tellsBy_138 ?_
    cases h
    exact x_iret hx hb hr hlocks hK hP hD hS rfl rfl dX7_tellsBy_139
  replace h := ite_f c3_2 h
  refine lv_lookup (off := 137) (tgt := 140) hx hb dX7_tellsBy_3 (by decide +kernel) (by show Op.lookupswitch.offset [(0, 33), (4, 71), (5, 104)] 137 (p0).toInt = 137; rw [lv_osw c3_0 (by decide), lv_osw c3_1 (by decide), lv_osw c3_2 (by decide)]; rfl) (by decide) ?_
  refine lv_aload_n hx hb dX7_tellsBy_140 rfl (lv_at hl 1 rfl) ?_
  refine lv_iload_n hx hb dX7_tellsBy_141 rfl (lv_at hl 2 rfl) ?_
  obtain ⟨r_31, hc142, h⟩ := bd1_s h
  refine x_statI (As := [.int p0]) (rest := [.ref (o 0)]) St0_ok S (c_X7_above l D cI cS o hc142) ys_X7_above wd14_0 ⟨by show 0 + 1 ≤ (fr + 21); omega, by show 8 + (1 + 11) + 0 ≤ (lo + 463); omega⟩ hK hSt hA hP hD hS rfl hl.1 rfl (Nat.le_of_ble_eq_true rfl) dX7_tellsBy_142 (Nat.zero_le _) (Nat.zero_le _) (fun H locs hP hD hS => ?_)
  refine lv_iload_n hx hb dX7_tellsBy_145 rfl (lv_at hl 3 rfl) ?_
  obtain ⟨v_traced_32, v_traceMany_33, r_34, hc146, h⟩ := bd3_s h
  refine x_selfVi (As := [.int r_31, .int p1]) (rest := []) St0_ok S (hrc _ _ _ _ _ _ _ _ _ _ _ _ _ _ _ _ _ _ _ _ _ _ _ _ _ _ _ _ _ _ _ _ _ _ _ hc146) yf_X7_tellsBy wd35_21 ⟨by show fr + 1 ≤ (fr + 21); omega, by show 8 + (4 + 11) + lo ≤ (lo + 463); omega⟩ hK hSt hA hP hD hS 0 rfl rfl rfl hl.1 rfl (Nat.le_of_ble_eq_true rfl) dX7_tellsBy_146 (Nat.zero_le _) (Nat.zero_le _) (fun H locs hP hD hS => ?_)
  cases h
  exact x_iret hx hb hr hlocks hK hP hD hS rfl rfl dX7_tellsBy_149

def f_X7_tellsBy : Nat → (Nat → Int32) → (Nat → Int32) → (Int32) → (Int32) → Int32 → Int32 → Option ((Nat → Int32) × (Int32) × (Int32))
  | 0, _, _, _, _, _, _ => none
  | k_n + 1, v_d, v_traced, v_traceMany, v_who, p0, p1 => f_X7_tellsByB (f_X7_tellsBy k_n) v_d v_traced v_traceMany v_who p0 p1
theorem c_X7_tellsBy (l : Launch) (D : va_G) (cI cS : ClassId) (o : Nat → Nat) : ∀ (k_n : Nat), ∀ (v_d : Nat → Int32) (v_kept : Nat → Int32) (v_images : Int32) (v_found : Nat → Int32) (v_aside : Nat → Int32) (v_base : Int32) (v_at : Int32) (v_size : Int32) (v_fault : Int32) (v_opened : Int32) (v_isCold : Int32) (v_names : Nat → Int32) (v_code : Nat → Int32) (v_coded : Int32) (v_pile : Nat → Int32) (v_horn : Int32) (v_brass : Int32) (v_coldAhead : Nat → Int32) (v_which : Nat → Int32) (v_whichMany : Int32) (v_bestPass : Int32) (v_bestLive : Int32) (v_bestCode : Int32) (v_traced : Nat → Int32) (v_traceMany : Int32) (v_who : Int32) (v_bitsOf : Nat → Int32) (v_sizeOf : Nat → Int32) (v_number : Nat → Int32) (v_lifted : Nat → Int32) (p0 : Int32) (p1 : Int32) (w_traced : Nat → Int32) (w_traceMany : Int32) (r_out : Int32), f_X7_tellsBy k_n v_d v_traced v_traceMany v_who p0 p1 = some (w_traced, w_traceMany, r_out) → MetI l D (tysX cI cS) St0 yX7_tellsBy cX7_tellsBy 4 (some .int) (21 * k_n) (463 * k_n) [.ref (o 0), .int p0, .int p1] (pcX7 o cI v_d v_kept v_images v_found v_aside v_base v_at v_size v_fault v_opened v_isCold v_names v_code v_coded v_pile v_horn v_brass v_coldAhead v_which v_whichMany v_bestPass v_bestLive v_bestCode v_traced v_traceMany v_who v_bitsOf v_sizeOf v_number v_lifted) r_out (pcX7 o cI v_d v_kept v_images v_found v_aside v_base v_at v_size v_fault v_opened v_isCold v_names v_code v_coded v_pile v_horn v_brass v_coldAhead v_which v_whichMany v_bestPass v_bestLive v_bestCode w_traced w_traceMany v_who v_bitsOf v_sizeOf v_number v_lifted) := by
  intro k_n
  induction k_n with
  | zero => intro v_d v_kept v_images v_found v_aside v_base v_at v_size v_fault v_opened v_isCold v_names v_code v_coded v_pile v_horn v_brass v_coldAhead v_which v_whichMany v_bestPass v_bestLive v_bestCode v_traced v_traceMany v_who v_bitsOf v_sizeOf v_number v_lifted p0 p1 w_traced w_traceMany r_out h; rw [f_X7_tellsBy] at h; cases h
  | succ k_n ih => intro v_d v_kept v_images v_found v_aside v_base v_at v_size v_fault v_opened v_isCold v_names v_code v_coded v_pile v_horn v_brass v_coldAhead v_which v_whichMany v_bestPass v_bestLive v_bestCode v_traced v_traceMany v_who v_bitsOf v_sizeOf v_number v_lifted p0 p1 w_traced w_traceMany r_out h; rw [f_X7_tellsBy] at h; exact c_X7_tellsByB l D cI cS o (f_X7_tellsBy k_n) (21 * k_n) (463 * k_n) ih h
def f_X7_voice  (v_d : Nat → Int32) (v_found : Nat → Int32) (v_traced : Nat → Int32) (v_traceMany : Int32) (v_who : Int32) (p0 : Int32) (p1 : Int32) (p2 : Int32) : Option ((Nat → Int32) × (Nat → Int32) × (Int32) × (Int32) × (Int32)) :=
  bd1 (f_X7_isPerson v_d p0) (fun r_1 => jnA (bd2 (f_X7_finds v_found 1) (fun v_found_2 r_3 => some (v_found_2, v_traced, v_traceMany, v_who, r_3))) (fun J20 => (if r_1 = 0 then J20 else bd1 (f_X7_in (p1.toInt64) 0 3) (fun r_4 => (if r_4 = 0 then J20 else bd1 (f_X7_of v_d p0 0) (fun r_5 => (if p1 = 0 then bd3 (f_X7_cutsBy 4 v_traced 0 p0 r_5 p2) (fun v_traced_15 v_traceMany_16 r_17 => some (v_found, v_traced_15, v_traceMany_16, p0, r_17)) else (if p1 = 1 then bd3 (f_X7_countsBy 4 v_d v_traced 0 p0 r_5 p2) (fun v_traced_12 v_traceMany_13 r_14 => some (v_found, v_traced_12, v_traceMany_13, p0, r_14)) else (if p1 = 2 then bd3 (f_X7_chillsBy 4 v_d v_traced 0 p0 r_5 p2) (fun v_traced_9 v_traceMany_10 r_11 => some (v_found, v_traced_9, v_traceMany_10, p0, r_11)) else bd3 (f_X7_tellsBy 4 v_d v_traced 0 p0 r_5 p2) (fun v_traced_6 v_traceMany_7 r_8 => some (v_found, v_traced_6, v_traceMany_7, p0, r_8)))))))))))
set_option maxHeartbeats 600000 in
set_option maxRecDepth 100000 in
theorem c_X7_voice (l : Launch) (D : va_G) (cI cS : ClassId) (o : Nat → Nat) {v_d : Nat → Int32} {v_kept : Nat → Int32} {v_images : Int32} {v_found : Nat → Int32} {v_aside : Nat → Int32} {v_base : Int32} {v_at : Int32} {v_size : Int32} {v_fault : Int32} {v_opened : Int32} {v_isCold : Int32} {v_names : Nat → Int32} {v_code : Nat → Int32} {v_coded : Int32} {v_pile : Nat → Int32} {v_horn : Int32} {v_brass : Int32} {v_coldAhead : Nat → Int32} {v_which : Nat → Int32} {v_whichMany : Int32} {v_bestPass : Int32} {v_bestLive : Int32} {v_bestCode : Int32} {v_traced : Nat → Int32} {v_traceMany : Int32} {v_who : Int32} {v_bitsOf : Nat → Int32} {v_sizeOf : Nat → Int32} {v_number : Nat → Int32} {v_lifted : Nat → Int32} {p0 : Int32} {p1 : Int32} {p2 : Int32} {w_found : Nat → Int32} {w_traced : Nat → Int32} {w_traceMany : Int32} {w_who : Int32} {r_out : Int32} (h : f_X7_voice  v_d v_found v_traced v_traceMany v_who p0 p1 p2 = some (w_found, w_traced, w_traceMany, w_who, r_out)) : MetI l D (tysX cI cS) St0 yX7_voice cX7_voice 5 (some .int) 85 1875 [.ref (o 0), .int p0, .int p1, .int p2] (pcX7 o cI v_d v_kept v_images v_found v_aside v_base v_at v_size v_fault v_opened v_isCold v_names v_code v_coded v_pile v_horn v_brass v_coldAhead v_which v_whichMany v_bestPass v_bestLive v_bestCode v_traced v_traceMany v_who v_bitsOf v_sizeOf v_number v_lifted) r_out (pcX7 o cI v_d v_kept v_images w_found v_aside v_base v_at v_size v_fault v_opened v_isCold v_names v_code v_coded v_pile v_horn v_brass v_coldAhead v_which v_whichMany v_bestPass v_bestLive v_bestCode w_traced w_traceMany w_who v_bitsOf v_sizeOf v_number v_lifted) := by
  refine Ent.metI (by decide +kernel) (Nat.le_of_ble_eq_true rfl) ?_
  intro p e s m args below meth c A ls hx hb hr hml hown hts hlocks hA hK hSt hP hD hS hl
  have hown : s.vm.findClass RX7 = some m.cls := hown
  have S : XFix p m c cX7_voice 5 s args RX7 := ⟨hx, hb, hml, hown, hts⟩
  have hl : lv_has ls 5 [(0, .ref (o 0)), (1, .int p0), (2, .int p1), (3, .int p2)] := hl
  unfold f_X7_voice at h
  refine lv_aload_n hx hb dX7_voice_0 rfl (lv_at hl 0 rfl) ?_
  refine lv_iload_n hx hb dX7_voice_1 rfl (lv_at hl 1 rfl) ?_
  obtain ⟨r_1, hc2, h⟩ := bd1_s h
  refine x_selfVi (As := [.int p0]) (rest := []) St0_ok S (c_X7_isPerson l D cI cS o hc2) yf_X7_isPerson wd10_3 ⟨Nat.le_of_ble_eq_true rfl, Nat.le_of_ble_eq_true rfl⟩ hK hSt hA hP hD hS 0 rfl rfl rfl hl.1 rfl (Nat.le_of_ble_eq_true rfl) dX7_voice_2 (Nat.zero_le _) (Nat.zero_le _) (fun H locs hP hD hS => ?_)
  obtain ⟨J20, eJ20, h⟩ := jnA_s h
  have wJ20 : J20  = some (w_found, w_traced, w_traceMany, w_who, r_out) → ∀ (H : Heap) (locs : List Loc), va_P D vwCl (pcX7 o cI v_d v_kept v_images v_found v_aside v_base v_at v_size v_fault v_opened v_isCold v_names v_code v_coded v_pile v_horn v_brass v_coldAhead v_which v_whichMany v_bestPass v_bestLive v_bestCode v_traced v_traceMany v_who v_bitsOf v_sizeOf v_number v_lifted) H → va_D A (pcX7 o cI v_d v_kept v_images v_found v_aside v_base v_at v_size v_fault v_opened v_isCold v_names v_code v_coded v_pile v_horn v_brass v_coldAhead v_which v_whichMany v_bestPass v_bestLive v_bestCode v_traced v_traceMany v_who v_bitsOf v_sizeOf v_number v_lifted) → va_S A s.heap H locs → ∀ ls : Array Slot, lv_has ls 5 [(0, .ref (o 0))] → WI p l e 85 1875 s m args below meth c D (tysX cI cS) A r_out (pcX7 o cI v_d v_kept v_images w_found v_aside v_base v_at v_size v_fault v_opened v_isCold v_names v_code v_coded v_pile v_horn v_brass v_coldAhead v_which v_whichMany v_bestPass v_bestLive v_bestCode w_traced w_traceMany w_who v_bitsOf v_sizeOf v_number v_lifted) H locs (F0 m 20 ls []) := by
      intro h H locs hP hD hS ls hl
      subst eJ20
      refine lv_aload_n hx hb dX7_voice_20 rfl (lv_at hl 0 rfl) ?_
      refine lv_iconst (v := 1) hx hb dX7_voice_21 (by decide) ?_
      obtain ⟨v_found_2, r_3, hc22, h⟩ := bd2_s h
      refine x_selfVi (As := [.int 1]) (rest := []) St0_ok S (c_X7_finds l D cI cS o hc22) yf_X7_finds wd6_10 ⟨Nat.le_of_ble_eq_true rfl, Nat.le_of_ble_eq_true rfl⟩ hK hSt hA hP hD hS 0 rfl rfl rfl hl.1 rfl (Nat.le_of_ble_eq_true rfl) dX7_voice_22 (Nat.zero_le _) (Nat.zero_le _) (fun H locs hP hD hS => ?_)
      cases h
      exact x_iret hx hb hr hlocks hK hP hD hS rfl rfl dX7_voice_25
  refine x_if_eq (tgt := 20) hx hb h dX7_voice_5 (by decide) (fun c5 h => ?_) (fun c5 h => ?_)
  · exact wJ20 h _ _ hP hD hS _ (lv_sub hl [0] rfl)
  · refine lv_iload_n hx hb dX7_voice_8 rfl (lv_at hl 2 rfl) ?_
    refine lv_i2l (v := (p1.toInt64)) hx hb dX7_voice_9 rfl ?_
    refine lv_lconst (v := 0) hx hb dX7_voice_10 (by decide) ?_
    refine lv_ldc2 (v := 3) hx hb hown (hts _ wd13_1) dX7_voice_11 ?_
    obtain ⟨r_4, hc14, h⟩ := bd1_s h
    refine x_statI (As := [.long (p1.toInt64), .long 0, .long 3]) (rest := []) St0_ok S (c_X7_in l D cI cS o hc14) ys_X7_in wd6_7 ⟨Nat.le_of_ble_eq_true rfl, Nat.le_of_ble_eq_true rfl⟩ hK hSt hA hP hD hS rfl hl.1 rfl (Nat.le_of_ble_eq_true rfl) dX7_voice_14 (Nat.zero_le _) (Nat.zero_le _) (fun H locs hP hD hS => ?_)
    refine x_if_ne (tgt := 26) hx hb h dX7_voice_17 (by decide) (fun c17 h => ?_) (fun c17 h => ?_)
    · refine lv_aload_n hx hb dX7_voice_26 rfl (lv_at hl 0 rfl) ?_
      refine lv_iload_n hx hb dX7_voice_27 rfl (lv_at hl 1 rfl) ?_
      refine pt_X7_282 S hK hP hD hS 0 rfl (Nat.le_of_ble_eq_true rfl) dX7_voice_28 (fun H locs hP hD hS => ?_)
      have hP : va_P D vwCl (pcX7 o cI v_d v_kept v_images v_found v_aside v_base v_at v_size v_fault v_opened v_isCold v_names v_code v_coded v_pile v_horn v_brass v_coldAhead v_which v_whichMany v_bestPass v_bestLive v_bestCode v_traced v_traceMany p0 v_bitsOf v_sizeOf v_number v_lifted) H := hP
      have hD : va_D A (pcX7 o cI v_d v_kept v_images v_found v_aside v_base v_at v_size v_fault v_opened v_isCold v_names v_code v_coded v_pile v_horn v_brass v_coldAhead v_which v_whichMany v_bestPass v_bestLive v_bestCode v_traced v_traceMany p0 v_bitsOf v_sizeOf v_number v_lifted) := hD
      refine lv_aload_n hx hb dX7_voice_31 rfl (lv_at hl 0 rfl) ?_
      refine lv_iconst (v := 0) hx hb dX7_voice_32 (by decide) ?_
      refine pt_X7_276 S hK hP hD hS 0 rfl (Nat.le_of_ble_eq_true rfl) dX7_voice_33 (fun H locs hP hD hS => ?_)
      have hP : va_P D vwCl (pcX7 o cI v_d v_kept v_images v_found v_aside v_base v_at v_size v_fault v_opened v_isCold v_names v_code v_coded v_pile v_horn v_brass v_coldAhead v_which v_whichMany v_bestPass v_bestLive v_bestCode v_traced 0 p0 v_bitsOf v_sizeOf v_number v_lifted) H := hP
      have hD : va_D A (pcX7 o cI v_d v_kept v_images v_found v_aside v_base v_at v_size v_fault v_opened v_isCold v_names v_code v_coded v_pile v_horn v_brass v_coldAhead v_which v_whichMany v_bestPass v_bestLive v_bestCode v_traced 0 p0 v_bitsOf v_sizeOf v_number v_lifted) := hD
      refine lv_aload_n hx hb dX7_voice_36 rfl (lv_at hl 0 rfl) ?_
      refine lv_aload_n hx hb dX7_voice_37 rfl (lv_at hl 0 rfl) ?_
      refine gt_X7_282 S hK hP 0 rfl rfl dX7_voice_38 ?_
      refine lv_iconst (v := 0) hx hb dX7_voice_41 (by decide) ?_
      obtain ⟨r_5, hc42, h⟩ := bd1_s h
      refine x_selfVi (As := [.int p0, .int 0]) (rest := []) St0_ok S (c_X7_of l D cI cS o hc42) yf_X7_of wd10_11 ⟨Nat.le_of_ble_eq_true rfl, Nat.le_of_ble_eq_true rfl⟩ hK hSt hA hP hD hS 0 rfl rfl rfl hl.1 rfl (Nat.le_of_ble_eq_true rfl) dX7_voice_42 (Nat.zero_le _) (Nat.zero_le _) (fun H locs hP hD hS => ?_)
      refine lv_istore (lv' := [(4, .int r_5), (0, .ref (o 0)), (1, .int p0), (2, .int p1), (3, .int p2)]) hx hb dX7_voice_45 hl (by decide) rfl (fun ls hl => ?_)
      refine lv_iload_n hx hb dX7_voice_47 rfl (lv_at hl 3 rfl) ?_
      refine x_if_ne (tgt := 61) hx hb h dX7_voice_48 (by decide) (fun c48 h => ?_) (fun c48 h => ?_)
      · refine lv_iload_n hx hb dX7_voice_61 rfl (lv_at hl 3 rfl) ?_
        refine lv_iconst (v := 1) hx hb dX7_voice_62 (by decide) ?_
        refine x_icmp_ne (tgt := 76) hx hb h dX7_voice_63 (by decide) (fun c63 h => ?_) (fun c63 h => ?_)
        · refine lv_iload_n hx hb dX7_voice_76 rfl (lv_at hl 3 rfl) ?_
          refine lv_iconst (v := 2) hx hb dX7_voice_77 (by decide) ?_
          refine x_icmp_ne (tgt := 91) hx hb h dX7_voice_78 (by decide) (fun c78 h => ?_) (fun c78 h => ?_)
          · refine lv_aload_n hx hb dX7_voice_91 rfl (lv_at hl 1 rfl) ?_
            refine lv_iload hx hb dX7_voice_92 (lv_at hl 0 rfl) ?_
            refine lv_iload_n hx hb dX7_voice_94 rfl (lv_at hl 4 rfl) ?_
            obtain ⟨v_traced_6, v_traceMany_7, r_8, hc95, h⟩ := bd3_s h
            refine x_selfVi (As := [.int r_5, .int p2]) (rest := []) St0_ok S (c_X7_tellsBy l D cI cS o 4 _ _ _ _ _ _ _ _ _ _ _ _ _ _ _ _ _ _ _ _ _ _ _ _ _ _ _ _ _ _ _ _ _ _ _ hc95) yf_X7_tellsBy wd35_21 ⟨Nat.le_of_ble_eq_true rfl, Nat.le_of_ble_eq_true rfl⟩ hK hSt hA hP hD hS 0 rfl rfl rfl hl.1 rfl (Nat.le_of_ble_eq_true rfl) dX7_voice_95 (Nat.zero_le _) (Nat.zero_le _) (fun H locs hP hD hS => ?_)
            cases h
            exact x_iret hx hb hr hlocks hK hP hD hS rfl rfl dX7_voice_98
          · refine lv_aload_n hx hb dX7_voice_81 rfl (lv_at hl 1 rfl) ?_
            refine lv_iload hx hb dX7_voice_82 (lv_at hl 0 rfl) ?_
            refine lv_iload_n hx hb dX7_voice_84 rfl (lv_at hl 4 rfl) ?_
            obtain ⟨v_traced_9, v_traceMany_10, r_11, hc85, h⟩ := bd3_s h
            refine x_selfVi (As := [.int r_5, .int p2]) (rest := []) St0_ok S (c_X7_chillsBy l D cI cS o 4 _ _ _ _ _ _ _ _ _ _ _ _ _ _ _ _ _ _ _ _ _ _ _ _ _ _ _ _ _ _ _ _ _ _ _ hc85) yf_X7_chillsBy wd35_17 ⟨Nat.le_of_ble_eq_true rfl, Nat.le_of_ble_eq_true rfl⟩ hK hSt hA hP hD hS 0 rfl rfl rfl hl.1 rfl (Nat.le_of_ble_eq_true rfl) dX7_voice_85 (Nat.zero_le _) (Nat.zero_le _) (fun H locs hP hD hS => ?_)
            refine lv_goto (tgt := 98) hx hb dX7_voice_88 (by decide) ?_
            cases h
            exact x_iret hx hb hr hlocks hK hP hD hS rfl rfl dX7_voice_98
        · refine lv_aload_n hx hb dX7_voice_66 rfl (lv_at hl 1 rfl) ?_
          refine lv_iload hx hb dX7_voice_67 (lv_at hl 0 rfl) ?_
          refine lv_iload_n hx hb dX7_voice_69 rfl (lv_at hl 4 rfl) ?_
          obtain ⟨v_traced_12, v_traceMany_13, r_14, hc70, h⟩ := bd3_s h
          refine x_selfVi (As := [.int r_5, .int p2]) (rest := []) St0_ok S (c_X7_countsBy l D cI cS o 4 _ _ _ _ _ _ _ _ _ _ _ _ _ _ _ _ _ _ _ _ _ _ _ _ _ _ _ _ _ _ _ _ _ _ _ hc70) yf_X7_countsBy wd35_13 ⟨Nat.le_of_ble_eq_true rfl, Nat.le_of_ble_eq_true rfl⟩ hK hSt hA hP hD hS 0 rfl rfl rfl hl.1 rfl (Nat.le_of_ble_eq_true rfl) dX7_voice_70 (Nat.zero_le _) (Nat.zero_le _) (fun H locs hP hD hS => ?_)
          refine lv_goto (tgt := 98) hx hb dX7_voice_73 (by decide) ?_
          cases h
          exact x_iret hx hb hr hlocks hK hP hD hS rfl rfl dX7_voice_98
      · refine lv_aload_n hx hb dX7_voice_51 rfl (lv_at hl 1 rfl) ?_
        refine lv_iload hx hb dX7_voice_52 (lv_at hl 0 rfl) ?_
        refine lv_iload_n hx hb dX7_voice_54 rfl (lv_at hl 4 rfl) ?_
        obtain ⟨v_traced_15, v_traceMany_16, r_17, hc55, h⟩ := bd3_s h
        refine x_selfVi (As := [.int r_5, .int p2]) (rest := []) St0_ok S (c_X7_cutsBy l D cI cS o 4 _ _ _ _ _ _ _ _ _ _ _ _ _ _ _ _ _ _ _ _ _ _ _ _ _ _ _ _ _ _ _ _ _ _ _ hc55) yf_X7_cutsBy wd35_5 ⟨Nat.le_of_ble_eq_true rfl, Nat.le_of_ble_eq_true rfl⟩ hK hSt hA hP hD hS 0 rfl rfl rfl hl.1 rfl (Nat.le_of_ble_eq_true rfl) dX7_voice_55 (Nat.zero_le _) (Nat.zero_le _) (fun H locs hP hD hS => ?_)
        refine lv_goto (tgt := 98) hx hb dX7_voice_58 (by decide) ?_
        cases h
        exact x_iret hx hb hr hlocks hK hP hD hS rfl rfl dX7_voice_98
    · exact wJ20 h _ _ hP hD hS _ (lv_sub hl [0] rfl)

