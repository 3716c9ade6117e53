def f_X7_coldNow  (v_d : Nat → Int32) (v_names : Nat → Int32) (v_pile : Nat → Int32)  : Option ((Nat → Int32) × (Nat → Int32) × (Int32)) :=
  rdA 248 v_d 6 (fun x_1 => rdA 248 v_d 5 (fun x_2 => bd1 (f_X7_lawMany v_d) (fun r_3 => bd3 (f_X7_textGives v_d v_names v_pile 1 x_1 x_2 r_3) (fun v_names_4 v_pile_5 r_6 => some (v_names_4, v_pile_5, r_6)))))
set_option maxHeartbeats 600000 in
set_option maxRecDepth 100000 in
theorem c_X7_coldNow (l : Launch) (D : va_G) (cI cS : ClassId) (o : Nat → Nat) {v_d : Nat → Int32} {v_kept : Nat → Int32} {v_images : Int32} {v_found : Nat → Int32} {v_aside : Nat → Int32} {v_base : Int32} {v_at : Int32} {v_size : Int32} {v_fault : Int32} {v_opened : Int32} {v_isCold : Int32} {v_names : Nat → Int32} {v_code : Nat → Int32} {v_coded : Int32} {v_pile : Nat → Int32} {v_horn : Int32} {v_brass : Int32} {v_coldAhead : Nat → Int32} {v_which : Nat → Int32} {v_whichMany : Int32} {v_bestPass : Int32} {v_bestLive : Int32} {v_bestCode : Int32} {v_traced : Nat → Int32} {v_traceMany : Int32} {v_who : Int32} {v_bitsOf : Nat → Int32} {v_sizeOf : Nat → Int32} {v_number : Nat → Int32} {v_lifted : Nat → Int32}  {w_names : Nat → Int32} {w_pile : Nat → Int32} {r_out : Int32} (h : f_X7_coldNow  v_d v_names v_pile  = some (w_names, w_pile, r_out)) : MetI l D (tysX cI cS) St0 yX7_coldNow cX7_coldNow 1 (some .int) 3 72 [.ref (o 0)] (pcX7 o cI v_d v_kept v_images v_found v_aside v_base v_at v_size v_fault v_opened v_isCold v_names v_code v_coded v_pile v_horn v_brass v_coldAhead v_which v_whichMany v_bestPass v_bestLive v_bestCode v_traced v_traceMany v_who v_bitsOf v_sizeOf v_number v_lifted) r_out (pcX7 o cI v_d v_kept v_images v_found v_aside v_base v_at v_size v_fault v_opened v_isCold w_names v_code v_coded w_pile v_horn v_brass v_coldAhead v_which v_whichMany v_bestPass v_bestLive v_bestCode v_traced v_traceMany v_who v_bitsOf v_sizeOf v_number v_lifted) := by
  refine Ent.metI (by decide +kernel) (Nat.le_of_ble_eq_true rfl) ?_
  intro p e s m args below meth c A ls hx hb hr hml hown hts hlocks hA hK hSt hP hD hS hl
  have hown : s.vm.findClass RX7 = some m.cls := hown
  have S : XFix p m c cX7_coldNow 1 s args RX7 := ⟨hx, hb, hml, hown, hts⟩
  have hl : lv_has ls 1 [(0, .ref (o 0))] := hl
  unfold f_X7_coldNow at h
  refine lv_aload_n hx hb dX7_coldNow_0 rfl (lv_at hl 0 rfl) ?_
  refine lv_iconst (v := 1) hx hb dX7_coldNow_1 (by decide) ?_
  refine lv_aload_n hx hb dX7_coldNow_2 rfl (lv_at hl 0 rfl) ?_
  refine gt_X7_7 S hK hP 0 rfl rfl dX7_coldNow_3 ?_
  refine lv_bipush (v := 6) hx hb dX7_coldNow_6 (by decide) ?_
  refine x_ald hx hb hK hP 1 h rfl rfl dX7_coldNow_8 (fun x_1 ex_1 h => ?_)
  refine lv_aload_n hx hb dX7_coldNow_9 rfl (lv_at hl 0 rfl) ?_
  refine gt_X7_7 S hK hP 0 rfl rfl dX7_coldNow_10 ?_
  refine lv_iconst (v := 5) hx hb dX7_coldNow_13 (by decide) ?_
  refine x_ald hx hb hK hP 1 h rfl rfl dX7_coldNow_14 (fun x_2 ex_2 h => ?_)
  refine lv_aload_n hx hb dX7_coldNow_15 rfl (lv_at hl 0 rfl) ?_
  obtain ⟨r_3, hc16, h⟩ := bd1_s h
  refine x_selfVi (As := []) (rest := [.int x_2, .int x_1, .int 1, .ref (o 0)]) St0_ok S (c_X7_lawMany l D cI cS o hc16) yf_X7_lawMany wd11_11 ⟨Nat.le_of_ble_eq_true rfl, Nat.le_of_ble_eq_true rfl⟩ hK hSt hA hP hD hS 0 rfl rfl rfl hl.1 rfl (Nat.le_of_ble_eq_true rfl) dX7_coldNow_16 (Nat.zero_le _) (Nat.zero_le _) (fun H locs hP hD hS => ?_)
  obtain ⟨v_names_4, v_pile_5, r_6, hc19, h⟩ := bd3_s h
  refine x_selfVi (As := [.int 1, .int x_1, .int x_2, .int r_3]) (rest := []) St0_ok S (c_X7_textGives l D cI cS o hc19) yf_X7_textGives wd11_19 ⟨Nat.le_of_ble_eq_true rfl, Nat.le_of_ble_eq_true rfl⟩ hK hSt hA hP hD hS 0 rfl rfl rfl hl.1 rfl (Nat.le_of_ble_eq_true rfl) dX7_coldNow_19 (Nat.zero_le _) (Nat.zero_le _) (fun H locs hP hD hS => ?_)
  cases h
  exact x_iret hx hb hr hlocks hK hP hD hS rfl rfl dX7_coldNow_22

def f_X7_chillOf  (v_d : Nat → Int32) (v_names : Nat → Int32) (v_pile : Nat → Int32) (p0 : Int32) (p1 : Int32) : Option ((Nat → Int32) × (Nat → Int32) × (Int32)) :=
  bd1 (f_X7_of v_d p0 4) (fun r_1 => bd1 (f_X7_of v_d p0 5) (fun r_2 => bd3 (f_X7_textGives v_d v_names v_pile 0 p1 r_1 r_2) (fun v_names_3 v_pile_4 r_5 => bd1 (f_X7_of v_d p0 1) (fun r_6 => bd1 (f_X7_of v_d p0 0) (fun r_7 => (if r_7 = 1 then nzA 2 (some (v_names_3, v_pile_4, (r_5 / 2))) else (if r_7 = 2 then some (v_names_3, v_pile_4, (r_5 + 2)) else (if r_7 = 3 then some (v_names_3, v_pile_4, r_5) else (if r_7 = 4 then nzA 2 ((if r_6 ≤ (r_5 / 2) then nzA 2 (some (v_names_3, v_pile_4, ((r_5 / 2) - r_6))) else some (v_names_3, v_pile_4, 0))) else (if r_7 = 5 then (if r_6 ≤ (r_5 + 2) then some (v_names_3, v_pile_4, ((r_5 + 2) - r_6)) else some (v_names_3, v_pile_4, 0)) else some (v_names_3, v_pile_4, r_5)))))))))))
set_option maxHeartbeats 600000 in
set_option maxRecDepth 100000 in
theorem c_X7_chillOf (l : Launch) (D : va_G) (cI cS : ClassId) (o : Nat → Nat) {v_d : Nat → Int32} {v_kept : Nat → Int32} {v_images : Int32} {v_found : Nat → Int32} {v_aside : Nat → Int32} {v_base : Int32} {v_at : Int32} {v_size : Int32} {v_fault : Int32} {v_opened : Int32} {v_isCold : Int32} {v_names : Nat → Int32} {v_code : Nat → Int32} {v_coded : Int32} {v_pile : Nat → Int32} {v_horn : Int32} {v_brass : Int32} {v_coldAhead : Nat → Int32} {v_which : Nat → Int32} {v_whichMany : Int32} {v_bestPass : Int32} {v_bestLive : Int32} {v_bestCode : Int32} {v_traced : Nat → Int32} {v_traceMany : Int32} {v_who : Int32} {v_bitsOf : Nat → Int32} {v_sizeOf : Nat → Int32} {v_number : Nat → Int32} {v_lifted : Nat → Int32} {p0 : Int32} {p1 : Int32} {w_names : Nat → Int32} {w_pile : Nat → Int32} {r_out : Int32} (h : f_X7_chillOf  v_d v_names v_pile p0 p1 = some (w_names, w_pile, r_out)) : MetI l D (tysX cI cS) St0 yX7_chillOf cX7_chillOf 5 (some .int) 3 72 [.ref (o 0), .int p0, .int p1] (pcX7 o cI v_d v_kept v_images v_found v_aside v_base v_at v_size v_fault v_opened v_isCold v_names v_code v_coded v_pile v_horn v_brass v_coldAhead v_which v_whichMany v_bestPass v_bestLive v_bestCode v_traced v_traceMany v_who v_bitsOf v_sizeOf v_number v_lifted) r_out (pcX7 o cI v_d v_kept v_images v_found v_aside v_base v_at v_size v_fault v_opened v_isCold w_names v_code v_coded w_pile v_horn v_brass v_coldAhead v_which v_whichMany v_bestPass v_bestLive v_bestCode v_traced v_traceMany v_who v_bitsOf v_sizeOf v_number v_lifted) := by
  refine Ent.metI (by decide +kernel) (Nat.le_of_ble_eq_true rfl) ?_
  intro p e s m args below meth c A ls hx hb hr hml hown hts hlocks hA hK hSt hP hD hS hl
  have hown : s.vm.findClass RX7 = some m.cls := hown
  have S : XFix p m c cX7_chillOf 5 s args RX7 := ⟨hx, hb, hml, hown, hts⟩
  have hl : lv_has ls 5 [(0, .ref (o 0)), (1, .int p0), (2, .int p1)] := hl
  unfold f_X7_chillOf at h
  refine lv_aload_n hx hb dX7_chillOf_0 rfl (lv_at hl 0 rfl) ?_
  refine lv_iconst (v := 0) hx hb dX7_chillOf_1 (by decide) ?_
  refine lv_iload_n hx hb dX7_chillOf_2 rfl (lv_at hl 2 rfl) ?_
  refine lv_aload_n hx hb dX7_chillOf_3 rfl (lv_at hl 0 rfl) ?_
  refine lv_iload_n hx hb dX7_chillOf_4 rfl (lv_at hl 1 rfl) ?_
  refine lv_iconst (v := 4) hx hb dX7_chillOf_5 (by decide) ?_
  obtain ⟨r_1, hc6, h⟩ := bd1_s h
  refine x_selfVi (As := [.int p0, .int 4]) (rest := [.int p1, .int 0, .ref (o 0)]) St0_ok S (c_X7_of l D cI cS o hc6) yf_X7_of wd10_11 ⟨Nat.le_of_ble_eq_true rfl, Nat.le_of_ble_eq_true rfl⟩ hK hSt hA hP hD hS 0 rfl rfl rfl hl.1 rfl (Nat.le_of_ble_eq_true rfl) dX7_chillOf_6 (Nat.zero_le _) (Nat.zero_le _) (fun H locs hP hD hS => ?_)
  refine lv_aload_n hx hb dX7_chillOf_9 rfl (lv_at hl 0 rfl) ?_
  refine lv_iload_n hx hb dX7_chillOf_10 rfl (lv_at hl 1 rfl) ?_
  refine lv_iconst (v := 5) hx hb dX7_chillOf_11 (by decide) ?_
  obtain ⟨r_2, hc12, h⟩ := bd1_s h
  refine x_selfVi (As := [.int p0, .int 5]) (rest := [.int r_1, .int p1, .int 0, .ref (o 0)]) St0_ok S (c_X7_of l D cI cS o hc12) yf_X7_of wd10_11 ⟨Nat.le_of_ble_eq_true rfl, Nat.le_of_ble_eq_true rfl⟩ hK hSt hA hP hD hS 0 rfl rfl rfl hl.1 rfl (Nat.le_of_ble_eq_true rfl) dX7_chillOf_12 (Nat.zero_le _) (Nat.zero_le _) (fun H locs hP hD hS => ?_)
  obtain ⟨v_names_3, v_pile_4, r_5, hc15, h⟩ := bd3_s h
  refine x_selfVi (As := [.int 0, .int p1, .int r_1, .int r_2]) (rest := []) St0_ok S (c_X7_textGives l D cI cS o hc15) yf_X7_textGives wd11_19 ⟨Nat.le_of_ble_eq_true rfl, Nat.le_of_ble_eq_true rfl⟩ hK hSt hA hP hD hS 0 rfl rfl rfl hl.1 rfl (Nat.le_of_ble_eq_true rfl) dX7_chillOf_15 (Nat.zero_le _) (Nat.zero_le _) (fun H locs hP hD hS => ?_)
  refine lv_istore_n (lv' := [(3, .int r_5), (0, .ref (o 0)), (1, .int p0), (2, .int p1)]) hx hb dX7_chillOf_18 rfl hl (by decide) rfl (fun ls hl => ?_)
  refine lv_aload_n hx hb dX7_chillOf_19 rfl (lv_at hl 1 rfl) ?_
  refine lv_iload_n hx hb dX7_chillOf_20 rfl (lv_at hl 2 rfl) ?_
  refine lv_iconst (v := 1) hx hb dX7_chillOf_21 (by decide) ?_
  obtain ⟨r_6, hc22, h⟩ := bd1_s h
  refine x_selfVi (As := [.int p0, .int 1]) (rest := []) St0_ok S (c_X7_of l D cI cS o hc22) yf_X7_of wd10_11 ⟨Nat.le_of_ble_eq_true rfl, Nat.le_of_ble_eq_true rfl⟩ hK hSt hA hP hD hS 0 rfl rfl rfl hl.1 rfl (Nat.le_of_ble_eq_true rfl) dX7_chillOf_22 (Nat.zero_le _) (Nat.zero_le _) (fun H locs hP hD hS => ?_)
  refine lv_istore (lv' := [(4, .int r_6), (3, .int r_5), (0, .ref (o 0)), (1, .int p0), (2, .int p1)]) hx hb dX7_chillOf_25 hl (by decide) rfl (fun ls hl => ?_)
  refine lv_aload_n hx hb dX7_chillOf_27 rfl (lv_at hl 2 rfl) ?_
  refine lv_iload_n hx hb dX7_chillOf_28 rfl (lv_at hl 3 rfl) ?_
  refine lv_iconst (v := 0) hx hb dX7_chillOf_29 (by decide) ?_
  obtain ⟨r_7, hc30, h⟩ := bd1_s h
  refine x_selfVi (As := [.int p0, .int 0]) (rest := []) St0_ok S (c_X7_of l D cI cS o hc30) yf_X7_of wd10_11 ⟨Nat.le_of_ble_eq_true rfl, Nat.le_of_ble_eq_true rfl⟩ hK hSt hA hP hD hS 0 rfl rfl rfl hl.1 rfl (Nat.le_of_ble_eq_true rfl) dX7_chillOf_30 (Nat.zero_le _) (Nat.zero_le _) (fun H locs hP hD hS => ?_)
  by_cases c33_0 : r_7 = 1
  · replace h := ite_t c33_0 h
    refine lv_tableIn (off := 35) (tgt := 68) hx hb dX7_chillOf_33 (by rw [c33_0]; decide) (by rw [c33_0]; decide) (by rw [c33_0]; rfl) (by decide) ?_
    refine lv_iload_n hx hb dX7_chillOf_68 rfl (lv_at hl 1 rfl) ?_
    refine lv_iconst (v := 2) hx hb dX7_chillOf_69 (by decide) ?_
    refine x_idiv hx hb h dX7_chillOf_70 (fun h => ?_)
    cases h
    exact x_iret hx hb hr hlocks hK hP hD hS rfl rfl dX7_chillOf_71
  replace h := ite_f c33_0 h
  by_cases c33_1 : r_7 = 2
  · replace h := ite_t c33_1 h
    refine lv_tableIn (off := 58) (tgt := 91) hx hb dX7_chillOf_33 (by rw [c33_1]; decide) (by rw [c33_1]; decide) (by rw [c33_1]; rfl) (by decide) ?_
    refine lv_iload_n hx hb dX7_chillOf_91 rfl (lv_at hl 1 rfl) ?_
    refine lv_iconst (v := 2) hx hb dX7_chillOf_92 (by decide) ?_
    refine lv_iadd hx hb dX7_chillOf_93 ?_
    cases h
    exact x_iret hx hb hr hlocks hK hP hD hS rfl rfl dX7_chillOf_94
  replace h := ite_f c33_1 h
  by_cases c33_2 : r_7 = 3
  · replace h := ite_t c33_2 h
    refine lv_tableIn (off := 81) (tgt := 114) hx hb dX7_chillOf_33 (by rw [c33_2]; decide) (by rw [c33_2]; decide) (by rw [c33_2]; rfl) (by decide) ?_
    refine lv_iload_n hx hb dX7_chillOf_114 rfl (lv_at hl 1 rfl) ?_
    cases h
    exact x_iret hx hb hr hlocks hK hP hD hS rfl rfl dX7_chillOf_115
  replace h := ite_f c33_2 h
  by_cases c33_3 : r_7 = 4
  · replace h := ite_t c33_3 h
    refine lv_tableIn (off := 39) (tgt := 72) hx hb dX7_chillOf_33 (by rw [c33_3]; decide) (by rw [c33_3]; decide) (by rw [c33_3]; rfl) (by decide) ?_
    refine lv_iload_n hx hb dX7_chillOf_72 rfl (lv_at hl 1 rfl) ?_
    refine lv_iconst (v := 2) hx hb dX7_chillOf_73 (by decide) ?_
    refine x_idiv hx hb h dX7_chillOf_74 (fun h => ?_)
    refine lv_iload hx hb dX7_chillOf_75 (lv_at hl 0 rfl) ?_
    refine x_icmp_ge (tgt := 84) hx hb h dX7_chillOf_77 (by decide) (fun c77 h => ?_) (fun c77 h => ?_)
    · refine lv_iload_n hx hb dX7_chillOf_84 rfl (lv_at hl 1 rfl) ?_
      refine lv_iconst (v := 2) hx hb dX7_chillOf_85 (by decide) ?_
      refine x_idiv hx hb h dX7_chillOf_86 (fun h => ?_)
      refine lv_iload hx hb dX7_chillOf_87 (lv_at hl 0 rfl) ?_
      refine lv_isub hx hb dX7_chillOf_89 ?_
      cases h
      exact x_iret hx hb hr hlocks hK hP hD hS rfl rfl dX7_chillOf_90
    · refine lv_iconst (v := 0) hx hb dX7_chillOf_80 (by decide) ?_
      refine lv_goto (tgt := 90) hx hb dX7_chillOf_81 (by decide) ?_
      cases h
      exact x_iret hx hb hr hlocks hK hP hD hS rfl rfl dX7_chillOf_90
  replace h := ite_f c33_3 h
  by_cases c33_4 : r_7 = 5
  · replace h := ite_t c33_4 h
    refine lv_tableIn (off := 62) (tgt := 95) hx hb dX7_chillOf_33 (by rw [c33_4]; decide) (by rw [c33_4]; decide) (by rw [c33_4]; rfl) (by decide) ?_
    refine lv_iload_n hx hb dX7_chillOf_95 rfl (lv_at hl 1 rfl) ?_
    refine lv_iconst (v := 2) hx hb dX7_chillOf_96 (by decide) ?_
    refine lv_iadd hx hb dX7_chillOf_97 ?_
    refine lv_iload hx hb dX7_chillOf_98 (lv_at hl 0 rfl) ?_
    refine x_icmp_ge (tgt := 107) hx hb h dX7_chillOf_100 (by decide) (fun c100 h => ?_) (fun c100 h => ?_)
    · refine lv_iload_n hx hb dX7_chillOf_107 rfl (lv_at hl 1 rfl) ?_
      refine lv_iconst (v := 2) hx hb dX7_chillOf_108 (by decide) ?_
      refine lv_iadd hx hb dX7_chillOf_109 ?_
      refine lv_iload hx hb dX7_chillOf_110 (lv_at hl 0 rfl) ?_
      refine lv_isub hx hb dX7_chillOf_112 ?_
      cases h
      exact x_iret hx hb hr hlocks hK hP hD hS rfl rfl dX7_chillOf_113
    · refine lv_iconst (v := 0) hx hb dX7_chillOf_103 (by decide) ?_
      refine lv_goto (tgt := 113) hx hb dX7_chillOf_104 (by decide) ?_
      cases h
      exact x_iret hx hb hr hlocks hK hP hD hS rfl rfl dX7_chillOf_113
  replace h := ite_f c33_4 h
  refine lv_tableOut (tgt := 114) hx hb dX7_chillOf_33 (by have n0 := lv_neT c33_0 (show ((1) : Int32).toInt = 1 by decide); have n1 := lv_neT c33_1 (show ((2) : Int32).toInt = 2 by decide); have n2 := lv_neT c33_2 (show ((3) : Int32).toInt = 3 by decide); have n3 := lv_neT c33_3 (show ((4) : Int32).toInt = 4 by decide); have n4 := lv_neT c33_4 (show ((5) : Int32).toInt = 5 by decide); omega) (by decide) ?_
  refine lv_iload_n hx hb dX7_chillOf_114 rfl (lv_at hl 1 rfl) ?_
  cases h
  exact x_iret hx hb hr hlocks hK hP hD hS rfl rfl dX7_chillOf_115

def f_X7_person  (v_d : Nat → Int32) (v_found : Nat → Int32) (p0 : Int32) : Option ((Nat → Int32) × (Nat → Int32) × (Int32)) :=
  bd1 (f_X7_in (p0.toInt64) 0 69) (fun r_1 => (if r_1 = 0 then bd2 (f_X7_finds v_found 1) (fun v_found_14 r_15 => some (v_d, v_found_14, r_15)) else rdA 248 v_d 0 (fun x_2 => (if x_2 = 8 then bd2 (f_X7_finds v_found 4) (fun v_found_12 r_13 => some (v_d, v_found_12, r_13)) else rdA 248 v_d 0 (fun x_3 => rdA 248 v_d 0 (fun x_4 => wrA 248 v_d 0 (x_4 + 1) (fun v_d_5 => nzA 10 (bd1 (f_X7_sets v_d_5 x_3 0 (p0 / 10)) (fun v_d_6 => nzA 10 (bd1 (f_X7_sets v_d_6 x_3 1 (rmI p0 10)) (fun v_d_7 => bd1 (f_X7_sets v_d_7 x_3 2 4) (fun v_d_8 => bd1 (f_X7_sets v_d_8 x_3 3 1) (fun v_d_9 => bd1 (f_X7_sets v_d_9 x_3 4 0) (fun v_d_10 => bd1 (f_X7_sets v_d_10 x_3 5 99) (fun v_d_11 => some (v_d_11, v_found, x_3))))))))))))))))
set_option maxHeartbeats 600000 in
set_option maxRecDepth 100000 in
theorem c_X7_person (l : Launch) (D : va_G) (cI cS : ClassId) (o : Nat → Nat) {v_d : Nat → Int32} {v_kept : Nat → Int32} {v_images : Int32} {v_found : Nat → Int32} {v_aside : Nat → Int32} {v_base : Int32} {v_at : Int32} {v_size : Int32} {v_fault : Int32} {v_opened : Int32} {v_isCold : Int32} {v_names : Nat → Int32} {v_code : Nat → Int32} {v_coded : Int32} {v_pile : Nat → Int32} {v_horn : Int32} {v_brass : Int32} {v_coldAhead : Nat → Int32} {v_which : Nat → Int32} {v_whichMany : Int32} {v_bestPass : Int32} {v_bestLive : Int32} {v_bestCode : Int32} {v_traced : Nat → Int32} {v_traceMany : Int32} {v_who : Int32} {v_bitsOf : Nat → Int32} {v_sizeOf : Nat → Int32} {v_number : Nat → Int32} {v_lifted : Nat → Int32} {p0 : Int32} {w_d : Nat → Int32} {w_found : Nat → Int32} {r_out : Int32} (h : f_X7_person  v_d v_found p0 = some (w_d, w_found, r_out)) : MetI l D (tysX cI cS) St0 yX7_person cX7_person 3 (some .int) 1 25 [.ref (o 0), .int p0] (pcX7 o cI v_d v_kept v_images v_found v_aside v_base v_at v_size v_fault v_opened v_isCold v_names v_code v_coded v_pile v_horn v_brass v_coldAhead v_which v_whichMany v_bestPass v_bestLive v_bestCode v_traced v_traceMany v_who v_bitsOf v_sizeOf v_number v_lifted) r_out (pcX7 o cI w_d v_kept v_images w_found v_aside v_base v_at v_size v_fault v_opened v_isCold v_names v_code v_coded v_pile v_horn v_brass v_coldAhead v_which v_whichMany v_bestPass v_bestLive v_bestCode v_traced v_traceMany v_who v_bitsOf v_sizeOf v_number v_lifted) := by
  refine Ent.metI (by decide +kernel) (Nat.le_of_ble_eq_true rfl) ?_
  intro p e s m args below meth c A ls hx hb hr hml hown hts hlocks hA hK hSt hP hD hS hl
  have hown : s.vm.findClass RX7 = some m.cls := hown
  have S : XFix p m c cX7_person 3 s args RX7 := ⟨hx, hb, hml, hown, hts⟩
  have hl : lv_has ls 3 [(0, .ref (o 0)), (1, .int p0)] := hl
  unfold f_X7_person at h
  refine lv_iload_n hx hb dX7_person_0 rfl (lv_at hl 1 rfl) ?_
  refine lv_i2l (v := (p0.toInt64)) hx hb dX7_person_1 rfl ?_
  refine lv_lconst (v := 0) hx hb dX7_person_2 (by decide) ?_
  refine lv_ldc2 (v := 69) hx hb hown (hts _ wd6_6) dX7_person_3 ?_
  obtain ⟨r_1, hc6, h⟩ := bd1_s h
  refine x_statI (As := [.long (p0.toInt64), .long 0, .long 69]) (rest := []) St0_ok S (c_X7_in l D cI cS o hc6) ys_X7_in wd6_7 ⟨Nat.le_of_ble_eq_true rfl, Nat.le_of_ble_eq_true rfl⟩ hK hSt hA hP hD hS rfl hl.1 rfl (Nat.le_of_ble_eq_true rfl) dX7_person_6 (Nat.zero_le _) (Nat.zero_le _) (fun H locs hP hD hS => ?_)
  refine x_if_ne (tgt := 18) hx hb h dX7_person_9 (by decide) (fun c9 h => ?_) (fun c9 h => ?_)
  · refine lv_aload_n hx hb dX7_person_18 rfl (lv_at hl 0 rfl) ?_
    refine gt_X7_7 S hK hP 0 rfl rfl dX7_person_19 ?_
    refine lv_iconst (v := 0) hx hb dX7_person_22 (by decide) ?_
    refine x_ald hx hb hK hP 1 h rfl rfl dX7_person_23 (fun x_2 ex_2 h => ?_)
    refine lv_bipush (v := 8) hx hb dX7_person_24 (by decide) ?_
    refine x_icmp_ne (tgt := 35) hx hb h dX7_person_26 (by decide) (fun c26 h => ?_) (fun c26 h => ?_)
    · refine lv_aload_n hx hb dX7_person_35 rfl (lv_at hl 0 rfl) ?_
      refine gt_X7_7 S hK hP 0 rfl rfl dX7_person_36 ?_
      refine lv_iconst (v := 0) hx hb dX7_person_39 (by decide) ?_
      refine x_ald hx hb hK hP 1 h rfl rfl dX7_person_40 (fun x_3 ex_3 h => ?_)
      refine lv_istore_n (lv' := [(2, .int x_3), (0, .ref (o 0)), (1, .int p0)]) hx hb dX7_person_41 rfl hl (by decide) rfl (fun ls hl => ?_)
      refine lv_aload_n hx hb dX7_person_42 rfl (lv_at hl 1 rfl) ?_
      refine gt_X7_7 S hK hP 0 rfl rfl dX7_person_43 ?_
      refine lv_iconst (v := 0) hx hb dX7_person_46 (by decide) ?_
      refine lv_dup2_11 hx hb dX7_person_47 rfl rfl ?_
      refine x_ald hx hb hK hP 1 h rfl rfl dX7_person_48 (fun x_4 ex_4 h => ?_)
      refine lv_iconst (v := 1) hx hb dX7_person_49 (by decide) ?_
      refine lv_iadd hx hb dX7_person_50 ?_
      refine x_ast hx hb hK hP hD hS 1 h rfl rfl dX7_person_51 (fun v_d_5 ev_d_5 h H locs hP hD hS => ?_)
      have hP : va_P D vwCl (pcX7 o cI v_d_5 v_kept v_images v_found v_aside v_base v_at v_size v_fault v_opened v_isCold v_names v_code v_coded v_pile v_horn v_brass v_coldAhead v_which v_whichMany v_bestPass v_bestLive v_bestCode v_traced v_traceMany v_who v_bitsOf v_sizeOf v_number v_lifted) H := hP
      have hD : va_D A (pcX7 o cI v_d_5 v_kept v_images v_found v_aside v_base v_at v_size v_fault v_opened v_isCold v_names v_code v_coded v_pile v_horn v_brass v_coldAhead v_which v_whichMany v_bestPass v_bestLive v_bestCode v_traced v_traceMany v_who v_bitsOf v_sizeOf v_number v_lifted) := hD
      refine lv_aload_n hx hb dX7_person_52 rfl (lv_at hl 1 rfl) ?_
      refine lv_iload_n hx hb dX7_person_53 rfl (lv_at hl 0 rfl) ?_
      refine lv_iconst (v := 0) hx hb dX7_person_54 (by decide) ?_
      refine lv_iload_n hx hb dX7_person_55 rfl (lv_at hl 2 rfl) ?_
      refine lv_bipush (v := 10) hx hb dX7_person_56 (by decide) ?_
      refine x_idiv hx hb h dX7_person_58 (fun h => ?_)
      obtain ⟨v_d_6, hc59, h⟩ := bd1_s h
      refine x_selfVv (As := [.int x_3, .int 0, .int (p0 / 10)]) (rest := []) St0_ok S (c_X7_sets l D cI cS o hc59) yf_X7_sets wd6_15 ⟨Nat.le_of_ble_eq_true rfl, Nat.le_of_ble_eq_true rfl⟩ hK hSt hA hP hD hS 0 rfl rfl rfl hl.1 rfl (Nat.le_of_ble_eq_true rfl) dX7_person_59 (Nat.zero_le _) (Nat.zero_le _) (fun H locs hP hD hS => ?_)
      refine lv_aload_n hx hb dX7_person_62 rfl (lv_at hl 1 rfl) ?_
      refine lv_iload_n hx hb dX7_person_63 rfl (lv_at hl 0 rfl) ?_
      refine lv_iconst (v := 1) hx hb dX7_person_64 (by decide) ?_
      refine lv_iload_n hx hb dX7_person_65 rfl (lv_at hl 2 rfl) ?_
      refine lv_bipush (v := 10) hx hb dX7_person_66 (by decide) ?_
      refine x_irem hx hb h dX7_person_68 (fun h => ?_)
      obtain ⟨v_d_7, hc69, h⟩ := bd1_s h
      refine x_selfVv (As := [.int x_3, .int 1, .int (rmI p0 10)]) (rest := []) St0_ok S (c_X7_sets l D cI cS o hc69) yf_X7_sets wd6_15 ⟨Nat.le_of_ble_eq_true rfl, Nat.le_of_ble_eq_true rfl⟩ hK hSt hA hP hD hS 0 rfl rfl rfl hl.1 rfl (Nat.le_of_ble_eq_true rfl) dX7_person_69 (Nat.zero_le _) (Nat.zero_le _) (fun H locs hP hD hS => ?_)
      refine lv_aload_n hx hb dX7_person_72 rfl (lv_at hl 1 rfl) ?_
      refine lv_iload_n hx hb dX7_person_73 rfl (lv_at hl 0 rfl) ?_
      refine lv_iconst (v := 2) hx hb dX7_person_74 (by decide) ?_
      refine lv_iconst (v := 4) hx hb dX7_person_75 (by decide) ?_
      obtain ⟨v_d_8, hc76, h⟩ := bd1_s h
      refine x_selfVv (As := [.int x_3, .int 2, .int 4]) (rest := []) St0_ok S (c_X7_sets l D cI cS o hc76) yf_X7_sets wd6_15 ⟨Nat.le_of_ble_eq_true rfl, Nat.le_of_ble_eq_true rfl⟩ hK hSt hA hP hD hS 0 rfl rfl rfl hl.1 rfl (Nat.le_of_ble_eq_true rfl) dX7_person_76 (Nat.zero_le _) (Nat.zero_le _) (fun H locs hP hD hS => ?_)
      refine lv_aload_n hx hb dX7_person_79 rfl (lv_at hl 1 rfl) ?_
      refine lv_iload_n hx hb dX7_person_80 rfl (lv_at hl 0 rfl) ?_
      refine lv_iconst (v := 3) hx hb dX7_person_81 (by decide) ?_
      refine lv_iconst (v := 1) hx hb dX7_person_82 (by decide) ?_
      obtain ⟨v_d_9, hc83, h⟩ := bd1_s h
      refine x_selfVv (As := [.int x_3, .int 3, .int 1]) (rest := []) St0_ok S (c_X7_sets l D cI cS o hc83) yf_X7_sets wd6_15 ⟨Nat.le_of_ble_eq_true rfl, Nat.le_of_ble_eq_true rfl⟩ hK hSt hA hP hD hS 0 rfl rfl rfl hl.1 rfl (Nat.le_of_ble_eq_true rfl) dX7_person_83 (Nat.zero_le _) (Nat.zero_le _) (fun H locs hP hD hS => ?_)
      refine lv_aload_n hx hb dX7_person_86 rfl (lv_at hl 1 rfl) ?_
      refine lv_iload_n hx hb dX7_person_87 rfl (lv_at hl 0 rfl) ?_
      refine lv_iconst (v := 4) hx hb dX7_person_88 (by decide) ?_
      refine lv_iconst (v := 0) hx hb dX7_person_89 (by decide) ?_
      obtain ⟨v_d_10, hc90, h⟩ := bd1_s h
      refine x_selfVv (As := [.int x_3, .int 4, .int 0]) (rest := []) St0_ok S (c_X7_sets l D cI cS o hc90) yf_X7_sets wd6_15 ⟨Nat.le_of_ble_eq_true rfl, Nat.le_of_ble_eq_true rfl⟩ hK hSt hA hP hD hS 0 rfl rfl rfl hl.1 rfl (Nat.le_of_ble_eq_true rfl) dX7_person_90 (Nat.zero_le _) (Nat.zero_le _) (fun H locs hP hD hS => ?_)
      refine lv_aload_n hx hb dX7_person_93 rfl (lv_at hl 1 rfl) ?_
      refine lv_iload_n hx hb dX7_person_94 rfl (lv_at hl 0 rfl) ?_
      refine lv_iconst (v := 5) hx hb dX7_person_95 (by decide) ?_
      refine lv_bipush (v := 99) hx hb dX7_person_96 (by decide) ?_
      obtain ⟨v_d_11, hc98, h⟩ := bd1_s h
      refine x_selfVv (As := [.int x_3, .int 5, .int 99]) (rest := []) St0_ok S (c_X7_sets l D cI cS o hc98) yf_X7_sets wd6_15 ⟨Nat.le_of_ble_eq_true rfl, Nat.le_of_ble_eq_true rfl⟩ hK hSt hA hP hD hS 0 rfl rfl rfl hl.1 rfl (Nat.le_of_ble_eq_true rfl) dX7_person_98 (Nat.zero_le _) (Nat.zero_le _) (fun H locs hP hD hS => ?_)
      refine lv_iload_n hx hb dX7_person_101 rfl (lv_at hl 0 rfl) ?_
      cases h
      exact x_iret hx hb hr hlocks hK hP hD hS rfl rfl dX7_person_102
    · refine lv_aload_n hx hb dX7_person_29 rfl (lv_at hl 0 rfl) ?_
      refine lv_iconst (v := 4) hx hb dX7_person_30 (by decide) ?_
      obtain ⟨v_found_12, r_13, hc31, h⟩ := bd2_s h
      refine x_selfVi (As := [.int 4]) (rest := []) St0_ok S (c_X7_finds l D cI cS o hc31) yf_X7_finds wd6_10 ⟨Nat.le_of_ble_eq_true rfl, Nat.le_of_ble_eq_true rfl⟩ hK hSt hA hP hD hS 0 rfl rfl rfl hl.1 rfl (Nat.le_of_ble_eq_true rfl) dX7_person_31 (Nat.zero_le _) (Nat.zero_le _) (fun H locs hP hD hS => ?_)
      cases h
      exact x_iret hx hb hr hlocks hK hP hD hS rfl rfl dX7_person_34
  · refine lv_aload_n hx hb dX7_person_12 rfl (lv_at hl 0 rfl) ?_
    refine lv_iconst (v := 1) hx hb dX7_person_13 (by decide) ?_
    obtain ⟨v_found_14, r_15, hc14, h⟩ := bd2_s h
    refine x_selfVi (As := [.int 1]) (rest := []) St0_ok S (c_X7_finds l D cI cS o hc14) yf_X7_finds wd6_10 ⟨Nat.le_of_ble_eq_true rfl, Nat.le_of_ble_eq_true rfl⟩ hK hSt hA hP hD hS 0 rfl rfl rfl hl.1 rfl (Nat.le_of_ble_eq_true rfl) dX7_person_14 (Nat.zero_le _) (Nat.zero_le _) (fun H locs hP hD hS => ?_)
    cases h
    exact x_iret hx hb hr hlocks hK hP hD hS rfl rfl dX7_person_17

def f_X7_ofPerson  (v_d : Nat → Int32) (v_found : Nat → Int32) (v_names : Nat → Int32) (v_pile : Nat → Int32) (v_horn : Int32) (v_brass : Int32) (p0 : Int32) (p1 : Int32) : Option ((Nat → Int32) × (Nat → Int32) × (Nat → Int32) × (Int32) × (Int32) × (Int32)) :=
  bd1 (f_X7_isPerson v_d p0) (fun r_1 => jnA (bd2 (f_X7_finds v_found 1) (fun v_found_2 r_3 => some (v_found_2, v_names, v_pile, v_horn, v_brass, r_3))) (fun J20 => (if r_1 = 0 then J20 else bd1 (f_X7_in (p1.toInt64) 0 9) (fun r_4 => (if r_4 = 0 then J20 else (if p1 = 6 then bd1 (f_X7_isWilling v_d p0) (fun r_5 => (if r_5 = 0 then some (v_found, v_names, v_pile, v_horn, v_brass, 0) else some (v_found, v_names, v_pile, v_horn, v_brass, 1))) else (if p1 = 7 then bd2 (f_X7_cuts v_d v_horn v_brass p0) (fun v_horn_6 v_brass_7 => some (v_found, v_names, v_pile, v_horn_6, v_brass_7, (v_horn_6 + v_brass_7))) else (if p1 = 8 then bd3 (f_X7_counts v_d v_horn v_brass p0) (fun v_horn_8 v_brass_9 r_10 => some (v_found, v_names, v_pile, v_horn_8, v_brass_9, r_10)) else (if p1 = 9 then bd3 (f_X7_coldNow v_d v_names v_pile) (fun v_names_11 v_pile_12 r_13 => bd3 (f_X7_chillOf v_d v_names_11 v_pile_12 p0 r_13) (fun v_names_14 v_pile_15 r_16 => some (v_found, v_names_14, v_pile_15, v_horn, v_brass, r_16))) else bd1 (f_X7_of v_d p0 p1) (fun r_17 => some (v_found, v_names, v_pile, v_horn, v_brass, r_17)))))))))))
set_option maxHeartbeats 600000 in
set_option maxRecDepth 100000 in
theorem c_X7_ofPerson (l : Launch) (D : va_G) (cI cS : ClassId) (o : Nat → Nat) {v_d : Nat → Int32} {v_kept : Nat → Int32} {v_images : Int32} {v_found : Nat → Int32} {v_aside : Nat → Int32} {v_base : Int32} {v_at : Int32} {v_size : Int32} {v_fault : Int32} {v_opened : Int32} {v_isCold : Int32} {v_names : Nat → Int32} {v_code : Nat → Int32} {v_coded : Int32} {v_pile : Nat → Int32} {v_horn : Int32} {v_brass : Int32} {v_coldAhead : Nat → Int32} {v_which : Nat → Int32} {v_whichMany : Int32} {v_bestPass : Int32} {v_bestLive : Int32} {v_bestCode : Int32} {v_traced : Nat → Int32} {v_traceMany : Int32} {v_who : Int32} {v_bitsOf : Nat → Int32} {v_sizeOf : Nat → Int32} {v_number : Nat → Int32} {v_lifted : Nat → Int32} {p0 : Int32} {p1 : Int32} {w_found : Nat → Int32} {w_names : Nat → Int32} {w_pile : Nat → Int32} {w_horn : Int32} {w_brass : Int32} {r_out : Int32} (h : f_X7_ofPerson  v_d v_found v_names v_pile v_horn v_brass p0 p1 = some (w_found, w_names, w_pile, w_horn, w_brass, r_out)) : MetI l D (tysX cI cS) St0 yX7_ofPerson cX7_ofPerson 3 (some .int) 5 109 [.ref (o 0), .int p0, .int p1] (pcX7 o cI v_d v_kept v_images v_found v_aside v_base v_at v_size v_fault v_opened v_isCold v_names v_code v_coded v_pile v_horn v_brass v_coldAhead v_which v_whichMany v_bestPass v_bestLive v_bestCode v_traced v_traceMany v_who v_bitsOf v_sizeOf v_number v_lifted) r_out (pcX7 o cI v_d v_kept v_images w_found v_aside v_base v_at v_size v_fault v_opened v_isCold w_names v_code v_coded w_pile w_horn w_brass v_coldAhead v_which v_whichMany v_bestPass v_bestLive v_bestCode v_traced v_traceMany v_who v_bitsOf v_sizeOf v_number v_lifted) := by
  refine Ent.metI (by decide +kernel) (Nat.le_of_ble_eq_true rfl) ?_
  intro p e s m args below meth c A ls hx hb hr hml hown hts hlocks hA hK hSt hP hD hS hl
  have hown : s.vm.findClass RX7 = some m.cls := hown
  have S : XFix p m c cX7_ofPerson 3 s args RX7 := ⟨hx, hb, hml, hown, hts⟩
  have hl : lv_has ls 3 [(0, .ref (o 0)), (1, .int p0), (2, .int p1)] := hl
  unfold f_X7_ofPerson at h
  refine lv_aload_n hx hb dX7_ofPerson_0 rfl (lv_at hl 0 rfl) ?_
  refine lv_iload_n hx hb dX7_ofPerson_1 rfl (lv_at hl 1 rfl) ?_
  obtain ⟨r_1, hc2, h⟩ := bd1_s h
  refine x_selfVi (As := [.int p0]) (rest := []) St0_ok S (c_X7_isPerson l D cI cS o hc2) yf_X7_isPerson wd10_3 ⟨Nat.le_of_ble_eq_true rfl, Nat.le_of_ble_eq_true rfl⟩ hK hSt hA hP hD hS 0 rfl rfl rfl hl.1 rfl (Nat.le_of_ble_eq_true rfl) dX7_ofPerson_2 (Nat.zero_le _) (Nat.zero_le _) (fun H locs hP hD hS => ?_)
  obtain ⟨J20, eJ20, h⟩ := jnA_s h
  have wJ20 : J20  = some (w_found, w_names, w_pile, w_horn, w_brass, r_out) → ∀ (H : Heap) (locs : List Loc), va_P D vwCl (pcX7 o cI v_d v_kept v_images v_found v_aside v_base v_at v_size v_fault v_opened v_isCold v_names v_code v_coded v_pile v_horn v_brass v_coldAhead v_which v_whichMany v_bestPass v_bestLive v_bestCode v_traced v_traceMany v_who v_bitsOf v_sizeOf v_number v_lifted) H → va_D A (pcX7 o cI v_d v_kept v_images v_found v_aside v_base v_at v_size v_fault v_opened v_isCold v_names v_code v_coded v_pile v_horn v_brass v_coldAhead v_which v_whichMany v_bestPass v_bestLive v_bestCode v_traced v_traceMany v_who v_bitsOf v_sizeOf v_number v_lifted) → va_S A s.heap H locs → ∀ ls : Array Slot, lv_has ls 3 [(0, .ref (o 0))] → WI p l e 5 109 s m args below meth c D (tysX cI cS) A r_out (pcX7 o cI v_d v_kept v_images w_found v_aside v_base v_at v_size v_fault v_opened v_isCold w_names v_code v_coded w_pile w_horn w_brass v_coldAhead v_which v_whichMany v_bestPass v_bestLive v_bestCode v_traced v_traceMany v_who v_bitsOf v_sizeOf v_number v_lifted) H locs (F0 m 20 ls []) := by
      intro h H locs hP hD hS ls hl
      subst eJ20
      refine lv_aload_n hx hb dX7_ofPerson_20 rfl (lv_at hl 0 rfl) ?_
      refine lv_iconst (v := 1) hx hb dX7_ofPerson_21 (by decide) ?_
      obtain ⟨v_found_2, r_3, hc22, h⟩ := bd2_s h
      refine x_selfVi (As := [.int 1]) (rest := []) St0_ok S (c_X7_finds l D cI cS o hc22) yf_X7_finds wd6_10 ⟨Nat.le_of_ble_eq_true rfl, Nat.le_of_ble_eq_true rfl⟩ hK hSt hA hP hD hS 0 rfl rfl rfl hl.1 rfl (Nat.le_of_ble_eq_true rfl) dX7_ofPerson_22 (Nat.zero_le _) (Nat.zero_le _) (fun H locs hP hD hS => ?_)
      cases h
      exact x_iret hx hb hr hlocks hK hP hD hS rfl rfl dX7_ofPerson_25
  refine x_if_eq (tgt := 20) hx hb h dX7_ofPerson_5 (by decide) (fun c5 h => ?_) (fun c5 h => ?_)
  · exact wJ20 h _ _ hP hD hS _ (lv_sub hl [0] rfl)
  · refine lv_iload_n hx hb dX7_ofPerson_8 rfl (lv_at hl 2 rfl) ?_
    refine lv_i2l (v := (p1.toInt64)) hx hb dX7_ofPerson_9 rfl ?_
    refine lv_lconst (v := 0) hx hb dX7_ofPerson_10 (by decide) ?_
    refine lv_ldc2 (v := 9) hx hb hown (hts _ wd10_0) dX7_ofPerson_11 ?_
    obtain ⟨r_4, hc14, h⟩ := bd1_s h
    refine x_statI (As := [.long (p1.toInt64), .long 0, .long 9]) (rest := []) St0_ok S (c_X7_in l D cI cS o hc14) ys_X7_in wd6_7 ⟨Nat.le_of_ble_eq_true rfl, Nat.le_of_ble_eq_true rfl⟩ hK hSt hA hP hD hS rfl hl.1 rfl (Nat.le_of_ble_eq_true rfl) dX7_ofPerson_14 (Nat.zero_le _) (Nat.zero_le _) (fun H locs hP hD hS => ?_)
    refine x_if_ne (tgt := 26) hx hb h dX7_ofPerson_17 (by decide) (fun c17 h => ?_) (fun c17 h => ?_)
    · refine lv_iload_n hx hb dX7_ofPerson_26 rfl (lv_at hl 2 rfl) ?_
      by_cases c27_0 : p1 = 6
      · replace h := ite_t c27_0 h
        refine lv_tableIn (off := 29) (tgt := 56) hx hb dX7_ofPerson_27 (by rw [c27_0]; decide) (by rw [c27_0]; decide) (by rw [c27_0]; rfl) (by decide) ?_
        refine lv_aload_n hx hb dX7_ofPerson_56 rfl (lv_at hl 0 rfl) ?_
        refine lv_iload_n hx hb dX7_ofPerson_57 rfl (lv_at hl 1 rfl) ?_
        obtain ⟨r_5, hc58, h⟩ := bd1_s h
        refine x_selfVi (As := [.int p0]) (rest := []) St0_ok S (c_X7_isWilling l D cI cS o hc58) yf_X7_isWilling wd10_7 ⟨Nat.le_of_ble_eq_true rfl, Nat.le_of_ble_eq_true rfl⟩ hK hSt hA hP hD hS 0 rfl rfl rfl hl.1 rfl (Nat.le_of_ble_eq_true rfl) dX7_ofPerson_58 (Nat.zero_le _) (Nat.zero_le _) (fun H locs hP hD hS => ?_)
        refine x_if_eq (tgt := 68) hx hb h dX7_ofPerson_61 (by decide) (fun c61 h => ?_) (fun c61 h => ?_)
        · refine lv_iconst (v := 0) hx hb dX7_ofPerson_68 (by decide) ?_
          cases h
          exact x_iret hx hb hr hlocks hK hP hD hS rfl rfl dX7_ofPerson_69
        · refine lv_iconst (v := 1) hx hb dX7_ofPerson_64 (by decide) ?_
          refine lv_goto (tgt := 69) hx hb dX7_ofPerson_65 (by decide) ?_
          cases h
          exact x_iret hx hb hr hlocks hK hP hD hS rfl rfl dX7_ofPerson_69
      replace h := ite_f c27_0 h
      by_cases c27_1 : p1 = 7
      · replace h := ite_t c27_1 h
        refine lv_tableIn (off := 43) (tgt := 70) hx hb dX7_ofPerson_27 (by rw [c27_1]; decide) (by rw [c27_1]; decide) (by rw [c27_1]; rfl) (by decide) ?_
        refine lv_aload_n hx hb dX7_ofPerson_70 rfl (lv_at hl 0 rfl) ?_
        refine lv_iload_n hx hb dX7_ofPerson_71 rfl (lv_at hl 1 rfl) ?_
        obtain ⟨v_horn_6, v_brass_7, hc72, h⟩ := bd2_s h
        refine x_selfVv (As := [.int p0]) (rest := []) St0_ok S (c_X7_cuts l D cI cS o hc72) yf_X7_cuts wd10_19 ⟨Nat.le_of_ble_eq_true rfl, Nat.le_of_ble_eq_true rfl⟩ hK hSt hA hP hD hS 0 rfl rfl rfl hl.1 rfl (Nat.le_of_ble_eq_true rfl) dX7_ofPerson_72 (Nat.zero_le _) (Nat.zero_le _) (fun H locs hP hD hS => ?_)
        refine lv_aload_n hx hb dX7_ofPerson_75 rfl (lv_at hl 0 rfl) ?_
        refine gt_X7_156 S hK hP 0 rfl rfl dX7_ofPerson_76 ?_
        refine lv_aload_n hx hb dX7_ofPerson_79 rfl (lv_at hl 0 rfl) ?_
        refine gt_X7_159 S hK hP 0 rfl rfl dX7_ofPerson_80 ?_
        refine lv_iadd hx hb dX7_ofPerson_83 ?_
        cases h
        exact x_iret hx hb hr hlocks hK hP hD hS rfl rfl dX7_ofPerson_84
      replace h := ite_f c27_1 h
      by_cases c27_2 : p1 = 8
      · replace h := ite_t c27_2 h
        refine lv_tableIn (off := 58) (tgt := 85) hx hb dX7_ofPerson_27 (by rw [c27_2]; decide) (by rw [c27_2]; decide) (by rw [c27_2]; rfl) (by decide) ?_
        refine lv_aload_n hx hb dX7_ofPerson_85 rfl (lv_at hl 0 rfl) ?_
        refine lv_iload_n hx hb dX7_ofPerson_86 rfl (lv_at hl 1 rfl) ?_
        obtain ⟨v_horn_8, v_brass_9, r_10, hc87, h⟩ := bd3_s h
        refine x_selfVi (As := [.int p0]) (rest := []) St0_ok S (c_X7_counts l D cI cS o hc87) yf_X7_counts wd11_3 ⟨Nat.le_of_ble_eq_true rfl, Nat.le_of_ble_eq_true rfl⟩ hK hSt hA hP hD hS 0 rfl rfl rfl hl.1 rfl (Nat.le_of_ble_eq_true rfl) dX7_ofPerson_87 (Nat.zero_le _) (Nat.zero_le _) (fun H locs hP hD hS => ?_)
        cases h
        exact x_iret hx hb hr hlocks hK hP hD hS rfl rfl dX7_ofPerson_90
      replace h := ite_f c27_2 h
      by_cases c27_3 : p1 = 9
      · replace h := ite_t c27_3 h
        refine lv_tableIn (off := 64) (tgt := 91) hx hb dX7_ofPerson_27 (by rw [c27_3]; decide) (by rw [c27_3]; decide) (by rw [c27_3]; rfl) (by decide) ?_
        refine lv_aload_n hx hb dX7_ofPerson_91 rfl (lv_at hl 0 rfl) ?_
        refine lv_iload_n hx hb dX7_ofPerson_92 rfl (lv_at hl 1 rfl) ?_
        refine lv_aload_n hx hb dX7_ofPerson_93 rfl (lv_at hl 0 rfl) ?_
        obtain ⟨v_names_11, v_pile_12, r_13, hc94, h⟩ := bd3_s h
        refine x_selfVi (As := []) (rest := [.int p0, .ref (o 0)]) St0_ok S (c_X7_coldNow l D cI cS o hc94) yf_X7_coldNow wd11_7 ⟨Nat.le_of_ble_eq_true rfl, Nat.le_of_ble_eq_true rfl⟩ hK hSt hA hP hD hS 0 rfl rfl rfl hl.1 rfl (Nat.le_of_ble_eq_true rfl) dX7_ofPerson_94 (Nat.zero_le _) (Nat.zero_le _) (fun H locs hP hD hS => ?_)
        obtain ⟨v_names_14, v_pile_15, r_16, hc97, h⟩ := bd3_s h
        refine x_selfVi (As := [.int p0, .int r_13]) (rest := []) St0_ok S (c_X7_chillOf l D cI cS o hc97) yf_X7_chillOf wd12_9 ⟨Nat.le_of_ble_eq_true rfl, Nat.le_of_ble_eq_true rfl⟩ hK hSt hA hP hD hS 0 rfl rfl rfl hl.1 rfl (Nat.le_of_ble_eq_true rfl) dX7_ofPerson_97 (Nat.zero_le _) (Nat.zero_le _) (fun H locs hP hD hS => ?_)
        cases h
        exact x_iret hx hb hr hlocks hK hP hD hS rfl rfl dX7_ofPerson_100
      replace h := ite_f c27_3 h
      refine lv_tableOut (tgt := 101) hx hb dX7_ofPerson_27 (by have n0 := lv_neT c27_0 (show ((6) : Int32).toInt = 6 by decide); have n1 := lv_neT c27_1 (show ((7) : Int32).toInt = 7 by decide); have n2 := lv_neT c27_2 (show ((8) : Int32).toInt = 8 by decide); have n3 := lv_neT c27_3 (show ((9) : Int32).toInt = 9 by decide); omega) (by decide) ?_
      refine lv_aload_n hx hb dX7_ofPerson_101 rfl (lv_at hl 0 rfl) ?_
      refine lv_iload_n hx hb dX7_ofPerson_102 rfl (lv_at hl 1 rfl) ?_
      refine lv_iload_n hx hb dX7_ofPerson_103 rfl (lv_at hl 2 rfl) ?_
      obtain ⟨r_17, hc104, h⟩ := bd1_s h
      refine x_selfVi (As := [.int p0, .int p1]) (rest := []) St0_ok S (c_X7_of l D cI cS o hc104) yf_X7_of wd10_11 ⟨Nat.le_of_ble_eq_true rfl, Nat.le_of_ble_eq_true rfl⟩ hK hSt hA hP hD hS 0 rfl rfl rfl hl.1 rfl (Nat.le_of_ble_eq_true rfl) dX7_ofPerson_104 (Nat.zero_le _) (Nat.zero_le _) (fun H locs hP hD hS => ?_)
      cases h
      exact x_iret hx hb hr hlocks hK hP hD hS rfl rfl dX7_ofPerson_107
    · exact wJ20 h _ _ hP hD hS _ (lv_sub hl [0] rfl)

def f_X7_change  (v_d : Nat → Int32) (v_found : Nat → Int32) (p0 : Int32) (p1 : Int32) (p2 : Int32) : Option ((Nat → Int32) × (Nat → Int32) × (Int32)) :=
  bd1 (f_X7_isPerson v_d p0) (fun r_1 => jnA (bd2 (f_X7_finds v_found 1) (fun v_found_2 r_3 => some (v_d, v_found_2, r_3))) (fun J43 => (if r_1 = 0 then J43 else bd1 (f_X7_in (p1.toInt64) 0 3) (fun r_4 => (if r_4 = 0 then J43 else jnA (fun (t0_5 : Int64) => bd1 (f_X7_in (p2.toInt64) 0 t0_5) (fun r_6 => (if r_6 = 0 then J43 else bd1 (f_X7_of v_d p0 (2 + p1)) (fun r_7 => bd1 (f_X7_sets v_d p0 (2 + p1) p2) (fun v_d_8 => some (v_d_8, v_found, r_7)))))) (fun J37 => (if 2 ≤ p1 then J37 99 else J37 9)))))))
set_option maxHeartbeats 600000 in
set_option maxRecDepth 100000 in
theorem c_X7_change (l : Launch) (D : va_G) (cI cS : ClassId) (o : Nat → Nat) {v_d : Nat → Int32} {v_kept : Nat → Int32} {v_images : Int32} {v_found : Nat → Int32} {v_aside : Nat → Int32} {v_base : Int32} {v_at : Int32} {v_size : Int32} {v_fault : Int32} {v_opened : Int32} {v_isCold : Int32} {v_names : Nat → Int32} {v_code : Nat → Int32} {v_coded : Int32} {v_pile : Nat → Int32} {v_horn : Int32} {v_brass : Int32} {v_coldAhead : Nat → Int32} {v_which : Nat → Int32} {v_whichMany : Int32} {v_bestPass : Int32} {v_bestLive : Int32} {v_bestCode : Int32} {v_traced : Nat → Int32} {v_traceMany : Int32} {v_who : Int32} {v_bitsOf : Nat → Int32} {v_sizeOf : Nat → Int32} {v_number : Nat → Int32} {v_lifted : Nat → Int32} {p0 : Int32} {p1 : Int32} {p2 : Int32} {w_d : Nat → Int32} {w_found : Nat → Int32} {r_out : Int32} (h : f_X7_change  v_d v_found p0 p1 p2 = some (w_d, w_found, r_out)) : MetI l D (tysX cI cS) St0 yX7_change cX7_change 5 (some .int) 2 46 [.ref (o 0), .int p0, .int p1, .int p2] (pcX7 o cI v_d v_kept v_images v_found v_aside v_base v_at v_size v_fault v_opened v_isCold v_names v_code v_coded v_pile v_horn v_brass v_coldAhead v_which v_whichMany v_bestPass v_bestLive v_bestCode v_traced v_traceMany v_who v_bitsOf v_sizeOf v_number v_lifted) r_out (pcX7 o cI w_d v_kept v_images w_found v_aside v_base v_at v_size v_fault v_opened v_isCold v_names v_code v_coded v_pile v_horn v_brass v_coldAhead v_which v_whichMany v_bestPass v_bestLive v_bestCode v_traced v_traceMany v_who v_bitsOf v_sizeOf v_number v_lifted) := by
  refine Ent.metI (by decide +kernel) (Nat.le_of_ble_eq_true rfl) ?_
  intro p e s m args below meth c A ls hx hb hr hml hown hts hlocks hA hK hSt hP hD hS hl
  have hown : s.vm.findClass RX7 = some m.cls := hown
  have S : XFix p m c cX7_change 5 s args RX7 := ⟨hx, hb, hml, hown, hts⟩
  have hl : lv_has ls 5 [(0, .ref (o 0)), (1, .int p0), (2, .int p1), (3, .int p2)] := hl
  unfold f_X7_change at h
  refine lv_aload_n hx hb dX7_change_0 rfl (lv_at hl 0 rfl) ?_
  refine lv_iload_n hx hb dX7_change_1 rfl (lv_at hl 1 rfl) ?_
  obtain ⟨r_1, hc2, h⟩ := bd1_s h
  refine x_selfVi (As := [.int p0]) (rest := []) St0_ok S (c_X7_isPerson l D cI cS o hc2) yf_X7_isPerson wd10_3 ⟨Nat.le_of_ble_eq_true rfl, Nat.le_of_ble_eq_true rfl⟩ hK hSt hA hP hD hS 0 rfl rfl rfl hl.1 rfl (Nat.le_of_ble_eq_true rfl) dX7_change_2 (Nat.zero_le _) (Nat.zero_le _) (fun H locs hP hD hS => ?_)
  obtain ⟨J43, eJ43, h⟩ := jnA_s h
  have wJ43 : J43  = some (w_d, w_found, r_out) → ∀ (H : Heap) (locs : List Loc), va_P D vwCl (pcX7 o cI v_d v_kept v_images v_found v_aside v_base v_at v_size v_fault v_opened v_isCold v_names v_code v_coded v_pile v_horn v_brass v_coldAhead v_which v_whichMany v_bestPass v_bestLive v_bestCode v_traced v_traceMany v_who v_bitsOf v_sizeOf v_number v_lifted) H → va_D A (pcX7 o cI v_d v_kept v_images v_found v_aside v_base v_at v_size v_fault v_opened v_isCold v_names v_code v_coded v_pile v_horn v_brass v_coldAhead v_which v_whichMany v_bestPass v_bestLive v_bestCode v_traced v_traceMany v_who v_bitsOf v_sizeOf v_number v_lifted) → va_S A s.heap H locs → ∀ ls : Array Slot, lv_has ls 5 [(0, .ref (o 0))] → WI p l e 2 46 s m args below meth c D (tysX cI cS) A r_out (pcX7 o cI w_d v_kept v_images w_found v_aside v_base v_at v_size v_fault v_opened v_isCold v_names v_code v_coded v_pile v_horn v_brass v_coldAhead v_which v_whichMany v_bestPass v_bestLive v_bestCode v_traced v_traceMany v_who v_bitsOf v_sizeOf v_number v_lifted) H locs (F0 m 43 ls []) := by
      intro h H locs hP hD hS ls hl
      subst eJ43
      refine lv_aload_n hx hb dX7_change_43 rfl (lv_at hl 0 rfl) ?_
      refine lv_iconst (v := 1) hx hb dX7_change_44 (by decide) ?_
      obtain ⟨v_found_2, r_3, hc45, h⟩ := bd2_s h
      refine x_selfVi (As := [.int 1]) (rest := []) St0_ok S (c_X7_finds l D cI cS o hc45) yf_X7_finds wd6_10 ⟨Nat.le_of_ble_eq_true rfl, Nat.le_of_ble_eq_true rfl⟩ hK hSt hA hP hD hS 0 rfl rfl rfl hl.1 rfl (Nat.le_of_ble_eq_true rfl) dX7_change_45 (Nat.zero_le _) (Nat.zero_le _) (fun H locs hP hD hS => ?_)
      cases h
      exact x_iret hx hb hr hlocks hK hP hD hS rfl rfl dX7_change_48
  refine x_if_eq (tgt := 43) hx hb h dX7_change_5 (by decide) (fun c5 h => ?_) (fun c5 h => ?_)
  · exact wJ43 h _ _ hP hD hS _ (lv_sub hl [0] rfl)
  · refine lv_iload_n hx hb dX7_change_8 rfl (lv_at hl 2 rfl) ?_
    refine lv_i2l (v := (p1.toInt64)) hx hb dX7_change_9 rfl ?_
    refine lv_lconst (v := 0) hx hb dX7_change_10 (by decide) ?_
    refine lv_ldc2 (v := 3) hx hb hown (hts _ wd13_1) dX7_change_11 ?_
    obtain ⟨r_4, hc14, h⟩ := bd1_s h
    refine x_statI (As := [.long (p1.toInt64), .long 0, .long 3]) (rest := []) St0_ok S (c_X7_in l D cI cS o hc14) ys_X7_in wd6_7 ⟨Nat.le_of_ble_eq_true rfl, Nat.le_of_ble_eq_true rfl⟩ hK hSt hA hP hD hS rfl hl.1 rfl (Nat.le_of_ble_eq_true rfl) dX7_change_14 (Nat.zero_le _) (Nat.zero_le _) (fun H locs hP hD hS => ?_)
    refine x_if_eq (tgt := 43) hx hb h dX7_change_17 (by decide) (fun c17 h => ?_) (fun c17 h => ?_)
    · exact wJ43 h _ _ hP hD hS _ (lv_sub hl [0] rfl)
    · refine lv_iload_n hx hb dX7_change_20 rfl (lv_at hl 3 rfl) ?_
      refine lv_i2l (v := (p2.toInt64)) hx hb dX7_change_21 rfl ?_
      refine lv_lconst (v := 0) hx hb dX7_change_22 (by decide) ?_
      refine lv_iload_n hx hb dX7_change_23 rfl (lv_at hl 2 rfl) ?_
      refine lv_iconst (v := 2) hx hb dX7_change_24 (by decide) ?_
      obtain ⟨J37, eJ37, h⟩ := jnA_s h
      have wJ37 : ∀ (t0_5 : Int64), J37 t0_5 = some (w_d, w_found, r_out) → ∀ (H : Heap) (locs : List Loc), va_P D vwCl (pcX7 o cI v_d v_kept v_images v_found v_aside v_base v_at v_size v_fault v_opened v_isCold v_names v_code v_coded v_pile v_horn v_brass v_coldAhead v_which v_whichMany v_bestPass v_bestLive v_bestCode v_traced v_traceMany v_who v_bitsOf v_sizeOf v_number v_lifted) H → va_D A (pcX7 o cI v_d v_kept v_images v_found v_aside v_base v_at v_size v_fault v_opened v_isCold v_names v_code v_coded v_pile v_horn v_brass v_coldAhead v_which v_whichMany v_bestPass v_bestLive v_bestCode v_traced v_traceMany v_who v_bitsOf v_sizeOf v_number v_lifted) → va_S A s.heap H locs → ∀ ls : Array Slot, lv_has ls 5 [(0, .ref (o 0)), (1, .int p0), (2, .int p1), (3, .int p2)] → WI p l e 2 46 s m args below meth c D (tysX cI cS) A r_out (pcX7 o cI w_d v_kept v_images w_found v_aside v_base v_at v_size v_fault v_opened v_isCold v_names v_code v_coded v_pile v_horn v_brass v_coldAhead v_which v_whichMany v_bestPass v_bestLive v_bestCode v_traced v_traceMany v_who v_bitsOf v_sizeOf v_number v_lifted) H locs (F0 m 37 ls [.long t0_5, .long 0, .long (p2.toInt64)]) := by
          intro t0_5 h H locs hP hD hS ls hl
          subst eJ37
          dsimp only at h
          obtain ⟨r_6, hc37, h⟩ := bd1_s h
          refine x_statI (As := [.long (p2.toInt64), .long 0, .long t0_5]) (rest := []) St0_ok S (c_X7_in l D cI cS o hc37) ys_X7_in wd6_7 ⟨Nat.le_of_ble_eq_true rfl, Nat.le_of_ble_eq_true rfl⟩ hK hSt hA hP hD hS rfl hl.1 rfl (Nat.le_of_ble_eq_true rfl) dX7_change_37 (Nat.zero_le _) (Nat.zero_le _) (fun H locs hP hD hS => ?_)
          refine x_if_ne (tgt := 49) hx hb h dX7_change_40 (by decide) (fun c40 h => ?_) (fun c40 h => ?_)
          · refine lv_aload_n hx hb dX7_change_49 rfl (lv_at hl 0 rfl) ?_
            refine lv_iload_n hx hb dX7_change_50 rfl (lv_at hl 1 rfl) ?_
            refine lv_iconst (v := 2) hx hb dX7_change_51 (by decide) ?_
            refine lv_iload_n hx hb dX7_change_52 rfl (lv_at hl 2 rfl) ?_
            refine lv_iadd hx hb dX7_change_53 ?_
            obtain ⟨r_7, hc54, h⟩ := bd1_s h
            refine x_selfVi (As := [.int p0, .int (2 + p1)]) (rest := []) St0_ok S (c_X7_of l D cI cS o hc54) yf_X7_of wd10_11 ⟨Nat.le_of_ble_eq_true rfl, Nat.le_of_ble_eq_true rfl⟩ hK hSt hA hP hD hS 0 rfl rfl rfl hl.1 rfl (Nat.le_of_ble_eq_true rfl) dX7_change_54 (Nat.zero_le _) (Nat.zero_le _) (fun H locs hP hD hS => ?_)
            refine lv_istore (lv' := [(4, .int r_7), (0, .ref (o 0)), (1, .int p0), (2, .int p1), (3, .int p2)]) hx hb dX7_change_57 hl (by decide) rfl (fun ls hl => ?_)
            refine lv_aload_n hx hb dX7_change_59 rfl (lv_at hl 1 rfl) ?_
            refine lv_iload_n hx hb dX7_change_60 rfl (lv_at hl 2 rfl) ?_
            refine lv_iconst (v := 2) hx hb dX7_change_61 (by decide) ?_
            refine lv_iload_n hx hb dX7_change_62 rfl (lv_at hl 3 rfl) ?_
            refine lv_iadd hx hb dX7_change_63 ?_
            refine lv_iload_n hx hb dX7_change_64 rfl (lv_at hl 4 rfl) ?_
            obtain ⟨v_d_8, hc65, h⟩ := bd1_s h
            refine x_selfVv (As := [.int p0, .int (2 + p1), .int p2]) (rest := []) St0_ok S (c_X7_sets l D cI cS o hc65) yf_X7_sets wd6_15 ⟨Nat.le_of_ble_eq_true rfl, Nat.le_of_ble_eq_true rfl⟩ hK hSt hA hP hD hS 0 rfl rfl rfl hl.1 rfl (Nat.le_of_ble_eq_true rfl) dX7_change_65 (Nat.zero_le _) (Nat.zero_le _) (fun H locs hP hD hS => ?_)
            refine lv_iload hx hb dX7_change_68 (lv_at hl 0 rfl) ?_
            cases h
            exact x_iret hx hb hr hlocks hK hP hD hS rfl rfl dX7_change_70
          · exact wJ43 h _ _ hP hD hS _ (lv_sub hl [0] rfl)
      refine x_icmp_ge (tgt := 34) hx hb h dX7_change_25 (by decide) (fun c25 h => ?_) (fun c25 h => ?_)
      · refine lv_ldc2 (v := 99) hx hb hown (hts _ wd13_2) dX7_change_34 ?_
        exact wJ37 99 h _ _ hP hD hS _ (lv_sub hl [0, 1, 2, 3] rfl)
      · refine lv_ldc2 (v := 9) hx hb hown (hts _ wd10_0) dX7_change_28 ?_
        refine lv_goto (tgt := 37) hx hb dX7_change_31 (by decide) ?_
        exact wJ37 9 h _ _ hP hD hS _ (lv_sub hl [0, 1, 2, 3] rfl)

def f_X7_become  (v_d : Nat → Int32) (v_found : Nat → Int32) (p0 : Int32) (p1 : Int32) : Option ((Nat → Int32) × (Nat → Int32) × (Int32)) :=
  bd1 (f_X7_isPerson v_d p0) (fun r_1 => jnA (bd2 (f_X7_finds v_found 1) (fun v_found_2 r_3 => some (v_d, v_found_2, r_3))) (fun J20 => (if r_1 = 0 then J20 else bd1 (f_X7_in (p1.toInt64) 0 69) (fun r_4 => (if r_4 = 0 then J20 else bd1 (f_X7_of v_d p0 0) (fun r_5 => nzA 10 (bd1 (f_X7_sets v_d p0 0 (p1 / 10)) (fun v_d_6 => nzA 10 (bd1 (f_X7_sets v_d_6 p0 1 (rmI p1 10)) (fun v_d_7 => some (v_d_7, v_found, r_5)))))))))))
set_option maxHeartbeats 600000 in
set_option maxRecDepth 100000 in
theorem c_X7_become (l : Launch) (D : va_G) (cI cS : ClassId) (o : Nat → Nat) {v_d : Nat → Int32} {v_kept : Nat → Int32} {v_images : Int32} {v_found : Nat → Int32} {v_aside : Nat → Int32} {v_base : Int32} {v_at : Int32} {v_size : Int32} {v_fault : Int32} {v_opened : Int32} {v_isCold : Int32} {v_names : Nat → Int32} {v_code : Nat → Int32} {v_coded : Int32} {v_pile : Nat → Int32} {v_horn : Int32} {v_brass : Int32} {v_coldAhead : Nat → Int32} {v_which : Nat → Int32} {v_whichMany : Int32} {v_bestPass : Int32} {v_bestLive : Int32} {v_bestCode : Int32} {v_traced : Nat → Int32} {v_traceMany : Int32} {v_who : Int32} {v_bitsOf : Nat → Int32} {v_sizeOf : Nat → Int32} {v_number : Nat → Int32} {v_lifted : Nat → Int32} {p0 : Int32} {p1 : Int32} {w_d : Nat → Int32} {w_found : Nat → Int32} {r_out : Int32} (h : f_X7_become  v_d v_found p0 p1 = some (w_d, w_found, r_out)) : MetI l D (tysX cI cS) St0 yX7_become cX7_become 4 (some .int) 2 46 [.ref (o 0), .int p0, .int p1] (pcX7 o cI v_d v_kept v_images v_found v_aside v_base v_at v_size v_fault v_opened v_isCold v_names v_code v_coded v_pile v_horn v_brass v_coldAhead v_which v_whichMany v_bestPass v_bestLive v_bestCode v_traced v_traceMany v_who v_bitsOf v_sizeOf v_number v_lifted) r_out (pcX7 o cI w_d v_kept v_images w_found v_aside v_base v_at v_size v_fault v_opened v_isCold v_names v_code v_coded v_pile v_horn v_brass v_coldAhead v_which v_whichMany v_bestPass v_bestLive v_bestCode v_traced v_traceMany v_who v_bitsOf v_sizeOf v_number v_lifted) := by
  refine Ent.metI (by decide +kernel) (Nat.le_of_ble_eq_true rfl) ?_
  intro p e s m args below meth c A ls hx hb hr hml hown hts hlocks hA hK hSt hP hD hS hl
  have hown : s.vm.findClass RX7 = some m.cls := hown
  have S : XFix p m c cX7_become 4 s args RX7 := ⟨hx, hb, hml, hown, hts⟩
  have hl : lv_has ls 4 [(0, .ref (o 0)), (1, .int p0), (2, .int p1)] := hl
  unfold f_X7_become at h
  refine lv_aload_n hx hb dX7_become_0 rfl (lv_at hl 0 rfl) ?_
  refine lv_iload_n hx hb dX7_become_1 rfl (lv_at hl 1 rfl) ?_
  obtain ⟨r_1, hc2, h⟩ := bd1_s h
  refine x_selfVi (As := [.int p0]) (rest := []) St0_ok S (c_X7_isPerson l D cI cS o hc2) yf_X7_isPerson wd10_3 ⟨Nat.le_of_ble_eq_true rfl, Nat.le_of_ble_eq_true rfl⟩ hK hSt hA hP hD hS 0 rfl rfl rfl hl.1 rfl (Nat.le_of_ble_eq_true rfl) dX7_become_2 (Nat.zero_le _) (Nat.zero_le _) (fun H locs hP hD hS => ?_)
  obtain ⟨J20, eJ20, h⟩ := jnA_s h
  have wJ20 : J20  = some (w_d, w_found, r_out) → ∀ (H : Heap) (locs : List Loc), va_P D vwCl (pcX7 o cI v_d v_kept v_images v_found v_aside v_base v_at v_size v_fault v_opened v_isCold v_names v_code v_coded v_pile v_horn v_brass v_coldAhead v_which v_whichMany v_bestPass v_bestLive v_bestCode v_traced v_traceMany v_who v_bitsOf v_sizeOf v_number v_lifted) H → va_D A (pcX7 o cI v_d v_kept v_images v_found v_aside v_base v_at v_size v_fault v_opened v_isCold v_names v_code v_coded v_pile v_horn v_brass v_coldAhead v_which v_whichMany v_bestPass v_bestLive v_bestCode v_traced v_traceMany v_who v_bitsOf v_sizeOf v_number v_lifted) → va_S A s.heap H locs → ∀ ls : Array Slot, lv_has ls 4 [(0, .ref (o 0))] → WI p l e 2 46 s m args below meth c D (tysX cI cS) A r_out (pcX7 o cI w_d v_kept v_images w_found v_aside v_base v_at v_size v_fault v_opened v_isCold v_names v_code v_coded v_pile v_horn v_brass v_coldAhead v_which v_whichMany v_bestPass v_bestLive v_bestCode v_traced v_traceMany v_who v_bitsOf v_sizeOf v_number v_lifted) H locs (F0 m 20 ls []) := by
      intro h H locs hP hD hS ls hl
      subst eJ20
      refine lv_aload_n hx hb dX7_become_20 rfl (lv_at hl 0 rfl) ?_
      refine lv_iconst (v := 1) hx hb dX7_become_21 (by decide) ?_
      obtain ⟨v_found_2, r_3, hc22, h⟩ := bd2_s h
      refine x_selfVi (As := [.int 1]) (rest := []) St0_ok S (c_X7_finds l D cI cS o hc22) yf_X7_finds wd6_10 ⟨Nat.le_of_ble_eq_true rfl, Nat.le_of_ble_eq_true rfl⟩ hK hSt hA hP hD hS 0 rfl rfl rfl hl.1 rfl (Nat.le_of_ble_eq_true rfl) dX7_become_22 (Nat.zero_le _) (Nat.zero_le _) (fun H locs hP hD hS => ?_)
      cases h
      exact x_iret hx hb hr hlocks hK hP hD hS rfl rfl dX7_become_25
  refine x_if_eq (tgt := 20) hx hb h dX7_become_5 (by decide) (fun c5 h => ?_) (fun c5 h => ?_)
  · exact wJ20 h _ _ hP hD hS _ (lv_sub hl [0] rfl)
  · refine lv_iload_n hx hb dX7_become_8 rfl (lv_at hl 2 rfl) ?_
    refine lv_i2l (v := (p1.toInt64)) hx hb dX7_become_9 rfl ?_
    refine lv_lconst (v := 0) hx hb dX7_become_10 (by decide) ?_
    refine lv_ldc2 (v := 69) hx hb hown (hts _ wd6_6) dX7_become_11 ?_
    obtain ⟨r_4, hc14, h⟩ := bd1_s h
    refine x_statI (As := [.long (p1.toInt64), .long 0, .long 69]) (rest := []) St0_ok S (c_X7_in l D cI cS o hc14) ys_X7_in wd6_7 ⟨Nat.le_of_ble_eq_true rfl, Nat.le_of_ble_eq_true rfl⟩ hK hSt hA hP hD hS rfl hl.1 rfl (Nat.le_of_ble_eq_true rfl) dX7_become_14 (Nat.zero_le _) (Nat.zero_le _) (fun H locs hP hD hS => ?_)
    refine x_if_ne (tgt := 26) hx hb h dX7_become_17 (by decide) (fun c17 h => ?_) (fun c17 h => ?_)
    · refine lv_aload_n hx hb dX7_become_26 rfl (lv_at hl 0 rfl) ?_
      refine lv_iload_n hx hb dX7_become_27 rfl (lv_at hl 1 rfl) ?_
      refine lv_iconst (v := 0) hx hb dX7_become_28 (by decide) ?_
      obtain ⟨r_5, hc29, h⟩ := bd1_s h
      refine x_selfVi (As := [.int p0, .int 0]) (rest := []) St0_ok S (c_X7_of l D cI cS o hc29) yf_X7_of wd10_11 ⟨Nat.le_of_ble_eq_true rfl, Nat.le_of_ble_eq_true rfl⟩ hK hSt hA hP hD hS 0 rfl rfl rfl hl.1 rfl (Nat.le_of_ble_eq_true rfl) dX7_become_29 (Nat.zero_le _) (Nat.zero_le _) (fun H locs hP hD hS => ?_)
      refine lv_istore_n (lv' := [(3, .int r_5), (0, .ref (o 0)), (1, .int p0), (2, .int p1)]) hx hb dX7_become_32 rfl hl (by decide) rfl (fun ls hl => ?_)
      refine lv_aload_n hx hb dX7_become_33 rfl (lv_at hl 1 rfl) ?_
      refine lv_iload_n hx hb dX7_become_34 rfl (lv_at hl 2 rfl) ?_
      refine lv_iconst (v := 0) hx hb dX7_become_35 (by decide) ?_
      refine lv_iload_n hx hb dX7_become_36 rfl (lv_at hl 3 rfl) ?_
      refine lv_bipush (v := 10) hx hb dX7_become_37 (by decide) ?_
      refine x_idiv hx hb h dX7_become_39 (fun h => ?_)
      obtain ⟨v_d_6, hc40, h⟩ := bd1_s h
      refine x_selfVv (As := [.int p0, .int 0, .int (p1 / 10)]) (rest := []) St0_ok S (c_X7_sets l D cI cS o hc40) yf_X7_sets wd6_15 ⟨Nat.le_of_ble_eq_true rfl, Nat.le_of_ble_eq_true rfl⟩ hK hSt hA hP hD hS 0 rfl rfl rfl hl.1 rfl (Nat.le_of_ble_eq_true rfl) dX7_become_40 (Nat.zero_le _) (Nat.zero_le _) (fun H locs hP hD hS => ?_)
      refine lv_aload_n hx hb dX7_become_43 rfl (lv_at hl 1 rfl) ?_
      refine lv_iload_n hx hb dX7_become_44 rfl (lv_at hl 2 rfl) ?_
      refine lv_iconst (v := 1) hx hb dX7_become_45 (by decide) ?_
      refine lv_iload_n hx hb dX7_become_46 rfl (lv_at hl 3 rfl) ?_
      refine lv_bipush (v := 10) hx hb dX7_become_47 (by decide) ?_
      refine x_irem hx hb h dX7_become_49 (fun h => ?_)
      obtain ⟨v_d_7, hc50, h⟩ := bd1_s h
      refine x_selfVv (As := [.int p0, .int 1, .int (rmI p1 10)]) (rest := []) St0_ok S (c_X7_sets l D cI cS o hc50) yf_X7_sets wd6_15 ⟨Nat.le_of_ble_eq_true rfl, Nat.le_of_ble_eq_true rfl⟩ hK hSt hA hP hD hS 0 rfl rfl rfl hl.1 rfl (Nat.le_of_ble_eq_true rfl) dX7_become_50 (Nat.zero_le _) (Nat.zero_le _) (fun H locs hP hD hS => ?_)
      refine lv_iload_n hx hb dX7_become_53 rfl (lv_at hl 0 rfl) ?_
      cases h
      exact x_iret hx hb hr hlocks hK hP hD hS rfl rfl dX7_become_54
    · exact wJ20 h _ _ hP hD hS _ (lv_sub hl [0] rfl)

def f_X7_above   (p0 : Int32) : Option ((Int32)) :=
  (if 4 ≤ p0 then some ((p0 - 3)) else some (0))
set_option maxHeartbeats 600000 in
set_option maxRecDepth 100000 in
theorem c_X7_above (l : Launch) (D : va_G) (cI cS : ClassId) (o : Nat → Nat)  {p0 : Int32}  {r_out : Int32} (h : f_X7_above   p0 = some (r_out)) : MetI l D (tysX cI cS) St0 yX7_above cX7_above 1 (some .int) 0 0 [.int p0] [] r_out [] := by
  refine Ent.metI (by decide +kernel) (Nat.le_of_ble_eq_true rfl) ?_
  intro p e s m args below meth c A ls hx hb hr hml hown hts hlocks hA hK hSt hP hD hS hl
  have hown : s.vm.findClass RX7 = some m.cls := hown
  have S : XFix p m c cX7_above 1 s args RX7 := ⟨hx, hb, hml, hown, hts⟩
  have hl : lv_has ls 1 [(0, .int p0)] := hl
  unfold f_X7_above at h
  refine lv_iload_n hx hb dX7_above_0 rfl (lv_at hl 0 rfl) ?_
  refine lv_iconst (v := 4) hx hb dX7_above_1 (by decide) ?_
  refine x_icmp_ge (tgt := 9) hx hb h dX7_above_2 (by decide) (fun c2 h => ?_) (fun c2 h => ?_)
  · refine lv_iload_n hx hb dX7_above_9 rfl (lv_at hl 0 rfl) ?_
    refine lv_iconst (v := 3) hx hb dX7_above_10 (by decide) ?_
    refine lv_isub hx hb dX7_above_11 ?_
    cases h
    exact x_iret hx hb hr hlocks hK hP hD hS rfl rfl dX7_above_12
  · refine lv_iconst (v := 0) hx hb dX7_above_5 (by decide) ?_
    refine lv_goto (tgt := 12) hx hb dX7_above_6 (by decide) ?_
    cases h
    exact x_iret hx hb hr hlocks hK hP hD hS rfl rfl dX7_above_12

def f_X7_as  (v_d : Nat → Int32) (v_found : Nat → Int32) (p0 : Int32) (p1 : Int32) : Option ((Nat → Int32) × (Int32)) :=
  bd1 (f_X7_isPerson v_d p0) (fun r_1 => jnA (bd2 (f_X7_finds v_found 1) (fun v_found_2 r_3 => some (v_found_2, r_3))) (fun J20 => (if r_1 = 0 then J20 else bd1 (f_X7_in (p1.toInt64) 0 6) (fun r_4 => (if r_4 = 0 then J20 else bd1 (f_X7_of v_d p0 0) (fun r_5 => jnA (bd1 (f_X7_of v_d p0 1) (fun r_6 => some (v_found, r_6))) (fun J50 => (if p1 = 0 then J50 else (if p1 = r_5 then J50 else bd1 (f_X7_above r_5) (fun r_7 => (if p1 = r_7 then J50 else bd2 (f_X7_finds v_found 5) (fun v_found_8 r_9 => some (v_found_8, r_9)))))))))))))
set_option maxHeartbeats 600000 in
set_option maxRecDepth 100000 in
theorem c_X7_as (l : Launch) (D : va_G) (cI cS : ClassId) (o : Nat → Nat) {v_d : Nat → Int32} {v_kept : Nat → Int32} {v_images : Int32} {v_found : Nat → Int32} {v_aside : Nat → Int32} {v_base : Int32} {v_at : Int32} {v_size : Int32} {v_fault : Int32} {v_opened : Int32} {v_isCold : Int32} {v_names : Nat → Int32} {v_code : Nat → Int32} {v_coded : Int32} {v_pile : Nat → Int32} {v_horn : Int32} {v_brass : Int32} {v_coldAhead : Nat → Int32} {v_which : Nat → Int32} {v_whichMany : Int32} {v_bestPass : Int32} {v_bestLive : Int32} {v_bestCode : Int32} {v_traced : Nat → Int32} {v_traceMany : Int32} {v_who : Int32} {v_bitsOf : Nat → Int32} {v_sizeOf : Nat → Int32} {v_number : Nat → Int32} {v_lifted : Nat → Int32} {p0 : Int32} {p1 : Int32} {w_found : Nat → Int32} {r_out : Int32} (h : f_X7_as  v_d v_found p0 p1 = some (w_found, r_out)) : MetI l D (tysX cI cS) St0 yX7_as cX7_as 4 (some .int) 2 46 [.ref (o 0), .int p0, .int p1] (pcX7 o cI v_d v_kept v_images v_found v_aside v_base v_at v_size v_fault v_opened v_isCold v_names v_code v_coded v_pile v_horn v_brass v_coldAhead v_which v_whichMany v_bestPass v_bestLive v_bestCode v_traced v_traceMany v_who v_bitsOf v_sizeOf v_number v_lifted) r_out (pcX7 o cI v_d v_kept v_images w_found v_aside v_base v_at v_size v_fault v_opened v_isCold v_names v_code v_coded v_pile v_horn v_brass v_coldAhead v_which v_whichMany v_bestPass v_bestLive v_bestCode v_traced v_traceMany v_who v_bitsOf v_sizeOf v_number v_lifted) := by
  refine Ent.metI (by decide +kernel) (Nat.le_of_ble_eq_true rfl) ?_
  intro p e s m args below meth c A ls hx hb hr hml hown hts hlocks hA hK hSt hP hD hS hl
  have hown : s.vm.findClass RX7 = some m.cls := hown
  have S : XFix p m c cX7_as 4 s args RX7 := ⟨hx, hb, hml, hown, hts⟩
  have hl : lv_has ls 4 [(0, .ref (o 0)), (1, .int p0), (2, .int p1)] := hl
  unfold f_X7_as at h
  refine lv_aload_n hx hb dX7_as_0 rfl (lv_at hl 0 rfl) ?_
  refine lv_iload_n hx hb dX7_as_1 rfl (lv_at hl 1 rfl) ?_
  obtain ⟨r_1, hc2, h⟩ := bd1_s h
  refine x_selfVi (As := [.int p0]) (rest := []) St0_ok S (c_X7_isPerson l D cI cS o hc2) yf_X7_isPerson wd10_3 ⟨Nat.le_of_ble_eq_true rfl, Nat.le_of_ble_eq_true rfl⟩ hK hSt hA hP hD hS 0 rfl rfl rfl hl.1 rfl (Nat.le_of_ble_eq_true rfl) dX7_as_2 (Nat.zero_le _) (Nat.zero_le _) (fun H locs hP hD hS => ?_)
  obtain ⟨J20, eJ20, h⟩ := jnA_s h
  have wJ20 : J20  = some (w_found, r_out) → ∀ (H : Heap) (locs : List Loc), va_P D vwCl (pcX7 o cI v_d v_kept v_images v_found v_aside v_base v_at v_size v_fault v_opened v_isCold v_names v_code v_coded v_pile v_horn v_brass v_coldAhead v_which v_whichMany v_bestPass v_bestLive v_bestCode v_traced v_traceMany v_who v_bitsOf v_sizeOf v_number v_lifted) H → va_D A (pcX7 o cI v_d v_kept v_images v_found v_aside v_base v_at v_size v_fault v_opened v_isCold v_names v_code v_coded v_pile v_horn v_brass v_coldAhead v_which v_whichMany v_bestPass v_bestLive v_bestCode v_traced v_traceMany v_who v_bitsOf v_sizeOf v_number v_lifted) → va_S A s.heap H locs → ∀ ls : Array Slot, lv_has ls 4 [(0, .ref (o 0))] → WI p l e 2 46 s m args below meth c D (tysX cI cS) A r_out (pcX7 o cI v_d v_kept v_images w_found v_aside v_base v_at v_size v_fault v_opened v_isCold v_names v_code v_coded v_pile v_horn v_brass v_coldAhead v_which v_whichMany v_bestPass v_bestLive v_bestCode v_traced v_traceMany v_who v_bitsOf v_sizeOf v_number v_lifted) H locs (F0 m 20 ls []) := by
      intro h H locs hP hD hS ls hl
      subst eJ20
      refine lv_aload_n hx hb dX7_as_20 rfl (lv_at hl 0 rfl) ?_
      refine lv_iconst (v := 1) hx hb dX7_as_21 (by decide) ?_
      obtain ⟨v_found_2, r_3, hc22, h⟩ := bd2_s h
      refine x_selfVi (As := [.int 1]) (rest := []) St0_ok S (c_X7_finds l D cI cS o hc22) yf_X7_finds wd6_10 ⟨Nat.le_of_ble_eq_true rfl, Nat.le_of_ble_eq_true rfl⟩ hK hSt hA hP hD hS 0 rfl rfl rfl hl.1 rfl (Nat.le_of_ble_eq_true rfl) dX7_as_22 (Nat.zero_le _) (Nat.zero_le _) (fun H locs hP hD hS => ?_)
      cases h
      exact x_iret hx hb hr hlocks hK hP hD hS rfl rfl dX7_as_25
  refine x_if_eq (tgt := 20) hx hb h dX7_as_5 (by decide) (fun c5 h => ?_) (fun c5 h => ?_)
  · exact wJ20 h _ _ hP hD hS _ (lv_sub hl [0] rfl)
  · refine lv_iload_n hx hb dX7_as_8 rfl (lv_at hl 2 rfl) ?_
    refine lv_i2l (v := (p1.toInt64)) hx hb dX7_as_9 rfl ?_
    refine lv_lconst (v := 0) hx hb dX7_as_10 (by decide) ?_
    refine lv_ldc2 (v := 6) hx hb hown (hts _ wd13_23) dX7_as_11 ?_
    obtain ⟨r_4, hc14, h⟩ := bd1_s h
    refine x_statI (As := [.long (p1.toInt64), .long 0, .long 6]) (rest := []) St0_ok S (c_X7_in l D cI cS o hc14) ys_X7_in wd6_7 ⟨Nat.le_of_ble_eq_true rfl, Nat.le_of_ble_eq_true rfl⟩ hK hSt hA hP hD hS rfl hl.1 rfl (Nat.le_of_ble_eq_true rfl) dX7_as_14 (Nat.zero_le _) (Nat.zero_le _) (fun H locs hP hD hS => ?_)
    refine x_if_ne (tgt := 26) hx hb h dX7_as_17 (by decide) (fun c17 h => ?_) (fun c17 h => ?_)
    · refine lv_aload_n hx hb dX7_as_26 rfl (lv_at hl 0 rfl) ?_
      refine lv_iload_n hx hb dX7_as_27 rfl (lv_at hl 1 rfl) ?_
      refine lv_iconst (v := 0) hx hb dX7_as_28 (by decide) ?_
      obtain ⟨r_5, hc29, h⟩ := bd1_s h
      refine x_selfVi (As := [.int p0, .int 0]) (rest := []) St0_ok S (c_X7_of l D cI cS o hc29) yf_X7_of wd10_11 ⟨Nat.le_of_ble_eq_true rfl, Nat.le_of_ble_eq_true rfl⟩ hK hSt hA hP hD hS 0 rfl rfl rfl hl.1 rfl (Nat.le_of_ble_eq_true rfl) dX7_as_29 (Nat.zero_le _) (Nat.zero_le _) (fun H locs hP hD hS => ?_)
      refine lv_istore_n (lv' := [(3, .int r_5), (0, .ref (o 0)), (1, .int p0), (2, .int p1)]) hx hb dX7_as_32 rfl hl (by decide) rfl (fun ls hl => ?_)
      refine lv_iload_n hx hb dX7_as_33 rfl (lv_at hl 3 rfl) ?_
      obtain ⟨J50, eJ50, h⟩ := jnA_s h
      have wJ50 : J50  = some (w_found, r_out) → ∀ (H : Heap) (locs : List Loc), va_P D vwCl (pcX7 o cI v_d v_kept v_images v_found v_aside v_base v_at v_size v_fault v_opened v_isCold v_names v_code v_coded v_pile v_horn v_brass v_coldAhead v_which v_whichMany v_bestPass v_bestLive v_bestCode v_traced v_traceMany v_who v_bitsOf v_sizeOf v_number v_lifted) H → va_D A (pcX7 o cI v_d v_kept v_images v_found v_aside v_base v_at v_size v_fault v_opened v_isCold v_names v_code v_coded v_pile v_horn v_brass v_coldAhead v_which v_whichMany v_bestPass v_bestLive v_bestCode v_traced v_traceMany v_who v_bitsOf v_sizeOf v_number v_lifted) → va_S A s.heap H locs → ∀ ls : Array Slot, lv_has ls 4 [(0, .ref (o 0)), (1, .int p0)] → WI p l e 2 46 s m args below meth c D (tysX cI cS) A r_out (pcX7 o cI v_d v_kept v_images w_found v_aside v_base v_at v_size v_fault v_opened v_isCold v_names v_code v_coded v_pile v_horn v_brass v_coldAhead v_which v_whichMany v_bestPass v_bestLive v_bestCode v_traced v_traceMany v_who v_bitsOf v_sizeOf v_number v_lifted) H locs (F0 m 50 ls []) := by
          intro h H locs hP hD hS ls hl
          subst eJ50
          refine lv_aload_n hx hb dX7_as_50 rfl (lv_at hl 0 rfl) ?_
          refine lv_iload_n hx hb dX7_as_51 rfl (lv_at hl 1 rfl) ?_
          refine lv_iconst (v := 1) hx hb dX7_as_52 (by decide) ?_
          obtain ⟨r_6, hc53, h⟩ := bd1_s h
          refine x_selfVi (As := [.int p0, .int 1]) (rest := []) St0_ok S (c_X7_of l D cI cS o hc53) yf_X7_of wd10_11 ⟨Nat.le_of_ble_eq_true rfl, Nat.le_of_ble_eq_true rfl⟩ hK hSt hA hP hD hS 0 rfl rfl rfl hl.1 rfl (Nat.le_of_ble_eq_true rfl) dX7_as_53 (Nat.zero_le _) (Nat.zero_le _) (fun H locs hP hD hS => ?_)
          refine lv_goto (tgt := 64) hx hb dX7_as_56 (by decide) ?_
          cases h
          exact x_iret hx hb hr hlocks hK hP hD hS rfl rfl dX7_as_64
      refine x_if_eq (tgt := 50) hx hb h dX7_as_34 (by decide) (fun c34 h => ?_) (fun c34 h => ?_)
      · exact wJ50 h _ _ hP hD hS _ (lv_sub hl [1, 2] rfl)
      · refine lv_iload_n hx hb dX7_as_37 rfl (lv_at hl 3 rfl) ?_
        refine lv_iload_n hx hb dX7_as_38 rfl (lv_at hl 0 rfl) ?_
        refine x_icmp_eq (tgt := 50) hx hb h dX7_as_39 (by decide) (fun c39 h => ?_) (fun c39 h => ?_)
        · exact wJ50 h _ _ hP hD hS _ (lv_sub hl [1, 2] rfl)
        · refine lv_iload_n hx hb dX7_as_42 rfl (lv_at hl 3 rfl) ?_
          refine lv_iload_n hx hb dX7_as_43 rfl (lv_at hl 0 rfl) ?_
          obtain ⟨r_7, hc44, h⟩ := bd1_s h
          refine x_statI (As := [.int r_5]) (rest := [.int p1]) St0_ok S (c_X7_above l D cI cS o hc44) ys_X7_above wd14_0 ⟨Nat.le_of_ble_eq_true rfl, Nat.le_of_ble_eq_true rfl⟩ hK hSt hA hP hD hS rfl hl.1 rfl (Nat.le_of_ble_eq_true rfl) dX7_as_44 (Nat.zero_le _) (Nat.zero_le _) (fun H locs hP hD hS => ?_)
          refine x_icmp_ne (tgt := 59) hx hb h dX7_as_47 (by decide) (fun c47 h => ?_) (fun c47 h => ?_)
          · refine lv_aload_n hx hb dX7_as_59 rfl (lv_at hl 1 rfl) ?_
            refine lv_iconst (v := 5) hx hb dX7_as_60 (by decide) ?_
            obtain ⟨v_found_8, r_9, hc61, h⟩ := bd2_s h
            refine x_selfVi (As := [.int 5]) (rest := []) St0_ok S (c_X7_finds l D cI cS o hc61) yf_X7_finds wd6_10 ⟨Nat.le_of_ble_eq_true rfl, Nat.le_of_ble_eq_true rfl⟩ hK hSt hA hP hD hS 0 rfl rfl rfl hl.1 rfl (Nat.le_of_ble_eq_true rfl) dX7_as_61 (Nat.zero_le _) (Nat.zero_le _) (fun H locs hP hD hS => ?_)
            cases h
            exact x_iret hx hb hr hlocks hK hP hD hS rfl rfl dX7_as_64
          · exact wJ50 h _ _ hP hD hS _ (lv_sub hl [1, 2] rfl)
    · exact wJ20 h _ _ hP hD hS _ (lv_sub hl [0] rfl)

def f_X7_motion  (v_d : Nat → Int32) (v_found : Nat → Int32) (p0 : Int32) (p1 : Int32) : Option ((Nat → Int32) × (Nat → Int32) × (Int32)) :=
  bd1 (f_X7_in (p0.toInt64) 0 99) (fun r_1 => jnA (bd2 (f_X7_finds v_found 1) (fun v_found_2 r_3 => some (v_d, v_found_2, r_3))) (fun J24 => (if r_1 = 0 then J24 else bd1 (f_X7_in (p1.toInt64) 0 255) (fun r_4 => (if r_4 = 0 then J24 else rdA 248 v_d 1 (fun x_5 => (if x_5 = 6 then bd2 (f_X7_finds v_found 4) (fun v_found_14 r_15 => some (v_d, v_found_14, r_15)) else rdA 248 v_d 1 (fun x_6 => nmA (58 + (3 * x_6)) (fun l3_7 => wrA 248 v_d (l3_7 + 0) p0 (fun v_d_8 => wrA 248 v_d_8 (l3_7 + 1) p1 (fun v_d_9 => wrA 248 v_d_9 (l3_7 + 2) 0 (fun v_d_10 => rdA 248 v_d_10 1 (fun x_11 => wrA 248 v_d_10 1 (x_11 + 1) (fun v_d_12 => rdA 248 v_d_12 1 (fun x_13 => some (v_d_12, v_found, (x_13 - 1)))))))))))))))))
set_option maxHeartbeats 600000 in
set_option maxRecDepth 100000 in
theorem c_X7_motion (l : Launch) (D : va_G) (cI cS : ClassId) (o : Nat → Nat) {v_d : Nat → Int32} {v_kept : Nat → Int32} {v_images : Int32} {v_found : Nat → Int32} {v_aside : Nat → Int32} {v_base : Int32} {v_at : Int32} {v_size : Int32} {v_fault : Int32} {v_opened : Int32} {v_isCold : Int32} {v_names : Nat → Int32} {v_code : Nat → Int32} {v_coded : Int32} {v_pile : Nat → Int32} {v_horn : Int32} {v_brass : Int32} {v_coldAhead : Nat → Int32} {v_which : Nat → Int32} {v_whichMany : Int32} {v_bestPass : Int32} {v_bestLive : Int32} {v_bestCode : Int32} {v_traced : Nat → Int32} {v_traceMany : Int32} {v_who : Int32} {v_bitsOf : Nat → Int32} {v_sizeOf : Nat → Int32} {v_number : Nat → Int32} {v_lifted : Nat → Int32} {p0 : Int32} {p1 : Int32} {w_d : Nat → Int32} {w_found : Nat → Int32} {r_out : Int32} (h : f_X7_motion  v_d v_found p0 p1 = some (w_d, w_found, r_out)) : MetI l D (tysX cI cS) St0 yX7_motion cX7_motion 4 (some .int) 1 25 [.ref (o 0), .int p0, .int p1] (pcX7 o cI v_d v_kept v_images v_found v_aside v_base v_at v_size v_fault v_opened v_isCold v_names v_code v_coded v_pile v_horn v_brass v_coldAhead v_which v_whichMany v_bestPass v_bestLive v_bestCode v_traced v_traceMany v_who v_bitsOf v_sizeOf v_number v_lifted) r_out (pcX7 o cI w_d v_kept v_images w_found v_aside v_base v_at v_size v_fault v_opened v_isCold v_names v_code v_coded v_pile v_horn v_brass v_coldAhead v_which v_whichMany v_bestPass v_bestLive v_bestCode v_traced v_traceMany v_who v_bitsOf v_sizeOf v_number v_lifted) := by
  refine Ent.metI (by decide +kernel) (Nat.le_of_ble_eq_true rfl) ?_
  intro p e s m args below meth c A ls hx hb hr hml hown hts hlocks hA hK hSt hP hD hS hl
  have hown : s.vm.findClass RX7 = some m.cls := hown
  have S : XFix p m c cX7_motion 4 s args RX7 := ⟨hx, hb, hml, hown, hts⟩
  have hl : lv_has ls 4 [(0, .ref (o 0)), (1, .int p0), (2, .int p1)] := hl
  unfold f_X7_motion at h
  refine lv_iload_n hx hb dX7_motion_0 rfl (lv_at hl 1 rfl) ?_
  refine lv_i2l (v := (p0.toInt64)) hx hb dX7_motion_1 rfl ?_
  refine lv_lconst (v := 0) hx hb dX7_motion_2 (by decide) ?_
  refine lv_ldc2 (v := 99) hx hb hown (hts _ wd13_2) dX7_motion_3 ?_
  obtain ⟨r_1, hc6, h⟩ := bd1_s h
  refine x_statI (As := [.long (p0.toInt64), .long 0, .long 99]) (rest := []) St0_ok S (c_X7_in l D cI cS o hc6) ys_X7_in wd6_7 ⟨Nat.le_of_ble_eq_true rfl, Nat.le_of_ble_eq_true rfl⟩ hK hSt hA hP hD hS rfl hl.1 rfl (Nat.le_of_ble_eq_true rfl) dX7_motion_6 (Nat.zero_le _) (Nat.zero_le _) (fun H locs hP hD hS => ?_)
  obtain ⟨J24, eJ24, h⟩ := jnA_s h
  have wJ24 : J24  = some (w_d, w_found, r_out) → ∀ (H : Heap) (locs : List Loc), va_P D vwCl (pcX7 o cI v_d v_kept v_images v_found v_aside v_base v_at v_size v_fault v_opened v_isCold v_names v_code v_coded v_pile v_horn v_brass v_coldAhead v_which v_whichMany v_bestPass v_bestLive v_bestCode v_traced v_traceMany v_who v_bitsOf v_sizeOf v_number v_lifted) H → va_D A (pcX7 o cI v_d v_kept v_images v_found v_aside v_base v_at v_size v_fault v_opened v_isCold v_names v_code v_coded v_pile v_horn v_brass v_coldAhead v_which v_whichMany v_bestPass v_bestLive v_bestCode v_traced v_traceMany v_who v_bitsOf v_sizeOf v_number v_lifted) → va_S A s.heap H locs → ∀ ls : Array Slot, lv_has ls 4 [(0, .ref (o 0))] → WI p l e 1 25 s m args below meth c D (tysX cI cS) A r_out (pcX7 o cI w_d v_kept v_images w_found v_aside v_base v_at v_size v_fault v_opened v_isCold v_names v_code v_coded v_pile v_horn v_brass v_coldAhead v_which v_whichMany v_bestPass v_bestLive v_bestCode v_traced v_traceMany v_who v_bitsOf v_sizeOf v_number v_lifted) H locs (F0 m 24 ls []) := by
      intro h H locs hP hD hS ls hl
      subst eJ24
      refine lv_aload_n hx hb dX7_motion_24 rfl (lv_at hl 0 rfl) ?_
      refine lv_iconst (v := 1) hx hb dX7_motion_25 (by decide) ?_
      obtain ⟨v_found_2, r_3, hc26, h⟩ := bd2_s h
      refine x_selfVi (As := [.int 1]) (rest := []) St0_ok S (c_X7_finds l D cI cS o hc26) yf_X7_finds wd6_10 ⟨Nat.le_of_ble_eq_true rfl, Nat.le_of_ble_eq_true rfl⟩ hK hSt hA hP hD hS 0 rfl rfl rfl hl.1 rfl (Nat.le_of_ble_eq_true rfl) dX7_motion_26 (Nat.zero_le _) (Nat.zero_le _) (fun H locs hP hD hS => ?_)
      cases h
      exact x_iret hx hb hr hlocks hK hP hD hS rfl rfl dX7_motion_29
  refine x_if_eq (tgt := 24) hx hb h dX7_motion_9 (by decide) (fun c9 h => ?_) (fun c9 h => ?_)
  · exact wJ24 h _ _ hP hD hS _ (lv_sub hl [0] rfl)
  · refine lv_iload_n hx hb dX7_motion_12 rfl (lv_at hl 2 rfl) ?_
    refine lv_i2l (v := (p1.toInt64)) hx hb dX7_motion_13 rfl ?_
    refine lv_lconst (v := 0) hx hb dX7_motion_14 (by decide) ?_
    refine lv_ldc2 (v := 255) hx hb hown (hts _ wd14_18) dX7_motion_15 ?_
    obtain ⟨r_4, hc18, h⟩ := bd1_s h
    refine x_statI (As := [.long (p1.toInt64), .long 0, .long 255]) (rest := []) St0_ok S (c_X7_in l D cI cS o hc18) ys_X7_in wd6_7 ⟨Nat.le_of_ble_eq_true rfl, Nat.le_of_ble_eq_true rfl⟩ hK hSt hA hP hD hS rfl hl.1 rfl (Nat.le_of_ble_eq_true rfl) dX7_motion_18 (Nat.zero_le _) (Nat.zero_le _) (fun H locs hP hD hS => ?_)
    refine x_if_ne (tgt := 30) hx hb h dX7_motion_21 (by decide) (fun c21 h => ?_) (fun c21 h => ?_)
    · refine lv_aload_n hx hb dX7_motion_30 rfl (lv_at hl 0 rfl) ?_
      refine gt_X7_7 S hK hP 0 rfl rfl dX7_motion_31 ?_
      refine lv_iconst (v := 1) hx hb dX7_motion_34 (by decide) ?_
      refine x_ald hx hb hK hP 1 h rfl rfl dX7_motion_35 (fun x_5 ex_5 h => ?_)
      refine lv_bipush (v := 6) hx hb dX7_motion_36 (by decide) ?_
      refine x_icmp_ne (tgt := 47) hx hb h dX7_motion_38 (by decide) (fun c38 h => ?_) (fun c38 h => ?_)
      · refine lv_bipush (v := 58) hx hb dX7_motion_47 (by decide) ?_
        refine lv_iconst (v := 3) hx hb dX7_motion_49 (by decide) ?_
        refine lv_aload_n hx hb dX7_motion_50 rfl (lv_at hl 0 rfl) ?_
        refine gt_X7_7 S hK hP 0 rfl rfl dX7_motion_51 ?_
        refine lv_iconst (v := 1) hx hb dX7_motion_54 (by decide) ?_
        refine x_ald hx hb hK hP 1 h rfl rfl dX7_motion_55 (fun x_6 ex_6 h => ?_)
        refine lv_imul hx hb dX7_motion_56 ?_
        refine lv_iadd hx hb dX7_motion_57 ?_
        refine x_nm h (fun l3_7 el3_7 h => ?_)
        refine lv_istore_n (lv' := [(3, .int l3_7), (0, .ref (o 0)), (1, .int p0), (2, .int p1)]) hx hb dX7_motion_58 rfl hl (by decide) rfl (fun ls hl => ?_)
        refine lv_aload_n hx hb dX7_motion_59 rfl (lv_at hl 1 rfl) ?_
        refine gt_X7_7 S hK hP 0 rfl rfl dX7_motion_60 ?_
        refine lv_iload_n hx hb dX7_motion_63 rfl (lv_at hl 0 rfl) ?_
        refine lv_iconst (v := 0) hx hb dX7_motion_64 (by decide) ?_
        refine lv_iadd hx hb dX7_motion_65 ?_
        refine lv_iload_n hx hb dX7_motion_66 rfl (lv_at hl 2 rfl) ?_
        refine x_ast hx hb hK hP hD hS 1 h rfl rfl dX7_motion_67 (fun v_d_8 ev_d_8 h H locs hP hD hS => ?_)
        have hP : va_P D vwCl (pcX7 o cI v_d_8 v_kept v_images v_found v_aside v_base v_at v_size v_fault v_opened v_isCold v_names v_code v_coded v_pile v_horn v_brass v_coldAhead v_which v_whichMany v_bestPass v_bestLive v_bestCode v_traced v_traceMany v_who v_bitsOf v_sizeOf v_number v_lifted) H := hP
        have hD : va_D A (pcX7 o cI v_d_8 v_kept v_images v_found v_aside v_base v_at v_size v_fault v_opened v_isCold v_names v_code v_coded v_pile v_horn v_brass v_coldAhead v_which v_whichMany v_bestPass v_bestLive v_bestCode v_traced v_traceMany v_who v_bitsOf v_sizeOf v_number v_lifted) := hD
        refine lv_aload_n hx hb dX7_motion_68 rfl (lv_at hl 1 rfl) ?_
        refine gt_X7_7 S hK hP 0 rfl rfl dX7_motion_69 ?_
        refine lv_iload_n hx hb dX7_motion_72 rfl (lv_at hl 0 rfl) ?_
        refine lv_iconst (v := 1) hx hb dX7_motion_73 (by decide) ?_
        refine lv_iadd hx hb dX7_motion_74 ?_
        refine lv_iload_n hx hb dX7_motion_75 rfl (lv_at hl 3 rfl) ?_
        refine x_ast hx hb hK hP hD hS 1 h rfl rfl dX7_motion_76 (fun v_d_9 ev_d_9 h H locs hP hD hS => ?_)
        have hP : va_P D vwCl (pcX7 o cI v_d_9 v_kept v_images v_found v_aside v_base v_at v_size v_fault v_opened v_isCold v_names v_code v_coded v_pile v_horn v_brass v_coldAhead v_which v_whichMany v_bestPass v_bestLive v_bestCode v_traced v_traceMany v_who v_bitsOf v_sizeOf v_number v_lifted) H := hP
        have hD : va_D A (pcX7 o cI v_d_9 v_kept v_images v_found v_aside v_base v_at v_size v_fault v_opened v_isCold v_names v_code v_coded v_pile v_horn v_brass v_coldAhead v_which v_whichMany v_bestPass v_bestLive v_bestCode v_traced v_traceMany v_who v_bitsOf v_sizeOf v_number v_lifted) := hD
        refine lv_aload_n hx hb dX7_motion_77 rfl (lv_at hl 1 rfl) ?_
        refine gt_X7_7 S hK hP 0 rfl rfl dX7_motion_78 ?_
        refine lv_iload_n hx hb dX7_motion_81 rfl (lv_at hl 0 rfl) ?_
        refine lv_iconst (v := 2) hx hb dX7_motion_82 (by decide) ?_
        refine lv_iadd hx hb dX7_motion_83 ?_
        refine lv_iconst (v := 0) hx hb dX7_motion_84 (by decide) ?_
        refine x_ast hx hb hK hP hD hS 1 h rfl rfl dX7_motion_85 (fun v_d_10 ev_d_10 h H locs hP hD hS => ?_)
        have hP : va_P D vwCl (pcX7 o cI v_d_10 v_kept v_images v_found v_aside v_base v_at v_size v_fault v_opened v_isCold v_names v_code v_coded v_pile v_horn v_brass v_coldAhead v_which v_whichMany v_bestPass v_bestLive v_bestCode v_traced v_traceMany v_who v_bitsOf v_sizeOf v_number v_lifted) H := hP
        have hD : va_D A (pcX7 o cI v_d_10 v_kept v_images v_found v_aside v_base v_at v_size v_fault v_opened v_isCold v_names v_code v_coded v_pile v_horn v_brass v_coldAhead v_which v_whichMany v_bestPass v_bestLive v_bestCode v_traced v_traceMany v_who v_bitsOf v_sizeOf v_number v_lifted) := hD
        refine lv_aload_n hx hb dX7_motion_86 rfl (lv_at hl 1 rfl) ?_
        refine gt_X7_7 S hK hP 0 rfl rfl dX7_motion_87 ?_
        refine lv_iconst (v := 1) hx hb dX7_motion_90 (by decide) ?_
        refine lv_dup2_11 hx hb dX7_motion_91 rfl rfl ?_
        refine x_ald hx hb hK hP 1 h rfl rfl dX7_motion_92 (fun x_11 ex_11 h => ?_)
        refine lv_iconst (v := 1) hx hb dX7_motion_93 (by decide) ?_
        refine lv_iadd hx hb dX7_motion_94 ?_
        refine x_ast hx hb hK hP hD hS 1 h rfl rfl dX7_motion_95 (fun v_d_12 ev_d_12 h H locs hP hD hS => ?_)
        have hP : va_P D vwCl (pcX7 o cI v_d_12 v_kept v_images v_found v_aside v_base v_at v_size v_fault v_opened v_isCold v_names v_code v_coded v_pile v_horn v_brass v_coldAhead v_which v_whichMany v_bestPass v_bestLive v_bestCode v_traced v_traceMany v_who v_bitsOf v_sizeOf v_number v_lifted) H := hP
        have hD : va_D A (pcX7 o cI v_d_12 v_kept v_images v_found v_aside v_base v_at v_size v_fault v_opened v_isCold v_names v_code v_coded v_pile v_horn v_brass v_coldAhead v_which v_whichMany v_bestPass v_bestLive v_bestCode v_traced v_traceMany v_who v_bitsOf v_sizeOf v_number v_lifted) := hD
        refine lv_aload_n hx hb dX7_motion_96 rfl (lv_at hl 1 rfl) ?_
        refine gt_X7_7 S hK hP 0 rfl rfl dX7_motion_97 ?_
        refine lv_iconst (v := 1) hx hb dX7_motion_100 (by decide) ?_
        refine x_ald hx hb hK hP 1 h rfl rfl dX7_motion_101 (fun x_13 ex_13 h => ?_)
        refine lv_iconst (v := 1) hx hb dX7_motion_102 (by decide) ?_
        refine lv_isub hx hb dX7_motion_103 ?_
        cases h
        exact x_iret hx hb hr hlocks hK hP hD hS rfl rfl dX7_motion_104
      · refine lv_aload_n hx hb dX7_motion_41 rfl (lv_at hl 0 rfl) ?_
        refine lv_iconst (v := 4) hx hb dX7_motion_42 (by decide) ?_
        obtain ⟨v_found_14, r_15, hc43, h⟩ := bd2_s h
        refine x_selfVi (As := [.int 4]) (rest := []) St0_ok S (c_X7_finds l D cI cS o hc43) yf_X7_finds wd6_10 ⟨Nat.le_of_ble_eq_true rfl, Nat.le_of_ble_eq_true rfl⟩ hK hSt hA hP hD hS 0 rfl rfl rfl hl.1 rfl (Nat.le_of_ble_eq_true rfl) dX7_motion_43 (Nat.zero_le _) (Nat.zero_le _) (fun H locs hP hD hS => ?_)
        cases h
        exact x_iret hx hb hr hlocks hK hP hD hS rfl rfl dX7_motion_46
    · exact wJ24 h _ _ hP hD hS _ (lv_sub hl [0] rfl)

def f_X7_ofMotion  (v_d : Nat → Int32) (v_found : Nat → Int32) (v_horn : Int32) (v_brass : Int32) (p0 : Int32) (p1 : Int32) : Option ((Nat → Int32) × (Int32) × (Int32) × (Int32)) :=
  bd1 (f_X7_isMotion v_d p0) (fun r_1 => jnA (bd2 (f_X7_finds v_found 1) (fun v_found_2 r_3 => some (v_found_2, v_horn, v_brass, r_3))) (fun J20 => (if r_1 = 0 then J20 else bd1 (f_X7_in (p1.toInt64) 0 5) (fun r_4 => (if r_4 = 0 then J20 else (if 3 ≤ p1 then (if 5 ≤ p1 then bd3 (f_X7_wouldPass v_d v_horn v_brass p0) (fun v_horn_5 v_brass_6 r_7 => (if r_7 = 0 then some (v_found, v_horn_5, v_brass_6, 0) else some (v_found, v_horn_5, v_brass_6, 1))) else bd3 (f_X7_countsFor v_d v_horn v_brass p0 (4 - p1)) (fun v_horn_8 v_brass_9 r_10 => some (v_found, v_horn_8, v_brass_9, r_10))) else bd1 (f_X7_its v_d p0 p1) (fun r_11 => some (v_found, v_horn, v_brass, r_11))))))))
set_option maxHeartbeats 600000 in
set_option maxRecDepth 100000 in
theorem c_X7_ofMotion (l : Launch) (D : va_G) (cI cS : ClassId) (o : Nat → Nat) {v_d : Nat → Int32} {v_kept : Nat → Int32} {v_images : Int32} {v_found : Nat → Int32} {v_aside : Nat → Int32} {v_base : Int32} {v_at : Int32} {v_size : Int32} {v_fault : Int32} {v_opened : Int32} {v_isCold : Int32} {v_names : Nat → Int32} {v_code : Nat → Int32} {v_coded : Int32} {v_pile : Nat → Int32} {v_horn : Int32} {v_brass : Int32} {v_coldAhead : Nat → Int32} {v_which : Nat → Int32} {v_whichMany : Int32} {v_bestPass : Int32} {v_bestLive : Int32} {v_bestCode : Int32} {v_traced : Nat → Int32} {v_traceMany : Int32} {v_who : Int32} {v_bitsOf : Nat → Int32} {v_sizeOf : Nat → Int32} {v_number : Nat → Int32} {v_lifted : Nat → Int32} {p0 : Int32} {p1 : Int32} {w_found : Nat → Int32} {w_horn : Int32} {w_brass : Int32} {r_out : Int32} (h : f_X7_ofMotion  v_d v_found v_horn v_brass p0 p1 = some (w_found, w_horn, w_brass, r_out)) : MetI l D (tysX cI cS) St0 yX7_ofMotion cX7_ofMotion 3 (some .int) 7 156 [.ref (o 0), .int p0, .int p1] (pcX7 o cI v_d v_kept v_images v_found v_aside v_base v_at v_size v_fault v_opened v_isCold v_names v_code v_coded v_pile v_horn v_brass v_coldAhead v_which v_whichMany v_bestPass v_bestLive v_bestCode v_traced v_traceMany v_who v_bitsOf v_sizeOf v_number v_lifted) r_out (pcX7 o cI v_d v_kept v_images w_found v_aside v_base v_at v_size v_fault v_opened v_isCold v_names v_code v_coded v_pile w_horn w_brass v_coldAhead v_which v_whichMany v_bestPass v_bestLive v_bestCode v_traced v_traceMany v_who v_bitsOf v_sizeOf v_number v_lifted) := by
  refine Ent.metI (by decide +kernel) (Nat.le_of_ble_eq_true rfl) ?_
  intro p e s m args below meth c A ls hx hb hr hml hown hts hlocks hA hK hSt hP hD hS hl
  have hown : s.vm.findClass RX7 = some m.cls := hown
  have S : XFix p m c cX7_ofMotion 3 s args RX7 := ⟨hx, hb, hml, hown, hts⟩
  have hl : lv_has ls 3 [(0, .ref (o 0)), (1, .int p0), (2, .int p1)] := hl
  unfold f_X7_ofMotion at h
  refine lv_aload_n hx hb dX7_ofMotion_0 rfl (lv_at hl 0 rfl) ?_
  refine lv_iload_n hx hb dX7_ofMotion_1 rfl (lv_at hl 1 rfl) ?_
  obtain ⟨r_1, hc2, h⟩ := bd1_s h
  refine x_selfVi (As := [.int p0]) (rest := []) St0_ok S (c_X7_isMotion l D cI cS o hc2) yf_X7_isMotion wd15_22 ⟨Nat.le_of_ble_eq_true rfl, Nat.le_of_ble_eq_true rfl⟩ hK hSt hA hP hD hS 0 rfl rfl rfl hl.1 rfl (Nat.le_of_ble_eq_true rfl) dX7_ofMotion_2 (Nat.zero_le _) (Nat.zero_le _) (fun H locs hP hD hS => ?_)
  obtain ⟨J20, eJ20, h⟩ := jnA_s h
  have wJ20 : J20  = some (w_found, w_horn, w_brass, r_out) → ∀ (H : Heap) (locs : List Loc), va_P D vwCl (pcX7 o cI v_d v_kept v_images v_found v_aside v_base v_at v_size v_fault v_opened v_isCold v_names v_code v_coded v_pile v_horn v_brass v_coldAhead v_which v_whichMany v_bestPass v_bestLive v_bestCode v_traced v_traceMany v_who v_bitsOf v_sizeOf v_number v_lifted) H → va_D A (pcX7 o cI v_d v_kept v_images v_found v_aside v_base v_at v_size v_fault v_opened v_isCold v_names v_code v_coded v_pile v_horn v_brass v_coldAhead v_which v_whichMany v_bestPass v_bestLive v_bestCode v_traced v_traceMany v_who v_bitsOf v_sizeOf v_number v_lifted) → va_S A s.heap H locs → ∀ ls : Array Slot, lv_has ls 3 [(0, .ref (o 0))] → WI p l e 7 156 s m args below meth c D (tysX cI cS) A r_out (pcX7 o cI v_d v_kept v_images w_found v_aside v_base v_at v_size v_fault v_opened v_isCold v_names v_code v_coded v_pile w_horn w_brass v_coldAhead v_which v_whichMany v_bestPass v_bestLive v_bestCode v_traced v_traceMany v_who v_bitsOf v_sizeOf v_number v_lifted) H locs (F0 m 20 ls []) := by
      intro h H locs hP hD hS ls hl
      subst eJ20
      refine lv_aload_n hx hb dX7_ofMotion_20 rfl (lv_at hl 0 rfl) ?_
      refine lv_iconst (v := 1) hx hb dX7_ofMotion_21 (by decide) ?_
      obtain ⟨v_found_2, r_3, hc22, h⟩ := bd2_s h
      refine x_selfVi (As := [.int 1]) (rest := []) St0_ok S (c_X7_finds l D cI cS o hc22) yf_X7_finds wd6_10 ⟨Nat.le_of_ble_eq_true rfl, Nat.le_of_ble_eq_true rfl⟩ hK hSt hA hP hD hS 0 rfl rfl rfl hl.1 rfl (Nat.le_of_ble_eq_true rfl) dX7_ofMotion_22 (Nat.zero_le _) (Nat.zero_le _) (fun H locs hP hD hS => ?_)
      cases h
      exact x_iret hx hb hr hlocks hK hP hD hS rfl rfl dX7_ofMotion_25
  refine x_if_eq (tgt := 20) hx hb h dX7_ofMotion_5 (by decide) (fun c5 h => ?_) (fun c5 h => ?_)
  · exact wJ20 h _ _ hP hD hS _ (lv_sub hl [0] rfl)
  · refine lv_iload_n hx hb dX7_ofMotion_8 rfl (lv_at hl 2 rfl) ?_
    refine lv_i2l (v := (p1.toInt64)) hx hb dX7_ofMotion_9 rfl ?_
    refine lv_lconst (v := 0) hx hb dX7_ofMotion_10 (by decide) ?_
    refine lv_ldc2 (v := 5) hx hb hown (hts _ wd15_21) dX7_ofMotion_11 ?_
    obtain ⟨r_4, hc14, h⟩ := bd1_s h
    refine x_statI (As := [.long (p1.toInt64), .long 0, .long 5]) (rest := []) St0_ok S (c_X7_in l D cI cS o hc14) ys_X7_in wd6_7 ⟨Nat.le_of_ble_eq_true rfl, Nat.le_of_ble_eq_true rfl⟩ hK hSt hA hP hD hS rfl hl.1 rfl (Nat.le_of_ble_eq_true rfl) dX7_ofMotion_14 (Nat.zero_le _) (Nat.zero_le _) (fun H locs hP hD hS => ?_)
    refine x_if_ne (tgt := 26) hx hb h dX7_ofMotion_17 (by decide) (fun c17 h => ?_) (fun c17 h => ?_)
    · refine lv_iload_n hx hb dX7_ofMotion_26 rfl (lv_at hl 2 rfl) ?_
      refine lv_iconst (v := 3) hx hb dX7_ofMotion_27 (by decide) ?_
      refine x_icmp_ge (tgt := 40) hx hb h dX7_ofMotion_28 (by decide) (fun c28 h => ?_) (fun c28 h => ?_)
      · refine lv_iload_n hx hb dX7_ofMotion_40 rfl (lv_at hl 2 rfl) ?_
        refine lv_iconst (v := 5) hx hb dX7_ofMotion_41 (by decide) ?_
        refine x_icmp_ge (tgt := 56) hx hb h dX7_ofMotion_42 (by decide) (fun c42 h => ?_) (fun c42 h => ?_)
        · refine lv_aload_n hx hb dX7_ofMotion_56 rfl (lv_at hl 0 rfl) ?_
          refine lv_iload_n hx hb dX7_ofMotion_57 rfl (lv_at hl 1 rfl) ?_
          obtain ⟨v_horn_5, v_brass_6, r_7, hc58, h⟩ := bd3_s h
          refine x_selfVi (As := [.int p0]) (rest := []) St0_ok S (c_X7_wouldPass l D cI cS o hc58) yf_X7_wouldPass wd16_6 ⟨Nat.le_of_ble_eq_true rfl, Nat.le_of_ble_eq_true rfl⟩ hK hSt hA hP hD hS 0 rfl rfl rfl hl.1 rfl (Nat.le_of_ble_eq_true rfl) dX7_ofMotion_58 (Nat.zero_le _) (Nat.zero_le _) (fun H locs hP hD hS => ?_)
          refine x_if_eq (tgt := 68) hx hb h dX7_ofMotion_61 (by decide) (fun c61 h => ?_) (fun c61 h => ?_)
          · refine lv_iconst (v := 0) hx hb dX7_ofMotion_68 (by decide) ?_
            cases h
            exact x_iret hx hb hr hlocks hK hP hD hS rfl rfl dX7_ofMotion_69
          · refine lv_iconst (v := 1) hx hb dX7_ofMotion_64 (by decide) ?_
            refine lv_goto (tgt := 69) hx hb dX7_ofMotion_65 (by decide) ?_
            cases h
            exact x_iret hx hb hr hlocks hK hP hD hS rfl rfl dX7_ofMotion_69
        · refine lv_aload_n hx hb dX7_ofMotion_45 rfl (lv_at hl 0 rfl) ?_
          refine lv_iload_n hx hb dX7_ofMotion_46 rfl (lv_at hl 1 rfl) ?_
          refine lv_iconst (v := 4) hx hb dX7_ofMotion_47 (by decide) ?_
          refine lv_iload_n hx hb dX7_ofMotion_48 rfl (lv_at hl 2 rfl) ?_
          refine lv_isub hx hb dX7_ofMotion_49 ?_
          obtain ⟨v_horn_8, v_brass_9, r_10, hc50, h⟩ := bd3_s h
          refine x_selfVi (As := [.int p0, .int (4 - p1)]) (rest := []) St0_ok S (c_X7_countsFor l D cI cS o hc50) yf_X7_countsFor wd16_2 ⟨Nat.le_of_ble_eq_true rfl, Nat.le_of_ble_eq_true rfl⟩ hK hSt hA hP hD hS 0 rfl rfl rfl hl.1 rfl (Nat.le_of_ble_eq_true rfl) dX7_ofMotion_50 (Nat.zero_le _) (Nat.zero_le _) (fun H locs hP hD hS => ?_)
          refine lv_goto (tgt := 69) hx hb dX7_ofMotion_53 (by decide) ?_
          cases h
          exact x_iret hx hb hr hlocks hK hP hD hS rfl rfl dX7_ofMotion_69
      · refine lv_aload_n hx hb dX7_ofMotion_31 rfl (lv_at hl 0 rfl) ?_
        refine lv_iload_n hx hb dX7_ofMotion_32 rfl (lv_at hl 1 rfl) ?_
        refine lv_iload_n hx hb dX7_ofMotion_33 rfl (lv_at hl 2 rfl) ?_
        obtain ⟨r_11, hc34, h⟩ := bd1_s h
        refine x_selfVi (As := [.int p0, .int p1]) (rest := []) St0_ok S (c_X7_its l D cI cS o hc34) yf_X7_its wd11_15 ⟨Nat.le_of_ble_eq_true rfl, Nat.le_of_ble_eq_true rfl⟩ hK hSt hA hP hD hS 0 rfl rfl rfl hl.1 rfl (Nat.le_of_ble_eq_true rfl) dX7_ofMotion_34 (Nat.zero_le _) (Nat.zero_le _) (fun H locs hP hD hS => ?_)
        refine lv_goto (tgt := 69) hx hb dX7_ofMotion_37 (by decide) ?_
        cases h
        exact x_iret hx hb hr hlocks hK hP hD hS rfl rfl dX7_ofMotion_69
    · exact wJ20 h _ _ hP hD hS _ (lv_sub hl [0] rfl)

def f_X7_side  (v_d : Nat → Int32) (v_found : Nat → Int32) (p0 : Int32) (p1 : Int32) : Option ((Nat → Int32) × (Nat → Int32) × (Int32)) :=
  bd1 (f_X7_isMotion v_d p0) (fun r_1 => jnA (bd2 (f_X7_finds v_found 1) (fun v_found_2 r_3 => some (v_d, v_found_2, r_3))) (fun J20 => (if r_1 = 0 then J20 else bd1 (f_X7_in (p1.toInt64) 0 255) (fun r_4 => (if r_4 = 0 then J20 else bd1 (f_X7_its v_d p0 1) (fun r_5 => wrA 248 v_d ((58 + (3 * p0)) + 1) p1 (fun v_d_6 => some (v_d_6, v_found, r_5))))))))
set_option maxHeartbeats 600000 in
set_option maxRecDepth 100000 in
theorem c_X7_side (l : Launch) (D : va_G) (cI cS : ClassId) (o : Nat → Nat) {v_d : Nat → Int32} {v_kept : Nat → Int32} {v_images : Int32} {v_found : Nat → Int32} {v_aside : Nat → Int32} {v_base : Int32} {v_at : Int32} {v_size : Int32} {v_fault : Int32} {v_opened : Int32} {v_isCold : Int32} {v_names : Nat → Int32} {v_code : Nat → Int32} {v_coded : Int32} {v_pile : Nat → Int32} {v_horn : Int32} {v_brass : Int32} {v_coldAhead : Nat → Int32} {v_which : Nat → Int32} {v_whichMany : Int32} {v_bestPass : Int32} {v_bestLive : Int32} {v_bestCode : Int32} {v_traced : Nat → Int32} {v_traceMany : Int32} {v_who : Int32} {v_bitsOf : Nat → Int32} {v_sizeOf : Nat → Int32} {v_number : Nat → Int32} {v_lifted : Nat → Int32} {p0 : Int32} {p1 : Int32} {w_d : Nat → Int32} {w_found : Nat → Int32} {r_out : Int32} (h : f_X7_side  v_d v_found p0 p1 = some (w_d, w_found, r_out)) : MetI l D (tysX cI cS) St0 yX7_side cX7_side 4 (some .int) 2 46 [.ref (o 0), .int p0, .int p1] (pcX7 o cI v_d v_kept v_images v_found v_aside v_base v_at v_size v_fault v_opened v_isCold v_names v_code v_coded v_pile v_horn v_brass v_coldAhead v_which v_whichMany v_bestPass v_bestLive v_bestCode v_traced v_traceMany v_who v_bitsOf v_sizeOf v_number v_lifted) r_out (pcX7 o cI w_d v_kept v_images w_found v_aside v_base v_at v_size v_fault v_opened v_isCold v_names v_code v_coded v_pile v_horn v_brass v_coldAhead v_which v_whichMany v_bestPass v_bestLive v_bestCode v_traced v_traceMany v_who v_bitsOf v_sizeOf v_number v_lifted) := by
  refine Ent.metI (by decide +kernel) (Nat.le_of_ble_eq_true rfl) ?_
  intro p e s m args below meth c A ls hx hb hr hml hown hts hlocks hA hK hSt hP hD hS hl
  have hown : s.vm.findClass RX7 = some m.cls := hown
  have S : XFix p m c cX7_side 4 s args RX7 := ⟨hx, hb, hml, hown, hts⟩
  have hl : lv_has ls 4 [(0, .ref (o 0)), (1, .int p0), (2, .int p1)] := hl
  unfold f_X7_side at h
  refine lv_aload_n hx hb dX7_side_0 rfl (lv_at hl 0 rfl) ?_
  refine lv_iload_n hx hb dX7_side_1 rfl (lv_at hl 1 rfl) ?_
  obtain ⟨r_1, hc2, h⟩ := bd1_s h
  refine x_selfVi (As := [.int p0]) (rest := []) St0_ok S (c_X7_isMotion l D cI cS o hc2) yf_X7_isMotion wd15_22 ⟨Nat.le_of_ble_eq_true rfl, Nat.le_of_ble_eq_true rfl⟩ hK hSt hA hP hD hS 0 rfl rfl rfl hl.1 rfl (Nat.le_of_ble_eq_true rfl) dX7_side_2 (Nat.zero_le _) (Nat.zero_le _) (fun H locs hP hD hS => ?_)
  obtain ⟨J20, eJ20, h⟩ := jnA_s h
  have wJ20 : J20  = some (w_d, w_found, r_out) → ∀ (H : Heap) (locs : List Loc), va_P D vwCl (pcX7 o cI v_d v_kept v_images v_found v_aside v_base v_at v_size v_fault v_opened v_isCold v_names v_code v_coded v_pile v_horn v_brass v_coldAhead v_which v_whichMany v_bestPass v_bestLive v_bestCode v_traced v_traceMany v_who v_bitsOf v_sizeOf v_number v_lifted) H → va_D A (pcX7 o cI v_d v_kept v_images v_found v_aside v_base v_at v_size v_fault v_opened v_isCold v_names v_code v_coded v_pile v_horn v_brass v_coldAhead v_which v_whichMany v_bestPass v_bestLive v_bestCode v_traced v_traceMany v_who v_bitsOf v_sizeOf v_number v_lifted) → va_S A s.heap H locs → ∀ ls : Array Slot, lv_has ls 4 [(0, .ref (o 0))] → WI p l e 2 46 s m args below meth c D (tysX cI cS) A r_out (pcX7 o cI w_d v_kept v_images w_found v_aside v_base v_at v_size v_fault v_opened v_isCold v_names v_code v_coded v_pile v_horn v_brass v_coldAhead v_which v_whichMany v_bestPass v_bestLive v_bestCode v_traced v_traceMany v_who v_bitsOf v_sizeOf v_number v_lifted) H locs (F0 m 20 ls []) := by
      intro h H locs hP hD hS ls hl
      subst eJ20
      refine lv_aload_n hx hb dX7_side_20 rfl (lv_at hl 0 rfl) ?_
      refine lv_iconst (v := 1) hx hb dX7_side_21 (by decide) ?_
      obtain ⟨v_found_2, r_3, hc22, h⟩ := bd2_s h
      refine x_selfVi (As := [.int 1]) (rest := []) St0_ok S (c_X7_finds l D cI cS o hc22) yf_X7_finds wd6_10 ⟨Nat.le_of_ble_eq_true rfl, Nat.le_of_ble_eq_true rfl⟩ hK hSt hA hP hD hS 0 rfl rfl rfl hl.1 rfl (Nat.le_of_ble_eq_true rfl) dX7_side_22 (Nat.zero_le _) (Nat.zero_le _) (fun H locs hP hD hS => ?_)
      cases h
      exact x_iret hx hb hr hlocks hK hP hD hS rfl rfl dX7_side_25
  refine x_if_eq (tgt := 20) hx hb h dX7_side_5 (by decide) (fun c5 h => ?_) (fun c5 h => ?_)
  · exact wJ20 h _ _ hP hD hS _ (lv_sub hl [0] rfl)
  · refine lv_iload_n hx hb dX7_side_8 rfl (lv_at hl 2 rfl) ?_
    refine lv_i2l (v := (p1.toInt64)) hx hb dX7_side_9 rfl ?_
    refine lv_lconst (v := 0) hx hb dX7_side_10 (by decide) ?_
    refine lv_ldc2 (v := 255) hx hb hown (hts _ wd14_18) dX7_side_11 ?_
    obtain ⟨r_4, hc14, h⟩ := bd1_s h
    refine x_statI (As := [.long (p1.toInt64), .long 0, .long 255]) (rest := []) St0_ok S (c_X7_in l D cI cS o hc14) ys_X7_in wd6_7 ⟨Nat.le_of_ble_eq_true rfl, Nat.le_of_ble_eq_true rfl⟩ hK hSt hA hP hD hS rfl hl.1 rfl (Nat.le_of_ble_eq_true rfl) dX7_side_14 (Nat.zero_le _) (Nat.zero_le _) (fun H locs hP hD hS => ?_)
    refine x_if_ne (tgt := 26) hx hb h dX7_side_17 (by decide) (fun c17 h => ?_) (fun c17 h => ?_)
    · refine lv_aload_n hx hb dX7_side_26 rfl (lv_at hl 0 rfl) ?_
      refine lv_iload_n hx hb dX7_side_27 rfl (lv_at hl 1 rfl) ?_
      refine lv_iconst (v := 1) hx hb dX7_side_28 (by decide) ?_
      obtain ⟨r_5, hc29, h⟩ := bd1_s h
      refine x_selfVi (As := [.int p0, .int 1]) (rest := []) St0_ok S (c_X7_its l D cI cS o hc29) yf_X7_its wd11_15 ⟨Nat.le_of_ble_eq_true rfl, Nat.le_of_ble_eq_true rfl⟩ hK hSt hA hP hD hS 0 rfl rfl rfl hl.1 rfl (Nat.le_of_ble_eq_true rfl) dX7_side_29 (Nat.zero_le _) (Nat.zero_le _) (fun H locs hP hD hS => ?_)
      refine lv_istore_n (lv' := [(3, .int r_5), (0, .ref (o 0)), (1, .int p0), (2, .int p1)]) hx hb dX7_side_32 rfl hl (by decide) rfl (fun ls hl => ?_)
      refine lv_aload_n hx hb dX7_side_33 rfl (lv_at hl 1 rfl) ?_
      refine gt_X7_7 S hK hP 0 rfl rfl dX7_side_34 ?_
      refine lv_bipush (v := 58) hx hb dX7_side_37 (by decide) ?_
      refine lv_iconst (v := 3) hx hb dX7_side_39 (by decide) ?_
      refine lv_iload_n hx hb dX7_side_40 rfl (lv_at hl 2 rfl) ?_
      refine lv_imul hx hb dX7_side_41 ?_
      refine lv_iadd hx hb dX7_side_42 ?_
      refine lv_iconst (v := 1) hx hb dX7_side_43 (by decide) ?_
      refine lv_iadd hx hb dX7_side_44 ?_
      refine lv_iload_n hx hb dX7_side_45 rfl (lv_at hl 3 rfl) ?_
      refine x_ast hx hb hK hP hD hS 1 h rfl rfl dX7_side_46 (fun v_d_6 ev_d_6 h H locs hP hD hS => ?_)
      have hP : va_P D vwCl (pcX7 o cI v_d_6 v_kept v_images v_found v_aside v_base v_at v_size v_fault v_opened v_isCold v_names v_code v_coded v_pile v_horn v_brass v_coldAhead v_which v_whichMany v_bestPass v_bestLive v_bestCode v_traced v_traceMany v_who v_bitsOf v_sizeOf v_number v_lifted) H := hP
      have hD : va_D A (pcX7 o cI v_d_6 v_kept v_images v_found v_aside v_base v_at v_size v_fault v_opened v_isCold v_names v_code v_coded v_pile v_horn v_brass v_coldAhead v_which v_whichMany v_bestPass v_bestLive v_bestCode v_traced v_traceMany v_who v_bitsOf v_sizeOf v_number v_lifted) := hD
      refine lv_iload_n hx hb dX7_side_47 rfl (lv_at hl 0 rfl) ?_
      cases h
      exact x_iret hx hb hr hlocks hK hP hD hS rfl rfl dX7_side_48
    · exact wJ20 h _ _ hP hD hS _ (lv_sub hl [0] rfl)

def f_X7_set  (v_d : Nat → Int32) (v_found : Nat → Int32) (p0 : Int32) (p1 : Int32) : Option ((Nat → Int32) × (Nat → Int32) × (Int32)) :=
  bd1 (f_X7_in (p0.toInt64) 0 1) (fun r_1 => jnA (bd2 (f_X7_finds v_found 1) (fun v_found_2 r_3 => some (v_d, v_found_2, r_3))) (fun J32 => (if r_1 = 0 then J32 else jnA (fun (t0_4 : Int64) => bd1 (f_X7_in (p1.toInt64) 0 t0_4) (fun r_5 => (if r_5 = 0 then J32 else jnA (fun (t0_6 : Int32) => rdA 248 v_d t0_6 (fun x_7 => wrA 248 v_d t0_6 p1 (fun v_d_8 => some (v_d_8, v_found, x_7)))) (fun J47 => (if p0 = 0 then J47 5 else J47 4))))) (fun J26 => (if p0 = 0 then J26 9 else J26 99)))))
set_option maxHeartbeats 600000 in
set_option maxRecDepth 100000 in
theorem c_X7_set (l : Launch) (D : va_G) (cI cS : ClassId) (o : Nat → Nat) {v_d : Nat → Int32} {v_kept : Nat → Int32} {v_images : Int32} {v_found : Nat → Int32} {v_aside : Nat → Int32} {v_base : Int32} {v_at : Int32} {v_size : Int32} {v_fault : Int32} {v_opened : Int32} {v_isCold : Int32} {v_names : Nat → Int32} {v_code : Nat → Int32} {v_coded : Int32} {v_pile : Nat → Int32} {v_horn : Int32} {v_brass : Int32} {v_coldAhead : Nat → Int32} {v_which : Nat → Int32} {v_whichMany : Int32} {v_bestPass : Int32} {v_bestLive : Int32} {v_bestCode : Int32} {v_traced : Nat → Int32} {v_traceMany : Int32} {v_who : Int32} {v_bitsOf : Nat → Int32} {v_sizeOf : Nat → Int32} {v_number : Nat → Int32} {v_lifted : Nat → Int32} {p0 : Int32} {p1 : Int32} {w_d : Nat → Int32} {w_found : Nat → Int32} {r_out : Int32} (h : f_X7_set  v_d v_found p0 p1 = some (w_d, w_found, r_out)) : MetI l D (tysX cI cS) St0 yX7_set cX7_set 5 (some .int) 1 25 [.ref (o 0), .int p0, .int p1] (pcX7 o cI v_d v_kept v_images v_found v_aside v_base v_at v_size v_fault v_opened v_isCold v_names v_code v_coded v_pile v_horn v_brass v_coldAhead v_which v_whichMany v_bestPass v_bestLive v_bestCode v_traced v_traceMany v_who v_bitsOf v_sizeOf v_number v_lifted) r_out (pcX7 o cI w_d v_kept v_images w_found v_aside v_base v_at v_size v_fault v_opened v_isCold v_names v_code v_coded v_pile v_horn v_brass v_coldAhead v_which v_whichMany v_bestPass v_bestLive v_bestCode v_traced v_traceMany v_who v_bitsOf v_sizeOf v_number v_lifted) := by
  refine Ent.metI (by decide +kernel) (Nat.le_of_ble_eq_true rfl) ?_
  intro p e s m args below meth c A ls hx hb hr hml hown hts hlocks hA hK hSt hP hD hS hl
  have hown : s.vm.findClass RX7 = some m.cls := hown
  have S : XFix p m c cX7_set 5 s args RX7 := ⟨hx, hb, hml, hown, hts⟩
  have hl : lv_has ls 5 [(0, .ref (o 0)), (1, .int p0), (2, .int p1)] := hl
  unfold f_X7_set at h
  refine lv_iload_n hx hb dX7_set_0 rfl (lv_at hl 1 rfl) ?_
  refine lv_i2l (v := (p0.toInt64)) hx hb dX7_set_1 rfl ?_
  refine lv_lconst (v := 0) hx hb dX7_set_2 (by decide) ?_
  refine lv_lconst (v := 1) hx hb dX7_set_3 (by decide) ?_
  obtain ⟨r_1, hc4, h⟩ := bd1_s h
  refine x_statI (As := [.long (p0.toInt64), .long 0, .long 1]) (rest := []) St0_ok S (c_X7_in l D cI cS o hc4) ys_X7_in wd6_7 ⟨Nat.le_of_ble_eq_true rfl, Nat.le_of_ble_eq_true rfl⟩ hK hSt hA hP hD hS rfl hl.1 rfl (Nat.le_of_ble_eq_true rfl) dX7_set_4 (Nat.zero_le _) (Nat.zero_le _) (fun H locs hP hD hS => ?_)
  obtain ⟨J32, eJ32, h⟩ := jnA_s h
  have wJ32 : J32  = some (w_d, w_found, r_out) → ∀ (H : Heap) (locs : List Loc), va_P D vwCl (pcX7 o cI v_d v_kept v_images v_found v_aside v_base v_at v_size v_fault v_opened v_isCold v_names v_code v_coded v_pile v_horn v_brass v_coldAhead v_which v_whichMany v_bestPass v_bestLive v_bestCode v_traced v_traceMany v_who v_bitsOf v_sizeOf v_number v_lifted) H → va_D A (pcX7 o cI v_d v_kept v_images v_found v_aside v_base v_at v_size v_fault v_opened v_isCold v_names v_code v_coded v_pile v_horn v_brass v_coldAhead v_which v_whichMany v_bestPass v_bestLive v_bestCode v_traced v_traceMany v_who v_bitsOf v_sizeOf v_number v_lifted) → va_S A s.heap H locs → ∀ ls : Array Slot, lv_has ls 5 [(0, .ref (o 0))] → WI p l e 1 25 s m args below meth c D (tysX cI cS) A r_out (pcX7 o cI w_d v_kept v_images w_found v_aside v_base v_at v_size v_fault v_opened v_isCold v_names v_code v_coded v_pile v_horn v_brass v_coldAhead v_which v_whichMany v_bestPass v_bestLive v_bestCode v_traced v_traceMany v_who v_bitsOf v_sizeOf v_number v_lifted) H locs (F0 m 32 ls []) := by
      intro h H locs hP hD hS ls hl
      subst eJ32
      refine lv_aload_n hx hb dX7_set_32 rfl (lv_at hl 0 rfl) ?_
      refine lv_iconst (v := 1) hx hb dX7_set_33 (by decide) ?_
      obtain ⟨v_found_2, r_3, hc34, h⟩ := bd2_s h
      refine x_selfVi (As := [.int 1]) (rest := []) St0_ok S (c_X7_finds l D cI cS o hc34) yf_X7_finds wd6_10 ⟨Nat.le_of_ble_eq_true rfl, Nat.le_of_ble_eq_true rfl⟩ hK hSt hA hP hD hS 0 rfl rfl rfl hl.1 rfl (Nat.le_of_ble_eq_true rfl) dX7_set_34 (Nat.zero_le _) (Nat.zero_le _) (fun H locs hP hD hS => ?_)
      cases h
      exact x_iret hx hb hr hlocks hK hP hD hS rfl rfl dX7_set_37
  refine x_if_eq (tgt := 32) hx hb h dX7_set_7 (by decide) (fun c7 h => ?_) (fun c7 h => ?_)
  · exact wJ32 h _ _ hP hD hS _ (lv_sub hl [0] rfl)
  · refine lv_iload_n hx hb dX7_set_10 rfl (lv_at hl 2 rfl) ?_
    refine lv_i2l (v := (p1.toInt64)) hx hb dX7_set_11 rfl ?_
    refine lv_lconst (v := 0) hx hb dX7_set_12 (by decide) ?_
    refine lv_iload_n hx hb dX7_set_13 rfl (lv_at hl 1 rfl) ?_
    obtain ⟨J26, eJ26, h⟩ := jnA_s h
    have wJ26 : ∀ (t0_4 : Int64), J26 t0_4 = some (w_d, w_found, r_out) → ∀ (H : Heap) (locs : List Loc), va_P D vwCl (pcX7 o cI v_d v_kept v_images v_found v_aside v_base v_at v_size v_fault v_opened v_isCold v_names v_code v_coded v_pile v_horn v_brass v_coldAhead v_which v_whichMany v_bestPass v_bestLive v_bestCode v_traced v_traceMany v_who v_bitsOf v_sizeOf v_number v_lifted) H → va_D A (pcX7 o cI v_d v_kept v_images v_found v_aside v_base v_at v_size v_fault v_opened v_isCold v_names v_code v_coded v_pile v_horn v_brass v_coldAhead v_which v_whichMany v_bestPass v_bestLive v_bestCode v_traced v_traceMany v_who v_bitsOf v_sizeOf v_number v_lifted) → va_S A s.heap H locs → ∀ ls : Array Slot, lv_has ls 5 [(0, .ref (o 0)), (1, .int p0), (2, .int p1)] → WI p l e 1 25 s m args below meth c D (tysX cI cS) A r_out (pcX7 o cI w_d v_kept v_images w_found v_aside v_base v_at v_size v_fault v_opened v_isCold v_names v_code v_coded v_pile v_horn v_brass v_coldAhead v_which v_whichMany v_bestPass v_bestLive v_bestCode v_traced v_traceMany v_who v_bitsOf v_sizeOf v_number v_lifted) H locs (F0 m 26 ls [.long t0_4, .long 0, .long (p1.toInt64)]) := by
        intro t0_4 h H locs hP hD hS ls hl
        subst eJ26
        dsimp only at h
        obtain ⟨r_5, hc26, h⟩ := bd1_s h
        refine x_statI (As := [.long (p1.toInt64), .long 0, .long t0_4]) (rest := []) St0_ok S (c_X7_in l D cI cS o hc26) ys_X7_in wd6_7 ⟨Nat.le_of_ble_eq_true rfl, Nat.le_of_ble_eq_true rfl⟩ hK hSt hA hP hD hS rfl hl.1 rfl (Nat.le_of_ble_eq_true rfl) dX7_set_26 (Nat.zero_le _) (Nat.zero_le _) (fun H locs hP hD hS => ?_)
        refine x_if_ne (tgt := 38) hx hb h dX7_set_29 (by decide) (fun c29 h => ?_) (fun c29 h => ?_)
        · refine lv_iload_n hx hb dX7_set_38 rfl (lv_at hl 1 rfl) ?_
          obtain ⟨J47, eJ47, h⟩ := jnA_s h
          have wJ47 : ∀ (t0_6 : Int32), J47 t0_6 = some (w_d, w_found, r_out) → ∀ (H : Heap) (locs : List Loc), va_P D vwCl (pcX7 o cI v_d v_kept v_images v_found v_aside v_base v_at v_size v_fault v_opened v_isCold v_names v_code v_coded v_pile v_horn v_brass v_coldAhead v_which v_whichMany v_bestPass v_bestLive v_bestCode v_traced v_traceMany v_who v_bitsOf v_sizeOf v_number v_lifted) H → va_D A (pcX7 o cI v_d v_kept v_images v_found v_aside v_base v_at v_size v_fault v_opened v_isCold v_names v_code v_coded v_pile v_horn v_brass v_coldAhead v_which v_whichMany v_bestPass v_bestLive v_bestCode v_traced v_traceMany v_who v_bitsOf v_sizeOf v_number v_lifted) → va_S A s.heap H locs → ∀ ls : Array Slot, lv_has ls 5 [(0, .ref (o 0)), (2, .int p1)] → WI p l e 1 25 s m args below meth c D (tysX cI cS) A r_out (pcX7 o cI w_d v_kept v_images w_found v_aside v_base v_at v_size v_fault v_opened v_isCold v_names v_code v_coded v_pile v_horn v_brass v_coldAhead v_which v_whichMany v_bestPass v_bestLive v_bestCode v_traced v_traceMany v_who v_bitsOf v_sizeOf v_number v_lifted) H locs (F0 m 47 ls [.int t0_6]) := by
              intro t0_6 h H locs hP hD hS ls hl
              subst eJ47
              dsimp only at h
              refine lv_istore_n (lv' := [(3, .int t0_6), (0, .ref (o 0)), (2, .int p1)]) hx hb dX7_set_47 rfl hl (by decide) rfl (fun ls hl => ?_)
              refine lv_aload_n hx hb dX7_set_48 rfl (lv_at hl 1 rfl) ?_
              refine gt_X7_7 S hK hP 0 rfl rfl dX7_set_49 ?_
              refine lv_iload_n hx hb dX7_set_52 rfl (lv_at hl 0 rfl) ?_
              refine x_ald hx hb hK hP 1 h rfl rfl dX7_set_53 (fun x_7 ex_7 h => ?_)
              refine lv_istore (lv' := [(4, .int x_7), (3, .int t0_6), (0, .ref (o 0)), (2, .int p1)]) hx hb dX7_set_54 hl (by decide) rfl (fun ls hl => ?_)
              refine lv_aload_n hx hb dX7_set_56 rfl (lv_at hl 2 rfl) ?_
              refine gt_X7_7 S hK hP 0 rfl rfl dX7_set_57 ?_
              refine lv_iload_n hx hb dX7_set_60 rfl (lv_at hl 1 rfl) ?_
              refine lv_iload_n hx hb dX7_set_61 rfl (lv_at hl 3 rfl) ?_
              refine x_ast hx hb hK hP hD hS 1 h rfl rfl dX7_set_62 (fun v_d_8 ev_d_8 h H locs hP hD hS => ?_)
              have hP : va_P D vwCl (pcX7 o cI v_d_8 v_kept v_images v_found v_aside v_base v_at v_size v_fault v_opened v_isCold v_names v_code v_coded v_pile v_horn v_brass v_coldAhead v_which v_whichMany v_bestPass v_bestLive v_bestCode v_traced v_traceMany v_who v_bitsOf v_sizeOf v_number v_lifted) H := hP
              have hD : va_D A (pcX7 o cI v_d_8 v_kept v_images v_found v_aside v_base v_at v_size v_fault v_opened v_isCold v_names v_code v_coded v_pile v_horn v_brass v_coldAhead v_which v_whichMany v_bestPass v_bestLive v_bestCode v_traced v_traceMany v_who v_bitsOf v_sizeOf v_number v_lifted) := hD
              refine lv_iload hx hb dX7_set_63 (lv_at hl 0 rfl) ?_
              cases h
              exact x_iret hx hb hr hlocks hK hP hD hS rfl rfl dX7_set_65
          refine x_if_ne (tgt := 46) hx hb h dX7_set_39 (by decide) (fun c39 h => ?_) (fun c39 h => ?_)
          · refine lv_iconst (v := 4) hx hb dX7_set_46 (by decide) ?_
            exact wJ47 4 h _ _ hP hD hS _ (lv_sub hl [0, 2] rfl)
          · refine lv_iconst (v := 5) hx hb dX7_set_42 (by decide) ?_
            refine lv_goto (tgt := 47) hx hb dX7_set_43 (by decide) ?_
            exact wJ47 5 h _ _ hP hD hS _ (lv_sub hl [0, 2] rfl)
        · exact wJ32 h _ _ hP hD hS _ (lv_sub hl [0] rfl)
    refine x_if_ne (tgt := 23) hx hb h dX7_set_14 (by decide) (fun c14 h => ?_) (fun c14 h => ?_)
    · refine lv_ldc2 (v := 99) hx hb hown (hts _ wd13_2) dX7_set_23 ?_
      exact wJ26 99 h _ _ hP hD hS _ (lv_sub hl [0, 1, 2] rfl)
    · refine lv_ldc2 (v := 9) hx hb hown (hts _ wd10_0) dX7_set_17 ?_
      refine lv_goto (tgt := 26) hx hb dX7_set_20 (by decide) ?_
      exact wJ26 9 h _ _ hP hD hS _ (lv_sub hl [0, 1, 2] rfl)

def f_X7_votes_L8 (J139 : (Nat → Int32) → Int32 → Int32 → Option ((Nat → Int32) × (Int32) × (Int32) × (Int32))) : Nat → (Nat → Int32) → Int32 → Int32 → Int32 → Option ((Nat → Int32) × (Int32) × (Int32) × (Int32))
  | 0, _, _, _, _ => none
  | k_n + 1, v_d_8, v_horn_9, v_brass_10, l3_11 => rdA 248 v_d_8 0 (fun x_12 => (if x_12 ≤ l3_11 then J139 v_d_8 v_horn_9 v_brass_10 else bd2 (f_X7_cuts v_d_8 v_horn_9 v_brass_10 l3_11) (fun v_horn_13 v_brass_14 => bd1 (f_X7_of v_d_8 l3_11 2) (fun r_15 => bd1 (f_X7_sets v_d_8 l3_11 2 (r_15 - v_horn_13)) (fun v_d_16 => bd1 (f_X7_of v_d_16 l3_11 3) (fun r_17 => bd1 (f_X7_sets v_d_16 l3_11 3 (r_17 - v_brass_14)) (fun v_d_18 => bd1 (f_X7_of v_d_18 l3_11 4) (fun r_19 => bd1 (f_X7_held ((r_19 + v_horn_13) + v_brass_14) 0 99) (fun r_20 => bd1 (f_X7_sets v_d_18 l3_11 4 r_20) (fun v_d_21 => rdA 248 v_d_21 2 (fun x_22 => bd1 (f_X7_held (x_22 + v_horn_13) 0 999) (fun r_23 => wrA 248 v_d_21 2 r_23 (fun v_d_24 => rdA 248 v_d_24 3 (fun x_25 => bd1 (f_X7_held (x_25 + v_brass_14) 0 999) (fun r_26 => wrA 248 v_d_24 3 r_26 (fun v_d_27 => nmA (l3_11 + 1) (fun l3_28 => f_X7_votes_L8 J139 k_n v_d_27 v_horn_13 v_brass_14 l3_28)))))))))))))))))
def f_X7_votes  (v_d : Nat → Int32) (v_horn : Int32) (v_brass : Int32) (p0 : Int32) : Option ((Nat → Int32) × (Int32) × (Int32) × (Int32)) :=
  bd3 (f_X7_wouldPass v_d v_horn v_brass p0) (fun v_horn_1 v_brass_2 r_3 => jnA (fun (v_d_4 : Nat → Int32) (v_horn_5 : Int32) (v_brass_6 : Int32) => (if r_3 = 0 then bzA r_3 (some (v_d_4, v_horn_5, v_brass_6, r_3)) else wrA 248 v_d_4 ((58 + (3 * p0)) + 2) 1 (fun v_d_7 => bzA r_3 (some (v_d_7, v_horn_5, v_brass_6, r_3))))) (fun J139 => f_X7_votes_L8 J139 300 v_d v_horn_1 v_brass_2 0))
set_option maxHeartbeats 600000 in
set_option maxRecDepth 100000 in
theorem c_X7_votes (l : Launch) (D : va_G) (cI cS : ClassId) (o : Nat → Nat) {v_d : Nat → Int32} {v_kept : Nat → Int32} {v_images : Int32} {v_found : Nat → Int32} {v_aside : Nat → Int32} {v_base : Int32} {v_at : Int32} {v_size : Int32} {v_fault : Int32} {v_opened : Int32} {v_isCold : Int32} {v_names : Nat → Int32} {v_code : Nat → Int32} {v_coded : Int32} {v_pile : Nat → Int32} {v_horn : Int32} {v_brass : Int32} {v_coldAhead : Nat → Int32} {v_which : Nat → Int32} {v_whichMany : Int32} {v_bestPass : Int32} {v_bestLive : Int32} {v_bestCode : Int32} {v_traced : Nat → Int32} {v_traceMany : Int32} {v_who : Int32} {v_bitsOf : Nat → Int32} {v_sizeOf : Nat → Int32} {v_number : Nat → Int32} {v_lifted : Nat → Int32} {p0 : Int32} {w_d : Nat → Int32} {w_horn : Int32} {w_brass : Int32} {r_out : Int32} (h : f_X7_votes  v_d v_horn v_brass p0 = some (w_d, w_horn, w_brass, r_out)) : MetI l D (tysX cI cS) St0 yX7_votes cX7_votes 4 (some .boolean) 7 156 [.ref (o 0), .int p0] (pcX7 o cI v_d v_kept v_images v_found v_aside v_base v_at v_size v_fault v_opened v_isCold v_names v_code v_coded v_pile v_horn v_brass v_coldAhead v_which v_whichMany v_bestPass v_bestLive v_bestCode v_traced v_traceMany v_who v_bitsOf v_sizeOf v_number v_lifted) r_out (pcX7 o cI w_d v_kept v_images v_found v_aside v_base v_at v_size v_fault v_opened v_isCold v_names v_code v_coded v_pile w_horn w_brass v_coldAhead v_which v_whichMany v_bestPass v_bestLive v_bestCode v_traced v_traceMany v_who v_bitsOf v_sizeOf v_number v_lifted) := by
  refine Ent.metI (by decide +kernel) (Nat.le_of_ble_eq_true rfl) ?_
  intro p e s m args below meth c A ls hx hb hr hml hown hts hlocks hA hK hSt hP hD hS hl
  have hown : s.vm.findClass RX7 = some m.cls := hown
  have S : XFix p m c cX7_votes 4 s args RX7 := ⟨hx, hb, hml, hown, hts⟩
  have hl : lv_has ls 4 [(0, .ref (o 0)), (1, .int p0)] := hl
  unfold f_X7_votes at h
  refine lv_aload_n hx hb dX7_votes_0 rfl (lv_at hl 0 rfl) ?_
  refine lv_iload_n hx hb dX7_votes_1 rfl (lv_at hl 1 rfl) ?_
  obtain ⟨v_horn_1, v_brass_2, r_3, hc2, h⟩ := bd3_s h
  refine x_selfVi (As := [.int p0]) (rest := []) St0_ok S (c_X7_wouldPass l D cI cS o hc2) yf_X7_wouldPass wd16_6 ⟨Nat.le_of_ble_eq_true rfl, Nat.le_of_ble_eq_true rfl⟩ hK hSt hA hP hD hS 0 rfl rfl rfl hl.1 rfl (Nat.le_of_ble_eq_true rfl) dX7_votes_2 (Nat.zero_le _) (Nat.zero_le _) (fun H locs hP hD hS => ?_)
  refine lv_istore_n (lv' := [(2, .int r_3), (0, .ref (o 0)), (1, .int p0)]) hx hb dX7_votes_5 rfl hl (by decide) rfl (fun ls hl => ?_)
  refine lv_iconst (v := 0) hx hb dX7_votes_6 (by decide) ?_
  refine lv_istore_n (lv' := [(3, .int 0), (2, .int r_3), (0, .ref (o 0)), (1, .int p0)]) hx hb dX7_votes_7 rfl hl (by decide) rfl (fun ls hl => ?_)
  obtain ⟨J139, eJ139, h⟩ := jnA_s h
  have wJ139 : ∀ (v_d_4 : Nat → Int32) (v_horn_5 : Int32) (v_brass_6 : Int32), J139 v_d_4 v_horn_5 v_brass_6 = some (w_d, w_horn, w_brass, r_out) → ∀ (H : Heap) (locs : List Loc), va_P D vwCl (pcX7 o cI v_d_4 v_kept v_images v_found v_aside v_base v_at v_size v_fault v_opened v_isCold v_names v_code v_coded v_pile v_horn_5 v_brass_6 v_coldAhead v_which v_whichMany v_bestPass v_bestLive v_bestCode v_traced v_traceMany v_who v_bitsOf v_sizeOf v_number v_lifted) H → va_D A (pcX7 o cI v_d_4 v_kept v_images v_found v_aside v_base v_at v_size v_fault v_opened v_isCold v_names v_code v_coded v_pile v_horn_5 v_brass_6 v_coldAhead v_which v_whichMany v_bestPass v_bestLive v_bestCode v_traced v_traceMany v_who v_bitsOf v_sizeOf v_number v_lifted) → va_S A s.heap H locs → ∀ ls : Array Slot, lv_has ls 4 [(0, .ref (o 0)), (1, .int p0), (2, .int r_3)] → WI p l e 7 156 s m args below meth c D (tysX cI cS) A r_out (pcX7 o cI w_d v_kept v_images v_found v_aside v_base v_at v_size v_fault v_opened v_isCold v_names v_code v_coded v_pile w_horn w_brass v_coldAhead v_which v_whichMany v_bestPass v_bestLive v_bestCode v_traced v_traceMany v_who v_bitsOf v_sizeOf v_number v_lifted) H locs (F0 m 139 ls []) := by
      intro v_d_4 v_horn_5 v_brass_6 h H locs hP hD hS ls hl
      subst eJ139
      dsimp only at h
      refine lv_iload_n hx hb dX7_votes_139 rfl (lv_at hl 2 rfl) ?_
      refine x_if_eq (tgt := 157) hx hb h dX7_votes_140 (by decide) (fun c140 h => ?_) (fun c140 h => ?_)
      · refine lv_iload_n hx hb dX7_votes_157 rfl (lv_at hl 2 rfl) ?_
        obtain ⟨hz158, h⟩ := bzA_s h
        cases h
        exact x_zret hx hb hr hlocks hK hP hD hS rfl rfl hz158 dX7_votes_158
      · refine lv_aload_n hx hb dX7_votes_143 rfl (lv_at hl 0 rfl) ?_
        refine gt_X7_7 S hK hP 0 rfl rfl dX7_votes_144 ?_
        refine lv_bipush (v := 58) hx hb dX7_votes_147 (by decide) ?_
        refine lv_iconst (v := 3) hx hb dX7_votes_149 (by decide) ?_
        refine lv_iload_n hx hb dX7_votes_150 rfl (lv_at hl 1 rfl) ?_
        refine lv_imul hx hb dX7_votes_151 ?_
        refine lv_iadd hx hb dX7_votes_152 ?_
        refine lv_iconst (v := 2) hx hb dX7_votes_153 (by decide) ?_
        refine lv_iadd hx hb dX7_votes_154 ?_
        refine lv_iconst (v := 1) hx hb dX7_votes_155 (by decide) ?_
        refine x_ast hx hb hK hP hD hS 1 h rfl rfl dX7_votes_156 (fun v_d_7 ev_d_7 h H locs hP hD hS => ?_)
        have hP : va_P D vwCl (pcX7 o cI v_d_7 v_kept v_images v_found v_aside v_base v_at v_size v_fault v_opened v_isCold v_names v_code v_coded v_pile v_horn_5 v_brass_6 v_coldAhead v_which v_whichMany v_bestPass v_bestLive v_bestCode v_traced v_traceMany v_who v_bitsOf v_sizeOf v_number v_lifted) H := hP
        have hD : va_D A (pcX7 o cI v_d_7 v_kept v_images v_found v_aside v_base v_at v_size v_fault v_opened v_isCold v_names v_code v_coded v_pile v_horn_5 v_brass_6 v_coldAhead v_which v_whichMany v_bestPass v_bestLive v_bestCode v_traced v_traceMany v_who v_bitsOf v_sizeOf v_number v_lifted) := hD
        refine lv_iload_n hx hb dX7_votes_157 rfl (lv_at hl 2 rfl) ?_
        obtain ⟨hz158, h⟩ := bzA_s h
        cases h
        exact x_zret hx hb hr hlocks hK hP hD hS rfl rfl hz158 dX7_votes_158
  have wf_X7_votes_L8 : ∀ (k_n : Nat) (v_d_8 : Nat → Int32) (v_horn_9 : Int32) (v_brass_10 : Int32) (l3_11 : Int32), f_X7_votes_L8 J139 k_n v_d_8 v_horn_9 v_brass_10 l3_11 = some (w_d, w_horn, w_brass, r_out) → ∀ (H : Heap) (locs : List Loc), va_P D vwCl (pcX7 o cI v_d_8 v_kept v_images v_found v_aside v_base v_at v_size v_fault v_opened v_isCold v_names v_code v_coded v_pile v_horn_9 v_brass_10 v_coldAhead v_which v_whichMany v_bestPass v_bestLive v_bestCode v_traced v_traceMany v_who v_bitsOf v_sizeOf v_number v_lifted) H → va_D A (pcX7 o cI v_d_8 v_kept v_images v_found v_aside v_base v_at v_size v_fault v_opened v_isCold v_names v_code v_coded v_pile v_horn_9 v_brass_10 v_coldAhead v_which v_whichMany v_bestPass v_bestLive v_bestCode v_traced v_traceMany v_who v_bitsOf v_sizeOf v_number v_lifted) → va_S A s.heap H locs → ∀ ls : Array Slot, lv_has ls 4 [(0, .ref (o 0)), (1, .int p0), (2, .int r_3), (3, .int l3_11)] → WI p l e 7 156 s m args below meth c D (tysX cI cS) A r_out (pcX7 o cI w_d v_kept v_images v_found v_aside v_base v_at v_size v_fault v_opened v_isCold v_names v_code v_coded v_pile w_horn w_brass v_coldAhead v_which v_whichMany v_bestPass v_bestLive v_bestCode v_traced v_traceMany v_who v_bitsOf v_sizeOf v_number v_lifted) H locs (F0 m 8 ls []) := by
      intro k_n
      induction k_n with
      | zero => intro v_d_8 v_horn_9 v_brass_10 l3_11 h; rw [f_X7_votes_L8] at h; cases h
      | succ k_n ih =>
        intro v_d_8 v_horn_9 v_brass_10 l3_11 h H locs hP hD hS ls hl
        rw [f_X7_votes_L8] at h
        refine lv_iload_n hx hb dX7_votes_8 rfl (lv_at hl 3 rfl) ?_
        refine lv_aload_n hx hb dX7_votes_9 rfl (lv_at hl 0 rfl) ?_
        refine gt_X7_7 S hK hP 0 rfl rfl dX7_votes_10 ?_
        refine lv_iconst (v := 0) hx hb dX7_votes_13 (by decide) ?_
        refine x_ald hx hb hK hP 1 h rfl rfl dX7_votes_14 (fun x_12 ex_12 h => ?_)
        refine x_icmp_ge (tgt := 139) hx hb h dX7_votes_15 (by decide) (fun c15 h => ?_) (fun c15 h => ?_)
        · exact wJ139 v_d_8 v_horn_9 v_brass_10 h _ _ hP hD hS _ (lv_sub hl [0, 1, 2] rfl)
        · refine lv_aload_n hx hb dX7_votes_18 rfl (lv_at hl 0 rfl) ?_
          refine lv_iload_n hx hb dX7_votes_19 rfl (lv_at hl 3 rfl) ?_
          obtain ⟨v_horn_13, v_brass_14, hc20, h⟩ := bd2_s h
          refine x_selfVv (As := [.int l3_11]) (rest := []) St0_ok S (c_X7_cuts l D cI cS o hc20) yf_X7_cuts wd10_19 ⟨Nat.le_of_ble_eq_true rfl, Nat.le_of_ble_eq_true rfl⟩ hK hSt hA hP hD hS 0 rfl rfl rfl hl.1 rfl (Nat.le_of_ble_eq_true rfl) dX7_votes_20 (Nat.zero_le _) (Nat.zero_le _) (fun H locs hP hD hS => ?_)
          refine lv_aload_n hx hb dX7_votes_23 rfl (lv_at hl 0 rfl) ?_
          refine lv_iload_n hx hb dX7_votes_24 rfl (lv_at hl 3 rfl) ?_
          refine lv_iconst (v := 2) hx hb dX7_votes_25 (by decide) ?_
          refine lv_aload_n hx hb dX7_votes_26 rfl (lv_at hl 0 rfl) ?_
          refine lv_iload_n hx hb dX7_votes_27 rfl (lv_at hl 3 rfl) ?_
          refine lv_iconst (v := 2) hx hb dX7_votes_28 (by decide) ?_
          obtain ⟨r_15, hc29, h⟩ := bd1_s h
          refine x_selfVi (As := [.int l3_11, .int 2]) (rest := [.int 2, .int l3_11, .ref (o 0)]) St0_ok S (c_X7_of l D cI cS o hc29) yf_X7_of wd10_11 ⟨Nat.le_of_ble_eq_true rfl, Nat.le_of_ble_eq_true rfl⟩ hK hSt hA hP hD hS 0 rfl rfl rfl hl.1 rfl (Nat.le_of_ble_eq_true rfl) dX7_votes_29 (Nat.zero_le _) (Nat.zero_le _) (fun H locs hP hD hS => ?_)
          refine lv_aload_n hx hb dX7_votes_32 rfl (lv_at hl 0 rfl) ?_
          refine gt_X7_156 S hK hP 0 rfl rfl dX7_votes_33 ?_
          refine lv_isub hx hb dX7_votes_36 ?_
          obtain ⟨v_d_16, hc37, h⟩ := bd1_s h
          refine x_selfVv (As := [.int l3_11, .int 2, .int (r_15 - v_horn_13)]) (rest := []) St0_ok S (c_X7_sets l D cI cS o hc37) yf_X7_sets wd6_15 ⟨Nat.le_of_ble_eq_true rfl, Nat.le_of_ble_eq_true rfl⟩ hK hSt hA hP hD hS 0 rfl rfl rfl hl.1 rfl (Nat.le_of_ble_eq_true rfl) dX7_votes_37 (Nat.zero_le _) (Nat.zero_le _) (fun H locs hP hD hS => ?_)
          refine lv_aload_n hx hb dX7_votes_40 rfl (lv_at hl 0 rfl) ?_
          refine lv_iload_n hx hb dX7_votes_41 rfl (lv_at hl 3 rfl) ?_
          refine lv_iconst (v := 3) hx hb dX7_votes_42 (by decide) ?_
          refine lv_aload_n hx hb dX7_votes_43 rfl (lv_at hl 0 rfl) ?_
          refine lv_iload_n hx hb dX7_votes_44 rfl (lv_at hl 3 rfl) ?_
          refine lv_iconst (v := 3) hx hb dX7_votes_45 (by decide) ?_
          obtain ⟨r_17, hc46, h⟩ := bd1_s h
          refine x_selfVi (As := [.int l3_11, .int 3]) (rest := [.int 3, .int l3_11, .ref (o 0)]) St0_ok S (c_X7_of l D cI cS o hc46) yf_X7_of wd10_11 ⟨Nat.le_of_ble_eq_true rfl, Nat.le_of_ble_eq_true rfl⟩ hK hSt hA hP hD hS 0 rfl rfl rfl hl.1 rfl (Nat.le_of_ble_eq_true rfl) dX7_votes_46 (Nat.zero_le _) (Nat.zero_le _) (fun H locs hP hD hS => ?_)
          refine lv_aload_n hx hb dX7_votes_49 rfl (lv_at hl 0 rfl) ?_
          refine gt_X7_159 S hK hP 0 rfl rfl dX7_votes_50 ?_
          refine lv_isub hx hb dX7_votes_53 ?_
          obtain ⟨v_d_18, hc54, h⟩ := bd1_s h
          refine x_selfVv (As := [.int l3_11, .int 3, .int (r_17 - v_brass_14)]) (rest := []) St0_ok S (c_X7_sets l D cI cS o hc54) yf_X7_sets wd6_15 ⟨Nat.le_of_ble_eq_true rfl, Nat.le_of_ble_eq_true rfl⟩ hK hSt hA hP hD hS 0 rfl rfl rfl hl.1 rfl (Nat.le_of_ble_eq_true rfl) dX7_votes_54 (Nat.zero_le _) (Nat.zero_le _) (fun H locs hP hD hS => ?_)
          refine lv_aload_n hx hb dX7_votes_57 rfl (lv_at hl 0 rfl) ?_
          refine lv_iload_n hx hb dX7_votes_58 rfl (lv_at hl 3 rfl) ?_
          refine lv_iconst (v := 4) hx hb dX7_votes_59 (by decide) ?_
          refine lv_aload_n hx hb dX7_votes_60 rfl (lv_at hl 0 rfl) ?_
          refine lv_iload_n hx hb dX7_votes_61 rfl (lv_at hl 3 rfl) ?_
          refine lv_iconst (v := 4) hx hb dX7_votes_62 (by decide) ?_
          obtain ⟨r_19, hc63, h⟩ := bd1_s h
          refine x_selfVi (As := [.int l3_11, .int 4]) (rest := [.int 4, .int l3_11, .ref (o 0)]) St0_ok S (c_X7_of l D cI cS o hc63) yf_X7_of wd10_11 ⟨Nat.le_of_ble_eq_true rfl, Nat.le_of_ble_eq_true rfl⟩ hK hSt hA hP hD hS 0 rfl rfl rfl hl.1 rfl (Nat.le_of_ble_eq_true rfl) dX7_votes_63 (Nat.zero_le _) (Nat.zero_le _) (fun H locs hP hD hS => ?_)
          refine lv_aload_n hx hb dX7_votes_66 rfl (lv_at hl 0 rfl) ?_
          refine gt_X7_156 S hK hP 0 rfl rfl dX7_votes_67 ?_
          refine lv_iadd hx hb dX7_votes_70 ?_
          refine lv_aload_n hx hb dX7_votes_71 rfl (lv_at hl 0 rfl) ?_
          refine gt_X7_159 S hK hP 0 rfl rfl dX7_votes_72 ?_
          refine lv_iadd hx hb dX7_votes_75 ?_
          refine lv_iconst (v := 0) hx hb dX7_votes_76 (by decide) ?_
          refine lv_bipush (v := 99) hx hb dX7_votes_77 (by decide) ?_
          obtain ⟨r_20, hc79, h⟩ := bd1_s h
          refine x_statI (As := [.int ((r_19 + v_horn_13) + v_brass_14), .int 0, .int 99]) (rest := [.int 4, .int l3_11, .ref (o 0)]) St0_ok S (c_X7_held l D cI cS o hc79) ys_X7_held wd12_6 ⟨Nat.le_of_ble_eq_true rfl, Nat.le_of_ble_eq_true rfl⟩ hK hSt hA hP hD hS rfl hl.1 rfl (Nat.le_of_ble_eq_true rfl) dX7_votes_79 (Nat.zero_le _) (Nat.zero_le _) (fun H locs hP hD hS => ?_)
          obtain ⟨v_d_21, hc82, h⟩ := bd1_s h
          refine x_selfVv (As := [.int l3_11, .int 4, .int r_20]) (rest := []) St0_ok S (c_X7_sets l D cI cS o hc82) yf_X7_sets wd6_15 ⟨Nat.le_of_ble_eq_true rfl, Nat.le_of_ble_eq_true rfl⟩ hK hSt hA hP hD hS 0 rfl rfl rfl hl.1 rfl (Nat.le_of_ble_eq_true rfl) dX7_votes_82 (Nat.zero_le _) (Nat.zero_le _) (fun H locs hP hD hS => ?_)
          refine lv_aload_n hx hb dX7_votes_85 rfl (lv_at hl 0 rfl) ?_
          refine gt_X7_7 S hK hP 0 rfl rfl dX7_votes_86 ?_
          refine lv_iconst (v := 2) hx hb dX7_votes_89 (by decide) ?_
          refine lv_aload_n hx hb dX7_votes_90 rfl (lv_at hl 0 rfl) ?_
          refine gt_X7_7 S hK hP 0 rfl rfl dX7_votes_91 ?_
          refine lv_iconst (v := 2) hx hb dX7_votes_94 (by decide) ?_
          refine x_ald hx hb hK hP 1 h rfl rfl dX7_votes_95 (fun x_22 ex_22 h => ?_)
          refine lv_aload_n hx hb dX7_votes_96 rfl (lv_at hl 0 rfl) ?_
          refine gt_X7_156 S hK hP 0 rfl rfl dX7_votes_97 ?_
          refine lv_iadd hx hb dX7_votes_100 ?_
          refine lv_iconst (v := 0) hx hb dX7_votes_101 (by decide) ?_
          refine lv_sipush (v := 999) hx hb dX7_votes_102 (by decide) ?_
          obtain ⟨r_23, hc105, h⟩ := bd1_s h
          refine x_statI (As := [.int (x_22 + v_horn_13), .int 0, .int 999]) (rest := [.int 2, .ref (o 1)]) St0_ok S (c_X7_held l D cI cS o hc105) ys_X7_held wd12_6 ⟨Nat.le_of_ble_eq_true rfl, Nat.le_of_ble_eq_true rfl⟩ hK hSt hA hP hD hS rfl hl.1 rfl (Nat.le_of_ble_eq_true rfl) dX7_votes_105 (Nat.zero_le _) (Nat.zero_le _) (fun H locs hP hD hS => ?_)
          refine x_ast hx hb hK hP hD hS 1 h rfl rfl dX7_votes_108 (fun v_d_24 ev_d_24 h H locs hP hD hS => ?_)
          have hP : va_P D vwCl (pcX7 o cI v_d_24 v_kept v_images v_found v_aside v_base v_at v_size v_fault v_opened v_isCold v_names v_code v_coded v_pile v_horn_13 v_brass_14 v_coldAhead v_which v_whichMany v_bestPass v_bestLive v_bestCode v_traced v_traceMany v_who v_bitsOf v_sizeOf v_number v_lifted) H := hP
          have hD : va_D A (pcX7 o cI v_d_24 v_kept v_images v_found v_aside v_base v_at v_size v_fault v_opened v_isCold v_names v_code v_coded v_pile v_horn_13 v_brass_14 v_coldAhead v_which v_whichMany v_bestPass v_bestLive v_bestCode v_traced v_traceMany v_who v_bitsOf v_sizeOf v_number v_lifted) := hD
          refine lv_aload_n hx hb dX7_votes_109 rfl (lv_at hl 0 rfl) ?_
          refine gt_X7_7 S hK hP 0 rfl rfl dX7_votes_110 ?_
          refine lv_iconst (v := 3) hx hb dX7_votes_113 (by decide) ?_
          refine lv_aload_n hx hb dX7_votes_114 rfl (lv_at hl 0 rfl) ?_
          refine gt_X7_7 S hK hP 0 rfl rfl dX7_votes_115 ?_
          refine lv_iconst (v := 3) hx hb dX7_votes_118 (by decide) ?_
          refine x_ald hx hb hK hP 1 h rfl rfl dX7_votes_119 (fun x_25 ex_25 h => ?_)
          refine lv_aload_n hx hb dX7_votes_120 rfl (lv_at hl 0 rfl) ?_
          refine gt_X7_159 S hK hP 0 rfl rfl dX7_votes_121 ?_
          refine lv_iadd hx hb dX7_votes_124 ?_
          refine lv_iconst (v := 0) hx hb dX7_votes_125 (by decide) ?_
          refine lv_sipush (v := 999) hx hb dX7_votes_126 (by decide) ?_
          obtain ⟨r_26, hc129, h⟩ := bd1_s h
          refine x_statI (As := [.int (x_25 + v_brass_14), .int 0, .int 999]) (rest := [.int 3, .ref (o 1)]) St0_ok S (c_X7_held l D cI cS o hc129) ys_X7_held wd12_6 ⟨Nat.le_of_ble_eq_true rfl, Nat.le_of_ble_eq_true rfl⟩ hK hSt hA hP hD hS rfl hl.1 rfl (Nat.le_of_ble_eq_true rfl) dX7_votes_129 (Nat.zero_le _) (Nat.zero_le _) (fun H locs hP hD hS => ?_)
          refine x_ast hx hb hK hP hD hS 1 h rfl rfl dX7_votes_132 (fun v_d_27 ev_d_27 h H locs hP hD hS => ?_)
          have hP : va_P D vwCl (pcX7 o cI v_d_27 v_kept v_images v_found v_aside v_base v_at v_size v_fault v_opened v_isCold v_names v_code v_coded v_pile v_horn_13 v_brass_14 v_coldAhead v_which v_whichMany v_bestPass v_bestLive v_bestCode v_traced v_traceMany v_who v_bitsOf v_sizeOf v_number v_lifted) H := hP
          have hD : va_D A (pcX7 o cI v_d_27 v_kept v_images v_found v_aside v_base v_at v_size v_fault v_opened v_isCold v_names v_code v_coded v_pile v_horn_13 v_brass_14 v_coldAhead v_which v_whichMany v_bestPass v_bestLive v_bestCode v_traced v_traceMany v_who v_bitsOf v_sizeOf v_number v_lifted) := hD
          obtain ⟨l3_28, el3_28, h⟩ := nmA_s h
          refine lv_iinc (v := l3_28) (lv' := [(3, .int l3_28), (0, .ref (o 0)), (1, .int p0), (2, .int r_3)]) hx hb dX7_votes_133 hl (k := 3) rfl (by rw [el3_28]; exact congrArg _ (by decide)) (by decide) rfl (fun ls hl => ?_)
          refine lv_goto (tgt := 8) hx hb dX7_votes_136 (by decide) ?_
          exact ih v_d_27 v_horn_13 v_brass_14 l3_28 h _ _ hP hD hS _ (lv_sub hl [1, 2, 3, 0] rfl)
  exact wf_X7_votes_L8 300 v_d v_horn_1 v_brass_2 0 h _ _ hP hD hS _ (lv_sub hl [2, 3, 1, 0] rfl)

def f_X7_vote  (v_d : Nat → Int32) (v_found : Nat → Int32) (v_horn : Int32) (v_brass : Int32) (p0 : Int32) : Option ((Nat → Int32) × (Nat → Int32) × (Int32) × (Int32) × (Int32)) :=
  bd1 (f_X7_isMotion v_d p0) (fun r_1 => (if r_1 = 0 then bd2 (f_X7_finds v_found 1) (fun v_found_6 r_7 => some (v_d, v_found_6, v_horn, v_brass, r_7)) else bd4 (f_X7_votes v_d v_horn v_brass p0) (fun v_d_2 v_horn_3 v_brass_4 r_5 => (if r_5 = 0 then some (v_d_2, v_found, v_horn_3, v_brass_4, 0) else some (v_d_2, v_found, v_horn_3, v_brass_4, 1)))))
set_option maxHeartbeats 600000 in
set_option maxRecDepth 100000 in
theorem c_X7_vote (l : Launch) (D : va_G) (cI cS : ClassId) (o : Nat → Nat) {v_d : Nat → Int32} {v_kept : Nat → Int32} {v_images : Int32} {v_found : Nat → Int32} {v_aside : Nat → Int32} {v_base : Int32} {v_at : Int32} {v_size : Int32} {v_fault : Int32} {v_opened : Int32} {v_isCold : Int32} {v_names : Nat → Int32} {v_code : Nat → Int32} {v_coded : Int32} {v_pile : Nat → Int32} {v_horn : Int32} {v_brass : Int32} {v_coldAhead : Nat → Int32} {v_which : Nat → Int32} {v_whichMany : Int32} {v_bestPass : Int32} {v_bestLive : Int32} {v_bestCode : Int32} {v_traced : Nat → Int32} {v_traceMany : Int32} {v_who : Int32} {v_bitsOf : Nat → Int32} {v_sizeOf : Nat → Int32} {v_number : Nat → Int32} {v_lifted : Nat → Int32} {p0 : Int32} {w_d : Nat → Int32} {w_found : Nat → Int32} {w_horn : Int32} {w_brass : Int32} {r_out : Int32} (h : f_X7_vote  v_d v_found v_horn v_brass p0 = some (w_d, w_found, w_horn, w_brass, r_out)) : MetI l D (tysX cI cS) St0 yX7_vote cX7_vote 2 (some .int) 8 179 [.ref (o 0), .int p0] (pcX7 o cI v_d v_kept v_images v_found v_aside v_base v_at v_size v_fault v_opened v_isCold v_names v_code v_coded v_pile v_horn v_brass v_coldAhead v_which v_whichMany v_bestPass v_bestLive v_bestCode v_traced v_traceMany v_who v_bitsOf v_sizeOf v_number v_lifted) r_out (pcX7 o cI w_d v_kept v_images w_found v_aside v_base v_at v_size v_fault v_opened v_isCold v_names v_code v_coded v_pile w_horn w_brass v_coldAhead v_which v_whichMany v_bestPass v_bestLive v_bestCode v_traced v_traceMany v_who v_bitsOf v_sizeOf v_number v_lifted) := by
  refine Ent.metI (by decide +kernel) (Nat.le_of_ble_eq_true rfl) ?_
  intro p e s m args below meth c A ls hx hb hr hml hown hts hlocks hA hK hSt hP hD hS hl
  have hown : s.vm.findClass RX7 = some m.cls := hown
  have S : XFix p m c cX7_vote 2 s args RX7 := ⟨hx, hb, hml, hown, hts⟩
  have hl : lv_has ls 2 [(0, .ref (o 0)), (1, .int p0)] := hl
  unfold f_X7_vote at h
  refine lv_aload_n hx hb dX7_vote_0 rfl (lv_at hl 0 rfl) ?_
  refine lv_iload_n hx hb dX7_vote_1 rfl (lv_at hl 1 rfl) ?_
  obtain ⟨r_1, hc2, h⟩ := bd1_s h
  refine x_selfVi (As := [.int p0]) (rest := []) St0_ok S (c_X7_isMotion l D cI cS o hc2) yf_X7_isMotion wd15_22 ⟨Nat.le_of_ble_eq_true rfl, Nat.le_of_ble_eq_true rfl⟩ hK hSt hA hP hD hS 0 rfl rfl rfl hl.1 rfl (Nat.le_of_ble_eq_true rfl) dX7_vote_2 (Nat.zero_le _) (Nat.zero_le _) (fun H locs hP hD hS => ?_)
  refine x_if_ne (tgt := 14) hx hb h dX7_vote_5 (by decide) (fun c5 h => ?_) (fun c5 h => ?_)
  · refine lv_aload_n hx hb dX7_vote_14 rfl (lv_at hl 0 rfl) ?_
    refine lv_iload_n hx hb dX7_vote_15 rfl (lv_at hl 1 rfl) ?_
    obtain ⟨v_d_2, v_horn_3, v_brass_4, r_5, hc16, h⟩ := bd4_s h
    refine x_selfVi (As := [.int p0]) (rest := []) St0_ok S (c_X7_votes l D cI cS o hc16) yf_X7_votes wd24_9 ⟨Nat.le_of_ble_eq_true rfl, Nat.le_of_ble_eq_true rfl⟩ hK hSt hA hP hD hS 0 rfl rfl rfl hl.1 rfl (Nat.le_of_ble_eq_true rfl) dX7_vote_16 (Nat.zero_le _) (Nat.zero_le _) (fun H locs hP hD hS => ?_)
    refine x_if_eq (tgt := 26) hx hb h dX7_vote_19 (by decide) (fun c19 h => ?_) (fun c19 h => ?_)
    · refine lv_iconst (v := 0) hx hb dX7_vote_26 (by decide) ?_
      cases h
      exact x_iret hx hb hr hlocks hK hP hD hS rfl rfl dX7_vote_27
    · refine lv_iconst (v := 1) hx hb dX7_vote_22 (by decide) ?_
      refine lv_goto (tgt := 27) hx hb dX7_vote_23 (by decide) ?_
      cases h
      exact x_iret hx hb hr hlocks hK hP hD hS rfl rfl dX7_vote_27
  · refine lv_aload_n hx hb dX7_vote_8 rfl (lv_at hl 0 rfl) ?_
    refine lv_iconst (v := 1) hx hb dX7_vote_9 (by decide) ?_
    obtain ⟨v_found_6, r_7, hc10, h⟩ := bd2_s h
    refine x_selfVi (As := [.int 1]) (rest := []) St0_ok S (c_X7_finds l D cI cS o hc10) yf_X7_finds wd6_10 ⟨Nat.le_of_ble_eq_true rfl, Nat.le_of_ble_eq_true rfl⟩ hK hSt hA hP hD hS 0 rfl rfl rfl hl.1 rfl (Nat.le_of_ble_eq_true rfl) dX7_vote_10 (Nat.zero_le _) (Nat.zero_le _) (fun H locs hP hD hS => ?_)
    cases h
    exact x_iret hx hb hr hlocks hK hP hD hS rfl rfl dX7_vote_13
