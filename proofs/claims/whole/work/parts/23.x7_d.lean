def f_X7_sew  (v_d : Nat → Int32) (v_found : Nat → Int32) (p0 : Int32) (p1 : Int32) : Option ((Nat → Int32) × (Nat → Int32) × (Int32)) :=
  bd1 (f_X7_isPerson v_d p0) (fun r_1 => jnA (bd2 (f_X7_finds v_found 1) (fun v_found_2 r_3 => some (v_d, v_found_2, r_3))) (fun J31 => (if r_1 = 0 then J31 else bd1 (f_X7_in (p1.toInt64) 0 1) (fun r_4 => (if r_4 = 0 then J31 else bd1 (f_X7_of v_d p0 (2 + p1)) (fun r_5 => (if r_5 = 9 then J31 else bd1 (f_X7_isDead v_d p0) (fun r_6 => jnA (bd2 (f_X7_finds v_found 3) (fun v_found_7 r_8 => some (v_d, v_found_7, r_8))) (fun J74 => (if r_6 = 0 then rdA 248 v_d 4 (fun x_9 => (if x_9 = 0 then J74 else rdA 248 v_d (2 + p1) (fun x_10 => (if x_10 = 0 then J74 else bd1 (f_X7_of v_d p0 4) (fun r_11 => (if r_11 = 0 then J74 else rdA 248 v_d (2 + p1) (fun x_12 => wrA 248 v_d (2 + p1) (x_12 - 1) (fun v_d_13 => rdA 248 v_d_13 4 (fun x_14 => wrA 248 v_d_13 4 (x_14 - 1) (fun v_d_15 => bd1 (f_X7_of v_d_15 p0 (2 + p1)) (fun r_16 => bd1 (f_X7_sets v_d_15 p0 (2 + p1) (r_16 + 1)) (fun v_d_17 => bd1 (f_X7_of v_d_17 p0 4) (fun r_18 => bd1 (f_X7_sets v_d_17 p0 4 (r_18 - 1)) (fun v_d_19 => bd1 (f_X7_of v_d_19 p0 4) (fun r_20 => some (v_d_19, v_found, r_20)))))))))))))))) else J74))))))))))
set_option maxHeartbeats 600000 in
set_option maxRecDepth 100000 in
theorem c_X7_sew (l : Launch) (D : va_G) (cI cS : ClassId) (o : Nat → Nat) {v_d : Nat → Int32} {v_kept : Nat → Int32} {v_images : Int32} {v_found : Nat → Int32} {v_aside : Nat → Int32} {v_base : Int32} {v_at : Int32} {v_size : Int32} {v_fault : Int32} {v_opened : Int32} {v_isCold : Int32} {v_names : Nat → Int32} {v_code : Nat → Int32} {v_coded : Int32} {v_pile : Nat → Int32} {v_horn : Int32} {v_brass : Int32} {v_coldAhead : Nat → Int32} {v_which : Nat → Int32} {v_whichMany : Int32} {v_bestPass : Int32} {v_bestLive : Int32} {v_bestCode : Int32} {v_traced : Nat → Int32} {v_traceMany : Int32} {v_who : Int32} {v_bitsOf : Nat → Int32} {v_sizeOf : Nat → Int32} {v_number : Nat → Int32} {v_lifted : Nat → Int32} {p0 : Int32} {p1 : Int32} {w_d : Nat → Int32} {w_found : Nat → Int32} {r_out : Int32} (h : f_X7_sew  v_d v_found p0 p1 = some (w_d, w_found, r_out)) : MetI l D (tysX cI cS) St0 yX7_sew cX7_sew 3 (some .int) 2 46 [.ref (o 0), .int p0, .int p1] (pcX7 o cI v_d v_kept v_images v_found v_aside v_base v_at v_size v_fault v_opened v_isCold v_names v_code v_coded v_pile v_horn v_brass v_coldAhead v_which v_whichMany v_bestPass v_bestLive v_bestCode v_traced v_traceMany v_who v_bitsOf v_sizeOf v_number v_lifted) r_out (pcX7 o cI w_d v_kept v_images w_found v_aside v_base v_at v_size v_fault v_opened v_isCold v_names v_code v_coded v_pile v_horn v_brass v_coldAhead v_which v_whichMany v_bestPass v_bestLive v_bestCode v_traced v_traceMany v_who v_bitsOf v_sizeOf v_number v_lifted) := by
  refine Ent.metI (by decide +kernel) (Nat.le_of_ble_eq_true rfl) ?_
  intro p e s m args below meth c A ls hx hb hr hml hown hts hlocks hA hK hSt hP hD hS hl
  have hown : s.vm.findClass RX7 = some m.cls := hown
  have S : XFix p m c cX7_sew 3 s args RX7 := ⟨hx, hb, hml, hown, hts⟩
  have hl : lv_has ls 3 [(0, .ref (o 0)), (1, .int p0), (2, .int p1)] := hl
  unfold f_X7_sew at h
  refine lv_aload_n hx hb dX7_sew_0 rfl (lv_at hl 0 rfl) ?_
  refine lv_iload_n hx hb dX7_sew_1 rfl (lv_at hl 1 rfl) ?_
  obtain ⟨r_1, hc2, h⟩ := bd1_s h
  refine x_selfVi (As := [.int p0]) (rest := []) St0_ok S (c_X7_isPerson l D cI cS o hc2) yf_X7_isPerson wd10_3 ⟨Nat.le_of_ble_eq_true rfl, Nat.le_of_ble_eq_true rfl⟩ hK hSt hA hP hD hS 0 rfl rfl rfl hl.1 rfl (Nat.le_of_ble_eq_true rfl) dX7_sew_2 (Nat.zero_le _) (Nat.zero_le _) (fun H locs hP hD hS => ?_)
  obtain ⟨J31, eJ31, h⟩ := jnA_s h
  have wJ31 : J31  = some (w_d, w_found, r_out) → ∀ (H : Heap) (locs : List Loc), va_P D vwCl (pcX7 o cI v_d v_kept v_images v_found v_aside v_base v_at v_size v_fault v_opened v_isCold v_names v_code v_coded v_pile v_horn v_brass v_coldAhead v_which v_whichMany v_bestPass v_bestLive v_bestCode v_traced v_traceMany v_who v_bitsOf v_sizeOf v_number v_lifted) H → va_D A (pcX7 o cI v_d v_kept v_images v_found v_aside v_base v_at v_size v_fault v_opened v_isCold v_names v_code v_coded v_pile v_horn v_brass v_coldAhead v_which v_whichMany v_bestPass v_bestLive v_bestCode v_traced v_traceMany v_who v_bitsOf v_sizeOf v_number v_lifted) → va_S A s.heap H locs → ∀ ls : Array Slot, lv_has ls 3 [(0, .ref (o 0))] → WI p l e 2 46 s m args below meth c D (tysX cI cS) A r_out (pcX7 o cI w_d v_kept v_images w_found v_aside v_base v_at v_size v_fault v_opened v_isCold v_names v_code v_coded v_pile v_horn v_brass v_coldAhead v_which v_whichMany v_bestPass v_bestLive v_bestCode v_traced v_traceMany v_who v_bitsOf v_sizeOf v_number v_lifted) H locs (F0 m 31 ls []) := by
      intro h H locs hP hD hS ls hl
      subst eJ31
      refine lv_aload_n hx hb dX7_sew_31 rfl (lv_at hl 0 rfl) ?_
      refine lv_iconst (v := 1) hx hb dX7_sew_32 (by decide) ?_
      obtain ⟨v_found_2, r_3, hc33, h⟩ := bd2_s h
      refine x_selfVi (As := [.int 1]) (rest := []) St0_ok S (c_X7_finds l D cI cS o hc33) yf_X7_finds wd6_10 ⟨Nat.le_of_ble_eq_true rfl, Nat.le_of_ble_eq_true rfl⟩ hK hSt hA hP hD hS 0 rfl rfl rfl hl.1 rfl (Nat.le_of_ble_eq_true rfl) dX7_sew_33 (Nat.zero_le _) (Nat.zero_le _) (fun H locs hP hD hS => ?_)
      cases h
      exact x_iret hx hb hr hlocks hK hP hD hS rfl rfl dX7_sew_36
  refine x_if_eq (tgt := 31) hx hb h dX7_sew_5 (by decide) (fun c5 h => ?_) (fun c5 h => ?_)
  · exact wJ31 h _ _ hP hD hS _ (lv_sub hl [0] rfl)
  · refine lv_iload_n hx hb dX7_sew_8 rfl (lv_at hl 2 rfl) ?_
    refine lv_i2l (v := (p1.toInt64)) hx hb dX7_sew_9 rfl ?_
    refine lv_lconst (v := 0) hx hb dX7_sew_10 (by decide) ?_
    refine lv_lconst (v := 1) hx hb dX7_sew_11 (by decide) ?_
    obtain ⟨r_4, hc12, h⟩ := bd1_s h
    refine x_statI (As := [.long (p1.toInt64), .long 0, .long 1]) (rest := []) St0_ok S (c_X7_in l D cI cS o hc12) ys_X7_in wd6_7 ⟨Nat.le_of_ble_eq_true rfl, Nat.le_of_ble_eq_true rfl⟩ hK hSt hA hP hD hS rfl hl.1 rfl (Nat.le_of_ble_eq_true rfl) dX7_sew_12 (Nat.zero_le _) (Nat.zero_le _) (fun H locs hP hD hS => ?_)
    refine x_if_eq (tgt := 31) hx hb h dX7_sew_15 (by decide) (fun c15 h => ?_) (fun c15 h => ?_)
    · exact wJ31 h _ _ hP hD hS _ (lv_sub hl [0] rfl)
    · refine lv_aload_n hx hb dX7_sew_18 rfl (lv_at hl 0 rfl) ?_
      refine lv_iload_n hx hb dX7_sew_19 rfl (lv_at hl 1 rfl) ?_
      refine lv_iconst (v := 2) hx hb dX7_sew_20 (by decide) ?_
      refine lv_iload_n hx hb dX7_sew_21 rfl (lv_at hl 2 rfl) ?_
      refine lv_iadd hx hb dX7_sew_22 ?_
      obtain ⟨r_5, hc23, h⟩ := bd1_s h
      refine x_selfVi (As := [.int p0, .int (2 + p1)]) (rest := []) St0_ok S (c_X7_of l D cI cS o hc23) yf_X7_of wd10_11 ⟨Nat.le_of_ble_eq_true rfl, Nat.le_of_ble_eq_true rfl⟩ hK hSt hA hP hD hS 0 rfl rfl rfl hl.1 rfl (Nat.le_of_ble_eq_true rfl) dX7_sew_23 (Nat.zero_le _) (Nat.zero_le _) (fun H locs hP hD hS => ?_)
      refine lv_bipush (v := 9) hx hb dX7_sew_26 (by decide) ?_
      refine x_icmp_ne (tgt := 37) hx hb h dX7_sew_28 (by decide) (fun c28 h => ?_) (fun c28 h => ?_)
      · refine lv_aload_n hx hb dX7_sew_37 rfl (lv_at hl 0 rfl) ?_
        refine lv_iload_n hx hb dX7_sew_38 rfl (lv_at hl 1 rfl) ?_
        obtain ⟨r_6, hc39, h⟩ := bd1_s h
        refine x_selfVi (As := [.int p0]) (rest := []) St0_ok S (c_X7_isDead l D cI cS o hc39) yf_X7_isDead wd10_15 ⟨Nat.le_of_ble_eq_true rfl, Nat.le_of_ble_eq_true rfl⟩ hK hSt hA hP hD hS 0 rfl rfl rfl hl.1 rfl (Nat.le_of_ble_eq_true rfl) dX7_sew_39 (Nat.zero_le _) (Nat.zero_le _) (fun H locs hP hD hS => ?_)
        obtain ⟨J74, eJ74, h⟩ := jnA_s h
        have wJ74 : J74  = some (w_d, w_found, r_out) → ∀ (H : Heap) (locs : List Loc), va_P D vwCl (pcX7 o cI v_d v_kept v_images v_found v_aside v_base v_at v_size v_fault v_opened v_isCold v_names v_code v_coded v_pile v_horn v_brass v_coldAhead v_which v_whichMany v_bestPass v_bestLive v_bestCode v_traced v_traceMany v_who v_bitsOf v_sizeOf v_number v_lifted) H → va_D A (pcX7 o cI v_d v_kept v_images v_found v_aside v_base v_at v_size v_fault v_opened v_isCold v_names v_code v_coded v_pile v_horn v_brass v_coldAhead v_which v_whichMany v_bestPass v_bestLive v_bestCode v_traced v_traceMany v_who v_bitsOf v_sizeOf v_number v_lifted) → va_S A s.heap H locs → ∀ ls : Array Slot, lv_has ls 3 [(0, .ref (o 0))] → WI p l e 2 46 s m args below meth c D (tysX cI cS) A r_out (pcX7 o cI w_d v_kept v_images w_found v_aside v_base v_at v_size v_fault v_opened v_isCold v_names v_code v_coded v_pile v_horn v_brass v_coldAhead v_which v_whichMany v_bestPass v_bestLive v_bestCode v_traced v_traceMany v_who v_bitsOf v_sizeOf v_number v_lifted) H locs (F0 m 74 ls []) := by
            intro h H locs hP hD hS ls hl
            subst eJ74
            refine lv_aload_n hx hb dX7_sew_74 rfl (lv_at hl 0 rfl) ?_
            refine lv_iconst (v := 3) hx hb dX7_sew_75 (by decide) ?_
            obtain ⟨v_found_7, r_8, hc76, h⟩ := bd2_s h
            refine x_selfVi (As := [.int 3]) (rest := []) St0_ok S (c_X7_finds l D cI cS o hc76) yf_X7_finds wd6_10 ⟨Nat.le_of_ble_eq_true rfl, Nat.le_of_ble_eq_true rfl⟩ hK hSt hA hP hD hS 0 rfl rfl rfl hl.1 rfl (Nat.le_of_ble_eq_true rfl) dX7_sew_76 (Nat.zero_le _) (Nat.zero_le _) (fun H locs hP hD hS => ?_)
            cases h
            exact x_iret hx hb hr hlocks hK hP hD hS rfl rfl dX7_sew_79
        refine x_if_ne (tgt := 74) hx hb h dX7_sew_42 (by decide) (fun c42 h => ?_) (fun c42 h => ?_)
        · exact wJ74 h _ _ hP hD hS _ (lv_sub hl [0] rfl)
        · refine lv_aload_n hx hb dX7_sew_45 rfl (lv_at hl 0 rfl) ?_
          refine gt_X7_7 S hK hP 0 rfl rfl dX7_sew_46 ?_
          refine lv_iconst (v := 4) hx hb dX7_sew_49 (by decide) ?_
          refine x_ald hx hb hK hP 1 h rfl rfl dX7_sew_50 (fun x_9 ex_9 h => ?_)
          refine x_if_eq (tgt := 74) hx hb h dX7_sew_51 (by decide) (fun c51 h => ?_) (fun c51 h => ?_)
          · exact wJ74 h _ _ hP hD hS _ (lv_sub hl [0] rfl)
          · refine lv_aload_n hx hb dX7_sew_54 rfl (lv_at hl 0 rfl) ?_
            refine gt_X7_7 S hK hP 0 rfl rfl dX7_sew_55 ?_
            refine lv_iconst (v := 2) hx hb dX7_sew_58 (by decide) ?_
            refine lv_iload_n hx hb dX7_sew_59 rfl (lv_at hl 2 rfl) ?_
            refine lv_iadd hx hb dX7_sew_60 ?_
            refine x_ald hx hb hK hP 1 h rfl rfl dX7_sew_61 (fun x_10 ex_10 h => ?_)
            refine x_if_eq (tgt := 74) hx hb h dX7_sew_62 (by decide) (fun c62 h => ?_) (fun c62 h => ?_)
            · exact wJ74 h _ _ hP hD hS _ (lv_sub hl [0] rfl)
            · refine lv_aload_n hx hb dX7_sew_65 rfl (lv_at hl 0 rfl) ?_
              refine lv_iload_n hx hb dX7_sew_66 rfl (lv_at hl 1 rfl) ?_
              refine lv_iconst (v := 4) hx hb dX7_sew_67 (by decide) ?_
              obtain ⟨r_11, hc68, h⟩ := bd1_s h
              refine x_selfVi (As := [.int p0, .int 4]) (rest := []) St0_ok S (c_X7_of l D cI cS o hc68) yf_X7_of wd10_11 ⟨Nat.le_of_ble_eq_true rfl, Nat.le_of_ble_eq_true rfl⟩ hK hSt hA hP hD hS 0 rfl rfl rfl hl.1 rfl (Nat.le_of_ble_eq_true rfl) dX7_sew_68 (Nat.zero_le _) (Nat.zero_le _) (fun H locs hP hD hS => ?_)
              refine x_if_ne (tgt := 80) hx hb h dX7_sew_71 (by decide) (fun c71 h => ?_) (fun c71 h => ?_)
              · refine lv_aload_n hx hb dX7_sew_80 rfl (lv_at hl 0 rfl) ?_
                refine gt_X7_7 S hK hP 0 rfl rfl dX7_sew_81 ?_
                refine lv_iconst (v := 2) hx hb dX7_sew_84 (by decide) ?_
                refine lv_iload_n hx hb dX7_sew_85 rfl (lv_at hl 2 rfl) ?_
                refine lv_iadd hx hb dX7_sew_86 ?_
                refine lv_dup2_11 hx hb dX7_sew_87 rfl rfl ?_
                refine x_ald hx hb hK hP 1 h rfl rfl dX7_sew_88 (fun x_12 ex_12 h => ?_)
                refine lv_iconst (v := 1) hx hb dX7_sew_89 (by decide) ?_
                refine lv_isub hx hb dX7_sew_90 ?_
                refine x_ast hx hb hK hP hD hS 1 h rfl rfl dX7_sew_91 (fun v_d_13 ev_d_13 h H locs hP hD hS => ?_)
                have hP : va_P D vwCl (pcX7 o cI v_d_13 v_kept v_images v_found v_aside v_base v_at v_size v_fault v_opened v_isCold v_names v_code v_coded v_pile v_horn v_brass v_coldAhead v_which v_whichMany v_bestPass v_bestLive v_bestCode v_traced v_traceMany v_who v_bitsOf v_sizeOf v_number v_lifted) H := hP
                have hD : va_D A (pcX7 o cI v_d_13 v_kept v_images v_found v_aside v_base v_at v_size v_fault v_opened v_isCold v_names v_code v_coded v_pile v_horn v_brass v_coldAhead v_which v_whichMany v_bestPass v_bestLive v_bestCode v_traced v_traceMany v_who v_bitsOf v_sizeOf v_number v_lifted) := hD
                refine lv_aload_n hx hb dX7_sew_92 rfl (lv_at hl 0 rfl) ?_
                refine gt_X7_7 S hK hP 0 rfl rfl dX7_sew_93 ?_
                refine lv_iconst (v := 4) hx hb dX7_sew_96 (by decide) ?_
                refine lv_dup2_11 hx hb dX7_sew_97 rfl rfl ?_
                refine x_ald hx hb hK hP 1 h rfl rfl dX7_sew_98 (fun x_14 ex_14 h => ?_)
                refine lv_iconst (v := 1) hx hb dX7_sew_99 (by decide) ?_
                refine lv_isub hx hb dX7_sew_100 ?_
                refine x_ast hx hb hK hP hD hS 1 h rfl rfl dX7_sew_101 (fun v_d_15 ev_d_15 h H locs hP hD hS => ?_)
                have hP : va_P D vwCl (pcX7 o cI v_d_15 v_kept v_images v_found v_aside v_base v_at v_size v_fault v_opened v_isCold v_names v_code v_coded v_pile v_horn v_brass v_coldAhead v_which v_whichMany v_bestPass v_bestLive v_bestCode v_traced v_traceMany v_who v_bitsOf v_sizeOf v_number v_lifted) H := hP
                have hD : va_D A (pcX7 o cI v_d_15 v_kept v_images v_found v_aside v_base v_at v_size v_fault v_opened v_isCold v_names v_code v_coded v_pile v_horn v_brass v_coldAhead v_which v_whichMany v_bestPass v_bestLive v_bestCode v_traced v_traceMany v_who v_bitsOf v_sizeOf v_number v_lifted) := hD
                refine lv_aload_n hx hb dX7_sew_102 rfl (lv_at hl 0 rfl) ?_
                refine lv_iload_n hx hb dX7_sew_103 rfl (lv_at hl 1 rfl) ?_
                refine lv_iconst (v := 2) hx hb dX7_sew_104 (by decide) ?_
                refine lv_iload_n hx hb dX7_sew_105 rfl (lv_at hl 2 rfl) ?_
                refine lv_iadd hx hb dX7_sew_106 ?_
                refine lv_aload_n hx hb dX7_sew_107 rfl (lv_at hl 0 rfl) ?_
                refine lv_iload_n hx hb dX7_sew_108 rfl (lv_at hl 1 rfl) ?_
                refine lv_iconst (v := 2) hx hb dX7_sew_109 (by decide) ?_
                refine lv_iload_n hx hb dX7_sew_110 rfl (lv_at hl 2 rfl) ?_
                refine lv_iadd hx hb dX7_sew_111 ?_
                obtain ⟨r_16, hc112, h⟩ := bd1_s h
                refine x_selfVi (As := [.int p0, .int (2 + p1)]) (rest := [.int (2 + p1), .int p0, .ref (o 0)]) St0_ok S (c_X7_of l D cI cS o hc112) yf_X7_of wd10_11 ⟨Nat.le_of_ble_eq_true rfl, Nat.le_of_ble_eq_true rfl⟩ hK hSt hA hP hD hS 0 rfl rfl rfl hl.1 rfl (Nat.le_of_ble_eq_true rfl) dX7_sew_112 (Nat.zero_le _) (Nat.zero_le _) (fun H locs hP hD hS => ?_)
                refine lv_iconst (v := 1) hx hb dX7_sew_115 (by decide) ?_
                refine lv_iadd hx hb dX7_sew_116 ?_
                obtain ⟨v_d_17, hc117, h⟩ := bd1_s h
                refine x_selfVv (As := [.int p0, .int (2 + p1), .int (r_16 + 1)]) (rest := []) St0_ok S (c_X7_sets l D cI cS o hc117) yf_X7_sets wd6_15 ⟨Nat.le_of_ble_eq_true rfl, Nat.le_of_ble_eq_true rfl⟩ hK hSt hA hP hD hS 0 rfl rfl rfl hl.1 rfl (Nat.le_of_ble_eq_true rfl) dX7_sew_117 (Nat.zero_le _) (Nat.zero_le _) (fun H locs hP hD hS => ?_)
                refine lv_aload_n hx hb dX7_sew_120 rfl (lv_at hl 0 rfl) ?_
                refine lv_iload_n hx hb dX7_sew_121 rfl (lv_at hl 1 rfl) ?_
                refine lv_iconst (v := 4) hx hb dX7_sew_122 (by decide) ?_
                refine lv_aload_n hx hb dX7_sew_123 rfl (lv_at hl 0 rfl) ?_
                refine lv_iload_n hx hb dX7_sew_124 rfl (lv_at hl 1 rfl) ?_
                refine lv_iconst (v := 4) hx hb dX7_sew_125 (by decide) ?_
                obtain ⟨r_18, hc126, h⟩ := bd1_s h
                refine x_selfVi (As := [.int p0, .int 4]) (rest := [.int 4, .int p0, .ref (o 0)]) St0_ok S (c_X7_of l D cI cS o hc126) yf_X7_of wd10_11 ⟨Nat.le_of_ble_eq_true rfl, Nat.le_of_ble_eq_true rfl⟩ hK hSt hA hP hD hS 0 rfl rfl rfl hl.1 rfl (Nat.le_of_ble_eq_true rfl) dX7_sew_126 (Nat.zero_le _) (Nat.zero_le _) (fun H locs hP hD hS => ?_)
                refine lv_iconst (v := 1) hx hb dX7_sew_129 (by decide) ?_
                refine lv_isub hx hb dX7_sew_130 ?_
                obtain ⟨v_d_19, hc131, h⟩ := bd1_s h
                refine x_selfVv (As := [.int p0, .int 4, .int (r_18 - 1)]) (rest := []) St0_ok S (c_X7_sets l D cI cS o hc131) yf_X7_sets wd6_15 ⟨Nat.le_of_ble_eq_true rfl, Nat.le_of_ble_eq_true rfl⟩ hK hSt hA hP hD hS 0 rfl rfl rfl hl.1 rfl (Nat.le_of_ble_eq_true rfl) dX7_sew_131 (Nat.zero_le _) (Nat.zero_le _) (fun H locs hP hD hS => ?_)
                refine lv_aload_n hx hb dX7_sew_134 rfl (lv_at hl 0 rfl) ?_
                refine lv_iload_n hx hb dX7_sew_135 rfl (lv_at hl 1 rfl) ?_
                refine lv_iconst (v := 4) hx hb dX7_sew_136 (by decide) ?_
                obtain ⟨r_20, hc137, h⟩ := bd1_s h
                refine x_selfVi (As := [.int p0, .int 4]) (rest := []) St0_ok S (c_X7_of l D cI cS o hc137) yf_X7_of wd10_11 ⟨Nat.le_of_ble_eq_true rfl, Nat.le_of_ble_eq_true rfl⟩ hK hSt hA hP hD hS 0 rfl rfl rfl hl.1 rfl (Nat.le_of_ble_eq_true rfl) dX7_sew_137 (Nat.zero_le _) (Nat.zero_le _) (fun H locs hP hD hS => ?_)
                cases h
                exact x_iret hx hb hr hlocks hK hP hD hS rfl rfl dX7_sew_140
              · exact wJ74 h _ _ hP hD hS _ (lv_sub hl [0] rfl)
      · exact wJ31 h _ _ hP hD hS _ (lv_sub hl [0] rfl)

def f_X7_dayGoes_L7 (r_3 : Int32) (J67 : (Nat → Int32) → (Nat → Int32) → (Nat → Int32) → Option ((Nat → Int32) × (Nat → Int32) × (Nat → Int32))) : Nat → (Nat → Int32) → (Nat → Int32) → (Nat → Int32) → Int32 → Option ((Nat → Int32) × (Nat → Int32) × (Nat → Int32))
  | 0, _, _, _, _ => none
  | k_n + 1, v_d_9, v_names_10, v_pile_11, l2_12 => rdA 248 v_d_9 0 (fun x_13 => (if x_13 ≤ l2_12 then J67 v_d_9 v_names_10 v_pile_11 else bd1 (f_X7_isDead v_d_9 l2_12) (fun r_14 => jnA (fun (v_d_15 : Nat → Int32) (v_names_16 : Nat → Int32) (v_pile_17 : Nat → Int32) => nmA (l2_12 + 1) (fun l2_18 => f_X7_dayGoes_L7 r_3 J67 k_n v_d_15 v_names_16 v_pile_17 l2_18)) (fun J61 => (if r_14 = 0 then jnA (fun (v_names_19 : Nat → Int32) (v_pile_20 : Nat → Int32) (t0_21 : Int32) => bd1 (f_X7_of v_d_9 l2_12 5) (fun r_22 => bd1 (f_X7_held (r_22 + t0_21) 0 99) (fun r_23 => bd1 (f_X7_sets v_d_9 l2_12 5 r_23) (fun v_d_24 => J61 v_d_24 v_names_19 v_pile_20)))) (fun J40 => (if r_3 = 0 then J40 v_names_10 v_pile_11 1 else bd3 (f_X7_chillOf v_d_9 v_names_10 v_pile_11 l2_12 r_3) (fun v_names_25 v_pile_26 r_27 => J40 v_names_25 v_pile_26 (-r_27)))) else J61 v_d_9 v_names_10 v_pile_11)))))
def f_X7_dayGoes  (v_d : Nat → Int32) (v_names : Nat → Int32) (v_pile : Nat → Int32)  : Option ((Nat → Int32) × (Nat → Int32) × (Nat → Int32)) :=
  bd3 (f_X7_coldNow v_d v_names v_pile) (fun v_names_1 v_pile_2 r_3 => jnA (fun (v_d_4 : Nat → Int32) (v_names_5 : Nat → Int32) (v_pile_6 : Nat → Int32) => rdA 248 v_d_4 6 (fun x_7 => wrA 248 v_d_4 6 (x_7 + 1) (fun v_d_8 => some (v_d_8, v_names_5, v_pile_6)))) (fun J67 => f_X7_dayGoes_L7 r_3 J67 300 v_d v_names_1 v_pile_2 0))
set_option maxHeartbeats 600000 in
set_option maxRecDepth 100000 in
theorem c_X7_dayGoes (l : Launch) (D : va_G) (cI cS : ClassId) (o : Nat → Nat) {v_d : Nat → Int32} {v_kept : Nat → Int32} {v_images : Int32} {v_found : Nat → Int32} {v_aside : Nat → Int32} {v_base : Int32} {v_at : Int32} {v_size : Int32} {v_fault : Int32} {v_opened : Int32} {v_isCold : Int32} {v_names : Nat → Int32} {v_code : Nat → Int32} {v_coded : Int32} {v_pile : Nat → Int32} {v_horn : Int32} {v_brass : Int32} {v_coldAhead : Nat → Int32} {v_which : Nat → Int32} {v_whichMany : Int32} {v_bestPass : Int32} {v_bestLive : Int32} {v_bestCode : Int32} {v_traced : Nat → Int32} {v_traceMany : Int32} {v_who : Int32} {v_bitsOf : Nat → Int32} {v_sizeOf : Nat → Int32} {v_number : Nat → Int32} {v_lifted : Nat → Int32}  {w_d : Nat → Int32} {w_names : Nat → Int32} {w_pile : Nat → Int32} (h : f_X7_dayGoes  v_d v_names v_pile  = some (w_d, w_names, w_pile)) : MetV l D (tysX cI cS) St0 yX7_dayGoes cX7_dayGoes 4 none 4 96 [.ref (o 0)] (pcX7 o cI v_d v_kept v_images v_found v_aside v_base v_at v_size v_fault v_opened v_isCold v_names v_code v_coded v_pile v_horn v_brass v_coldAhead v_which v_whichMany v_bestPass v_bestLive v_bestCode v_traced v_traceMany v_who v_bitsOf v_sizeOf v_number v_lifted) (pcX7 o cI w_d v_kept v_images v_found v_aside v_base v_at v_size v_fault v_opened v_isCold w_names v_code v_coded w_pile v_horn v_brass v_coldAhead v_which v_whichMany v_bestPass v_bestLive v_bestCode v_traced v_traceMany v_who v_bitsOf v_sizeOf v_number v_lifted) := by
  refine Ent.metV (by decide +kernel) (Nat.le_of_ble_eq_true rfl) ?_
  intro p e s m args below meth c A ls hx hb hr hml hown hts hlocks hA hK hSt hP hD hS hl
  have hown : s.vm.findClass RX7 = some m.cls := hown
  have S : XFix p m c cX7_dayGoes 4 s args RX7 := ⟨hx, hb, hml, hown, hts⟩
  have hl : lv_has ls 4 [(0, .ref (o 0))] := hl
  unfold f_X7_dayGoes at h
  refine lv_aload_n hx hb dX7_dayGoes_0 rfl (lv_at hl 0 rfl) ?_
  obtain ⟨v_names_1, v_pile_2, r_3, hc1, h⟩ := bd3_s h
  refine x_selfVi (As := []) (rest := []) St0_ok S (c_X7_coldNow l D cI cS o hc1) yf_X7_coldNow wd11_7 ⟨Nat.le_of_ble_eq_true rfl, Nat.le_of_ble_eq_true rfl⟩ hK hSt hA hP hD hS 0 rfl rfl rfl hl.1 rfl (Nat.le_of_ble_eq_true rfl) dX7_dayGoes_1 (Nat.zero_le _) (Nat.zero_le _) (fun H locs hP hD hS => ?_)
  refine lv_istore_n (lv' := [(1, .int r_3), (0, .ref (o 0))]) hx hb dX7_dayGoes_4 rfl hl (by decide) rfl (fun ls hl => ?_)
  refine lv_iconst (v := 0) hx hb dX7_dayGoes_5 (by decide) ?_
  refine lv_istore_n (lv' := [(2, .int 0), (1, .int r_3), (0, .ref (o 0))]) hx hb dX7_dayGoes_6 rfl hl (by decide) rfl (fun ls hl => ?_)
  obtain ⟨J67, eJ67, h⟩ := jnA_s h
  have wJ67 : ∀ (v_d_4 : Nat → Int32) (v_names_5 : Nat → Int32) (v_pile_6 : Nat → Int32), J67 v_d_4 v_names_5 v_pile_6 = some (w_d, w_names, w_pile) → ∀ (H : Heap) (locs : List Loc), va_P D vwCl (pcX7 o cI v_d_4 v_kept v_images v_found v_aside v_base v_at v_size v_fault v_opened v_isCold v_names_5 v_code v_coded v_pile_6 v_horn v_brass v_coldAhead v_which v_whichMany v_bestPass v_bestLive v_bestCode v_traced v_traceMany v_who v_bitsOf v_sizeOf v_number v_lifted) H → va_D A (pcX7 o cI v_d_4 v_kept v_images v_found v_aside v_base v_at v_size v_fault v_opened v_isCold v_names_5 v_code v_coded v_pile_6 v_horn v_brass v_coldAhead v_which v_whichMany v_bestPass v_bestLive v_bestCode v_traced v_traceMany v_who v_bitsOf v_sizeOf v_number v_lifted) → va_S A s.heap H locs → ∀ ls : Array Slot, lv_has ls 4 [(0, .ref (o 0))] → WV p l e 4 96 s m args below meth c D (tysX cI cS) A (pcX7 o cI w_d v_kept v_images v_found v_aside v_base v_at v_size v_fault v_opened v_isCold w_names v_code v_coded w_pile v_horn v_brass v_coldAhead v_which v_whichMany v_bestPass v_bestLive v_bestCode v_traced v_traceMany v_who v_bitsOf v_sizeOf v_number v_lifted) H locs (F0 m 67 ls []) := by
      intro v_d_4 v_names_5 v_pile_6 h H locs hP hD hS ls hl
      subst eJ67
      dsimp only at h
      refine lv_aload_n hx hb dX7_dayGoes_67 rfl (lv_at hl 0 rfl) ?_
      refine gt_X7_7 S hK hP 0 rfl rfl dX7_dayGoes_68 ?_
      refine lv_bipush (v := 6) hx hb dX7_dayGoes_71 (by decide) ?_
      refine lv_dup2_11 hx hb dX7_dayGoes_73 rfl rfl ?_
      refine x_ald hx hb hK hP 1 h rfl rfl dX7_dayGoes_74 (fun x_7 ex_7 h => ?_)
      refine lv_iconst (v := 1) hx hb dX7_dayGoes_75 (by decide) ?_
      refine lv_iadd hx hb dX7_dayGoes_76 ?_
      refine x_ast hx hb hK hP hD hS 1 h rfl rfl dX7_dayGoes_77 (fun v_d_8 ev_d_8 h H locs hP hD hS => ?_)
      have hP : va_P D vwCl (pcX7 o cI v_d_8 v_kept v_images v_found v_aside v_base v_at v_size v_fault v_opened v_isCold v_names_5 v_code v_coded v_pile_6 v_horn v_brass v_coldAhead v_which v_whichMany v_bestPass v_bestLive v_bestCode v_traced v_traceMany v_who v_bitsOf v_sizeOf v_number v_lifted) H := hP
      have hD : va_D A (pcX7 o cI v_d_8 v_kept v_images v_found v_aside v_base v_at v_size v_fault v_opened v_isCold v_names_5 v_code v_coded v_pile_6 v_horn v_brass v_coldAhead v_which v_whichMany v_bestPass v_bestLive v_bestCode v_traced v_traceMany v_who v_bitsOf v_sizeOf v_number v_lifted) := hD
      cases h
      exact x_vret hx hb hr hlocks hK hP hD hS rfl dX7_dayGoes_78
  have wf_X7_dayGoes_L7 : ∀ (k_n : Nat) (v_d_9 : Nat → Int32) (v_names_10 : Nat → Int32) (v_pile_11 : Nat → Int32) (l2_12 : Int32), f_X7_dayGoes_L7 r_3 J67 k_n v_d_9 v_names_10 v_pile_11 l2_12 = some (w_d, w_names, w_pile) → ∀ (H : Heap) (locs : List Loc), va_P D vwCl (pcX7 o cI v_d_9 v_kept v_images v_found v_aside v_base v_at v_size v_fault v_opened v_isCold v_names_10 v_code v_coded v_pile_11 v_horn v_brass v_coldAhead v_which v_whichMany v_bestPass v_bestLive v_bestCode v_traced v_traceMany v_who v_bitsOf v_sizeOf v_number v_lifted) H → va_D A (pcX7 o cI v_d_9 v_kept v_images v_found v_aside v_base v_at v_size v_fault v_opened v_isCold v_names_10 v_code v_coded v_pile_11 v_horn v_brass v_coldAhead v_which v_whichMany v_bestPass v_bestLive v_bestCode v_traced v_traceMany v_who v_bitsOf v_sizeOf v_number v_lifted) → va_S A s.heap H locs → ∀ ls : Array Slot, lv_has ls 4 [(0, .ref (o 0)), (1, .int r_3), (2, .int l2_12)] → WV p l e 4 96 s m args below meth c D (tysX cI cS) A (pcX7 o cI w_d v_kept v_images v_found v_aside v_base v_at v_size v_fault v_opened v_isCold w_names v_code v_coded w_pile v_horn v_brass v_coldAhead v_which v_whichMany v_bestPass v_bestLive v_bestCode v_traced v_traceMany v_who v_bitsOf v_sizeOf v_number v_lifted) H locs (F0 m 7 ls []) := by
      intro k_n
      induction k_n with
      | zero => intro v_d_9 v_names_10 v_pile_11 l2_12 h; rw [f_X7_dayGoes_L7] at h; cases h
      | succ k_n ih =>
        intro v_d_9 v_names_10 v_pile_11 l2_12 h H locs hP hD hS ls hl
        rw [f_X7_dayGoes_L7] at h
        refine lv_iload_n hx hb dX7_dayGoes_7 rfl (lv_at hl 2 rfl) ?_
        refine lv_aload_n hx hb dX7_dayGoes_8 rfl (lv_at hl 0 rfl) ?_
        refine gt_X7_7 S hK hP 0 rfl rfl dX7_dayGoes_9 ?_
        refine lv_iconst (v := 0) hx hb dX7_dayGoes_12 (by decide) ?_
        refine x_ald hx hb hK hP 1 h rfl rfl dX7_dayGoes_13 (fun x_13 ex_13 h => ?_)
        refine x_icmp_ge (tgt := 67) hx hb h dX7_dayGoes_14 (by decide) (fun c14 h => ?_) (fun c14 h => ?_)
        · exact wJ67 v_d_9 v_names_10 v_pile_11 h _ _ hP hD hS _ (lv_sub hl [0] rfl)
        · refine lv_aload_n hx hb dX7_dayGoes_17 rfl (lv_at hl 0 rfl) ?_
          refine lv_iload_n hx hb dX7_dayGoes_18 rfl (lv_at hl 2 rfl) ?_
          obtain ⟨r_14, hc19, h⟩ := bd1_s h
          refine x_selfVi (As := [.int l2_12]) (rest := []) St0_ok S (c_X7_isDead l D cI cS o hc19) yf_X7_isDead wd10_15 ⟨Nat.le_of_ble_eq_true rfl, Nat.le_of_ble_eq_true rfl⟩ hK hSt hA hP hD hS 0 rfl rfl rfl hl.1 rfl (Nat.le_of_ble_eq_true rfl) dX7_dayGoes_19 (Nat.zero_le _) (Nat.zero_le _) (fun H locs hP hD hS => ?_)
          obtain ⟨J61, eJ61, h⟩ := jnA_s h
          have wJ61 : ∀ (v_d_15 : Nat → Int32) (v_names_16 : Nat → Int32) (v_pile_17 : Nat → Int32), J61 v_d_15 v_names_16 v_pile_17 = some (w_d, w_names, w_pile) → ∀ (H : Heap) (locs : List Loc), va_P D vwCl (pcX7 o cI v_d_15 v_kept v_images v_found v_aside v_base v_at v_size v_fault v_opened v_isCold v_names_16 v_code v_coded v_pile_17 v_horn v_brass v_coldAhead v_which v_whichMany v_bestPass v_bestLive v_bestCode v_traced v_traceMany v_who v_bitsOf v_sizeOf v_number v_lifted) H → va_D A (pcX7 o cI v_d_15 v_kept v_images v_found v_aside v_base v_at v_size v_fault v_opened v_isCold v_names_16 v_code v_coded v_pile_17 v_horn v_brass v_coldAhead v_which v_whichMany v_bestPass v_bestLive v_bestCode v_traced v_traceMany v_who v_bitsOf v_sizeOf v_number v_lifted) → va_S A s.heap H locs → ∀ ls : Array Slot, lv_has ls 4 [(0, .ref (o 0)), (1, .int r_3), (2, .int l2_12)] → WV p l e 4 96 s m args below meth c D (tysX cI cS) A (pcX7 o cI w_d v_kept v_images v_found v_aside v_base v_at v_size v_fault v_opened v_isCold w_names v_code v_coded w_pile v_horn v_brass v_coldAhead v_which v_whichMany v_bestPass v_bestLive v_bestCode v_traced v_traceMany v_who v_bitsOf v_sizeOf v_number v_lifted) H locs (F0 m 61 ls []) := by
              intro v_d_15 v_names_16 v_pile_17 h H locs hP hD hS ls hl
              subst eJ61
              dsimp only at h
              obtain ⟨l2_18, el2_18, h⟩ := nmA_s h
              refine lv_iinc (v := l2_18) (lv' := [(2, .int l2_18), (0, .ref (o 0)), (1, .int r_3)]) hx hb dX7_dayGoes_61 hl (k := 2) rfl (by rw [el2_18]; exact congrArg _ (by decide)) (by decide) rfl (fun ls hl => ?_)
              refine lv_goto (tgt := 7) hx hb dX7_dayGoes_64 (by decide) ?_
              exact ih v_d_15 v_names_16 v_pile_17 l2_18 h _ _ hP hD hS _ (lv_sub hl [1, 2, 0] rfl)
          refine x_if_ne (tgt := 61) hx hb h dX7_dayGoes_22 (by decide) (fun c22 h => ?_) (fun c22 h => ?_)
          · exact wJ61 v_d_9 v_names_10 v_pile_11 h _ _ hP hD hS _ (lv_sub hl [0, 1, 2] rfl)
          · refine lv_iload_n hx hb dX7_dayGoes_25 rfl (lv_at hl 1 rfl) ?_
            obtain ⟨J40, eJ40, h⟩ := jnA_s h
            have wJ40 : ∀ (v_names_19 : Nat → Int32) (v_pile_20 : Nat → Int32) (t0_21 : Int32), J40 v_names_19 v_pile_20 t0_21 = some (w_d, w_names, w_pile) → ∀ (H : Heap) (locs : List Loc), va_P D vwCl (pcX7 o cI v_d_9 v_kept v_images v_found v_aside v_base v_at v_size v_fault v_opened v_isCold v_names_19 v_code v_coded v_pile_20 v_horn v_brass v_coldAhead v_which v_whichMany v_bestPass v_bestLive v_bestCode v_traced v_traceMany v_who v_bitsOf v_sizeOf v_number v_lifted) H → va_D A (pcX7 o cI v_d_9 v_kept v_images v_found v_aside v_base v_at v_size v_fault v_opened v_isCold v_names_19 v_code v_coded v_pile_20 v_horn v_brass v_coldAhead v_which v_whichMany v_bestPass v_bestLive v_bestCode v_traced v_traceMany v_who v_bitsOf v_sizeOf v_number v_lifted) → va_S A s.heap H locs → ∀ ls : Array Slot, lv_has ls 4 [(0, .ref (o 0)), (1, .int r_3), (2, .int l2_12)] → WV p l e 4 96 s m args below meth c D (tysX cI cS) A (pcX7 o cI w_d v_kept v_images v_found v_aside v_base v_at v_size v_fault v_opened v_isCold w_names v_code v_coded w_pile v_horn v_brass v_coldAhead v_which v_whichMany v_bestPass v_bestLive v_bestCode v_traced v_traceMany v_who v_bitsOf v_sizeOf v_number v_lifted) H locs (F0 m 40 ls [.int t0_21]) := by
                intro v_names_19 v_pile_20 t0_21 h H locs hP hD hS ls hl
                subst eJ40
                dsimp only at h
                refine lv_istore_n (lv' := [(3, .int t0_21), (0, .ref (o 0)), (1, .int r_3), (2, .int l2_12)]) hx hb dX7_dayGoes_40 rfl hl (by decide) rfl (fun ls hl => ?_)
                refine lv_aload_n hx hb dX7_dayGoes_41 rfl (lv_at hl 1 rfl) ?_
                refine lv_iload_n hx hb dX7_dayGoes_42 rfl (lv_at hl 3 rfl) ?_
                refine lv_iconst (v := 5) hx hb dX7_dayGoes_43 (by decide) ?_
                refine lv_aload_n hx hb dX7_dayGoes_44 rfl (lv_at hl 1 rfl) ?_
                refine lv_iload_n hx hb dX7_dayGoes_45 rfl (lv_at hl 3 rfl) ?_
                refine lv_iconst (v := 5) hx hb dX7_dayGoes_46 (by decide) ?_
                obtain ⟨r_22, hc47, h⟩ := bd1_s h
                refine x_selfVi (As := [.int l2_12, .int 5]) (rest := [.int 5, .int l2_12, .ref (o 0)]) St0_ok S (c_X7_of l D cI cS o hc47) yf_X7_of wd10_11 ⟨Nat.le_of_ble_eq_true rfl, Nat.le_of_ble_eq_true rfl⟩ hK hSt hA hP hD hS 0 rfl rfl rfl hl.1 rfl (Nat.le_of_ble_eq_true rfl) dX7_dayGoes_47 (Nat.zero_le _) (Nat.zero_le _) (fun H locs hP hD hS => ?_)
                refine lv_iload_n hx hb dX7_dayGoes_50 rfl (lv_at hl 0 rfl) ?_
                refine lv_iadd hx hb dX7_dayGoes_51 ?_
                refine lv_iconst (v := 0) hx hb dX7_dayGoes_52 (by decide) ?_
                refine lv_bipush (v := 99) hx hb dX7_dayGoes_53 (by decide) ?_
                obtain ⟨r_23, hc55, h⟩ := bd1_s h
                refine x_statI (As := [.int (r_22 + t0_21), .int 0, .int 99]) (rest := [.int 5, .int l2_12, .ref (o 0)]) St0_ok S (c_X7_held l D cI cS o hc55) ys_X7_held wd12_6 ⟨Nat.le_of_ble_eq_true rfl, Nat.le_of_ble_eq_true rfl⟩ hK hSt hA hP hD hS rfl hl.1 rfl (Nat.le_of_ble_eq_true rfl) dX7_dayGoes_55 (Nat.zero_le _) (Nat.zero_le _) (fun H locs hP hD hS => ?_)
                obtain ⟨v_d_24, hc58, h⟩ := bd1_s h
                refine x_selfVv (As := [.int l2_12, .int 5, .int r_23]) (rest := []) St0_ok S (c_X7_sets l D cI cS o hc58) yf_X7_sets wd6_15 ⟨Nat.le_of_ble_eq_true rfl, Nat.le_of_ble_eq_true rfl⟩ hK hSt hA hP hD hS 0 rfl rfl rfl hl.1 rfl (Nat.le_of_ble_eq_true rfl) dX7_dayGoes_58 (Nat.zero_le _) (Nat.zero_le _) (fun H locs hP hD hS => ?_)
                exact wJ61 v_d_24 v_names_19 v_pile_20 h _ _ hP hD hS _ (lv_sub hl [1, 2, 3] rfl)
            refine x_if_ne (tgt := 33) hx hb h dX7_dayGoes_26 (by decide) (fun c26 h => ?_) (fun c26 h => ?_)
            · refine lv_aload_n hx hb dX7_dayGoes_33 rfl (lv_at hl 0 rfl) ?_
              refine lv_iload_n hx hb dX7_dayGoes_34 rfl (lv_at hl 2 rfl) ?_
              refine lv_iload_n hx hb dX7_dayGoes_35 rfl (lv_at hl 1 rfl) ?_
              obtain ⟨v_names_25, v_pile_26, r_27, hc36, h⟩ := bd3_s h
              refine x_selfVi (As := [.int l2_12, .int r_3]) (rest := []) St0_ok S (c_X7_chillOf l D cI cS o hc36) yf_X7_chillOf wd12_9 ⟨Nat.le_of_ble_eq_true rfl, Nat.le_of_ble_eq_true rfl⟩ hK hSt hA hP hD hS 0 rfl rfl rfl hl.1 rfl (Nat.le_of_ble_eq_true rfl) dX7_dayGoes_36 (Nat.zero_le _) (Nat.zero_le _) (fun H locs hP hD hS => ?_)
              refine lv_ineg hx hb dX7_dayGoes_39 ?_
              exact wJ40 v_names_25 v_pile_26 (-r_27) h _ _ hP hD hS _ (lv_sub hl [0, 1, 2] rfl)
            · refine lv_iconst (v := 1) hx hb dX7_dayGoes_29 (by decide) ?_
              refine lv_goto (tgt := 40) hx hb dX7_dayGoes_30 (by decide) ?_
              exact wJ40 v_names_10 v_pile_11 1 h _ _ hP hD hS _ (lv_sub hl [0, 1, 2] rfl)
  exact wf_X7_dayGoes_L7 300 v_d v_names_1 v_pile_2 0 h _ _ hP hD hS _ (lv_sub hl [2, 1, 0] rfl)

def f_X7_daysGo_L2 (p0 : Int32) : Nat → (Nat → Int32) → (Nat → Int32) → (Nat → Int32) → Int32 → Option ((Nat → Int32) × (Nat → Int32) × (Nat → Int32))
  | 0, _, _, _, _ => none
  | k_n + 1, v_d_1, v_names_2, v_pile_3, l2_4 => (if p0 ≤ l2_4 then some (v_d_1, v_names_2, v_pile_3) else bd3 (f_X7_dayGoes v_d_1 v_names_2 v_pile_3) (fun v_d_5 v_names_6 v_pile_7 => nmA (l2_4 + 1) (fun l2_8 => f_X7_daysGo_L2 p0 k_n v_d_5 v_names_6 v_pile_7 l2_8)))
def f_X7_daysGo  (v_d : Nat → Int32) (v_names : Nat → Int32) (v_pile : Nat → Int32) (p0 : Int32) : Option ((Nat → Int32) × (Nat → Int32) × (Nat → Int32)) :=
  f_X7_daysGo_L2 p0 300 v_d v_names v_pile 0
set_option maxHeartbeats 600000 in
set_option maxRecDepth 100000 in
theorem c_X7_daysGo (l : Launch) (D : va_G) (cI cS : ClassId) (o : Nat → Nat) {v_d : Nat → Int32} {v_kept : Nat → Int32} {v_images : Int32} {v_found : Nat → Int32} {v_aside : Nat → Int32} {v_base : Int32} {v_at : Int32} {v_size : Int32} {v_fault : Int32} {v_opened : Int32} {v_isCold : Int32} {v_names : Nat → Int32} {v_code : Nat → Int32} {v_coded : Int32} {v_pile : Nat → Int32} {v_horn : Int32} {v_brass : Int32} {v_coldAhead : Nat → Int32} {v_which : Nat → Int32} {v_whichMany : Int32} {v_bestPass : Int32} {v_bestLive : Int32} {v_bestCode : Int32} {v_traced : Nat → Int32} {v_traceMany : Int32} {v_who : Int32} {v_bitsOf : Nat → Int32} {v_sizeOf : Nat → Int32} {v_number : Nat → Int32} {v_lifted : Nat → Int32} {p0 : Int32} {w_d : Nat → Int32} {w_names : Nat → Int32} {w_pile : Nat → Int32} (h : f_X7_daysGo  v_d v_names v_pile p0 = some (w_d, w_names, w_pile)) : MetV l D (tysX cI cS) St0 yX7_daysGo cX7_daysGo 3 none 5 119 [.ref (o 0), .int p0] (pcX7 o cI v_d v_kept v_images v_found v_aside v_base v_at v_size v_fault v_opened v_isCold v_names v_code v_coded v_pile v_horn v_brass v_coldAhead v_which v_whichMany v_bestPass v_bestLive v_bestCode v_traced v_traceMany v_who v_bitsOf v_sizeOf v_number v_lifted) (pcX7 o cI w_d v_kept v_images v_found v_aside v_base v_at v_size v_fault v_opened v_isCold w_names v_code v_coded w_pile v_horn v_brass v_coldAhead v_which v_whichMany v_bestPass v_bestLive v_bestCode v_traced v_traceMany v_who v_bitsOf v_sizeOf v_number v_lifted) := by
  refine Ent.metV (by decide +kernel) (Nat.le_of_ble_eq_true rfl) ?_
  intro p e s m args below meth c A ls hx hb hr hml hown hts hlocks hA hK hSt hP hD hS hl
  have hown : s.vm.findClass RX7 = some m.cls := hown
  have S : XFix p m c cX7_daysGo 3 s args RX7 := ⟨hx, hb, hml, hown, hts⟩
  have hl : lv_has ls 3 [(0, .ref (o 0)), (1, .int p0)] := hl
  unfold f_X7_daysGo at h
  refine lv_iconst (v := 0) hx hb dX7_daysGo_0 (by decide) ?_
  refine lv_istore_n (lv' := [(2, .int 0), (0, .ref (o 0)), (1, .int p0)]) hx hb dX7_daysGo_1 rfl hl (by decide) rfl (fun ls hl => ?_)
  have wf_X7_daysGo_L2 : ∀ (k_n : Nat) (v_d_1 : Nat → Int32) (v_names_2 : Nat → Int32) (v_pile_3 : Nat → Int32) (l2_4 : Int32), f_X7_daysGo_L2 p0 k_n v_d_1 v_names_2 v_pile_3 l2_4 = some (w_d, w_names, w_pile) → ∀ (H : Heap) (locs : List Loc), va_P D vwCl (pcX7 o cI v_d_1 v_kept v_images v_found v_aside v_base v_at v_size v_fault v_opened v_isCold v_names_2 v_code v_coded v_pile_3 v_horn v_brass v_coldAhead v_which v_whichMany v_bestPass v_bestLive v_bestCode v_traced v_traceMany v_who v_bitsOf v_sizeOf v_number v_lifted) H → va_D A (pcX7 o cI v_d_1 v_kept v_images v_found v_aside v_base v_at v_size v_fault v_opened v_isCold v_names_2 v_code v_coded v_pile_3 v_horn v_brass v_coldAhead v_which v_whichMany v_bestPass v_bestLive v_bestCode v_traced v_traceMany v_who v_bitsOf v_sizeOf v_number v_lifted) → va_S A s.heap H locs → ∀ ls : Array Slot, lv_has ls 3 [(0, .ref (o 0)), (1, .int p0), (2, .int l2_4)] → WV p l e 5 119 s m args below meth c D (tysX cI cS) A (pcX7 o cI w_d v_kept v_images v_found v_aside v_base v_at v_size v_fault v_opened v_isCold w_names v_code v_coded w_pile v_horn v_brass v_coldAhead v_which v_whichMany v_bestPass v_bestLive v_bestCode v_traced v_traceMany v_who v_bitsOf v_sizeOf v_number v_lifted) H locs (F0 m 2 ls []) := by
      intro k_n
      induction k_n with
      | zero => intro v_d_1 v_names_2 v_pile_3 l2_4 h; rw [f_X7_daysGo_L2] at h; cases h
      | succ k_n ih =>
        intro v_d_1 v_names_2 v_pile_3 l2_4 h H locs hP hD hS ls hl
        rw [f_X7_daysGo_L2] at h
        refine lv_iload_n hx hb dX7_daysGo_2 rfl (lv_at hl 2 rfl) ?_
        refine lv_iload_n hx hb dX7_daysGo_3 rfl (lv_at hl 1 rfl) ?_
        refine x_icmp_ge (tgt := 17) hx hb h dX7_daysGo_4 (by decide) (fun c4 h => ?_) (fun c4 h => ?_)
        · cases h
          exact x_vret hx hb hr hlocks hK hP hD hS rfl dX7_daysGo_17
        · refine lv_aload_n hx hb dX7_daysGo_7 rfl (lv_at hl 0 rfl) ?_
          obtain ⟨v_d_5, v_names_6, v_pile_7, hc8, h⟩ := bd3_s h
          refine x_selfVv (As := []) (rest := []) St0_ok S (c_X7_dayGoes l D cI cS o hc8) yf_X7_dayGoes wd26_9 ⟨Nat.le_of_ble_eq_true rfl, Nat.le_of_ble_eq_true rfl⟩ hK hSt hA hP hD hS 0 rfl rfl rfl hl.1 rfl (Nat.le_of_ble_eq_true rfl) dX7_daysGo_8 (Nat.zero_le _) (Nat.zero_le _) (fun H locs hP hD hS => ?_)
          obtain ⟨l2_8, el2_8, h⟩ := nmA_s h
          refine lv_iinc (v := l2_8) (lv' := [(2, .int l2_8), (0, .ref (o 0)), (1, .int p0)]) hx hb dX7_daysGo_11 hl (k := 2) rfl (by rw [el2_8]; exact congrArg _ (by decide)) (by decide) rfl (fun ls hl => ?_)
          refine lv_goto (tgt := 2) hx hb dX7_daysGo_14 (by decide) ?_
          exact ih v_d_5 v_names_6 v_pile_7 l2_8 h _ _ hP hD hS _ (lv_sub hl [1, 2, 0] rfl)
  exact wf_X7_daysGo_L2 300 v_d v_names v_pile 0 h _ _ hP hD hS _ (lv_sub hl [1, 2, 0] rfl)

def f_X7_alive_L4 (v_d : Nat → Int32) : Nat → Int32 → Int32 → Option ((Int32))
  | 0, _, _ => none
  | k_n + 1, l1_1, l2_2 => rdA 248 v_d 0 (fun x_3 => (if x_3 ≤ l2_2 then some (l1_1) else bd1 (f_X7_isDead v_d l2_2) (fun r_4 => jnA (fun (t0_5 : Int32) => nmA (l1_1 + t0_5) (fun l1_6 => nmA (l2_2 + 1) (fun l2_7 => f_X7_alive_L4 v_d k_n l1_6 l2_7))) (fun J28 => (if r_4 = 0 then J28 1 else J28 0)))))
def f_X7_alive  (v_d : Nat → Int32)  : Option ((Int32)) :=
  f_X7_alive_L4 v_d 300 0 0
set_option maxHeartbeats 600000 in
set_option maxRecDepth 100000 in
theorem c_X7_alive (l : Launch) (D : va_G) (cI cS : ClassId) (o : Nat → Nat) {v_d : Nat → Int32} {v_kept : Nat → Int32} {v_images : Int32} {v_found : Nat → Int32} {v_aside : Nat → Int32} {v_base : Int32} {v_at : Int32} {v_size : Int32} {v_fault : Int32} {v_opened : Int32} {v_isCold : Int32} {v_names : Nat → Int32} {v_code : Nat → Int32} {v_coded : Int32} {v_pile : Nat → Int32} {v_horn : Int32} {v_brass : Int32} {v_coldAhead : Nat → Int32} {v_which : Nat → Int32} {v_whichMany : Int32} {v_bestPass : Int32} {v_bestLive : Int32} {v_bestCode : Int32} {v_traced : Nat → Int32} {v_traceMany : Int32} {v_who : Int32} {v_bitsOf : Nat → Int32} {v_sizeOf : Nat → Int32} {v_number : Nat → Int32} {v_lifted : Nat → Int32}   {r_out : Int32} (h : f_X7_alive  v_d  = some (r_out)) : MetI l D (tysX cI cS) St0 yX7_alive cX7_alive 3 (some .int) 2 43 [.ref (o 0)] (pcX7 o cI v_d v_kept v_images v_found v_aside v_base v_at v_size v_fault v_opened v_isCold v_names v_code v_coded v_pile v_horn v_brass v_coldAhead v_which v_whichMany v_bestPass v_bestLive v_bestCode v_traced v_traceMany v_who v_bitsOf v_sizeOf v_number v_lifted) r_out (pcX7 o cI v_d v_kept v_images v_found v_aside v_base v_at v_size v_fault v_opened v_isCold v_names v_code v_coded v_pile v_horn v_brass v_coldAhead v_which v_whichMany v_bestPass v_bestLive v_bestCode v_traced v_traceMany v_who v_bitsOf v_sizeOf v_number v_lifted) := by
  refine Ent.metI (by decide +kernel) (Nat.le_of_ble_eq_true rfl) ?_
  intro p e s m args below meth c A ls hx hb hr hml hown hts hlocks hA hK hSt hP hD hS hl
  have hown : s.vm.findClass RX7 = some m.cls := hown
  have S : XFix p m c cX7_alive 3 s args RX7 := ⟨hx, hb, hml, hown, hts⟩
  have hl : lv_has ls 3 [(0, .ref (o 0))] := hl
  unfold f_X7_alive at h
  refine lv_iconst (v := 0) hx hb dX7_alive_0 (by decide) ?_
  refine lv_istore_n (lv' := [(1, .int 0), (0, .ref (o 0))]) hx hb dX7_alive_1 rfl hl (by decide) rfl (fun ls hl => ?_)
  refine lv_iconst (v := 0) hx hb dX7_alive_2 (by decide) ?_
  refine lv_istore_n (lv' := [(2, .int 0), (1, .int 0), (0, .ref (o 0))]) hx hb dX7_alive_3 rfl hl (by decide) rfl (fun ls hl => ?_)
  have wf_X7_alive_L4 : ∀ (k_n : Nat) (l1_1 : Int32) (l2_2 : Int32), f_X7_alive_L4 v_d k_n l1_1 l2_2 = some (r_out) → ∀ (H : Heap) (locs : List Loc), va_P D vwCl (pcX7 o cI v_d v_kept v_images v_found v_aside v_base v_at v_size v_fault v_opened v_isCold v_names v_code v_coded v_pile v_horn v_brass v_coldAhead v_which v_whichMany v_bestPass v_bestLive v_bestCode v_traced v_traceMany v_who v_bitsOf v_sizeOf v_number v_lifted) H → va_D A (pcX7 o cI v_d v_kept v_images v_found v_aside v_base v_at v_size v_fault v_opened v_isCold v_names v_code v_coded v_pile v_horn v_brass v_coldAhead v_which v_whichMany v_bestPass v_bestLive v_bestCode v_traced v_traceMany v_who v_bitsOf v_sizeOf v_number v_lifted) → va_S A s.heap H locs → ∀ ls : Array Slot, lv_has ls 3 [(0, .ref (o 0)), (1, .int l1_1), (2, .int l2_2)] → WI p l e 2 43 s m args below meth c D (tysX cI cS) A r_out (pcX7 o cI v_d v_kept v_images v_found v_aside v_base v_at v_size v_fault v_opened v_isCold v_names v_code v_coded v_pile v_horn v_brass v_coldAhead v_which v_whichMany v_bestPass v_bestLive v_bestCode v_traced v_traceMany v_who v_bitsOf v_sizeOf v_number v_lifted) H locs (F0 m 4 ls []) := by
      intro k_n
      induction k_n with
      | zero => intro l1_1 l2_2 h; rw [f_X7_alive_L4] at h; cases h
      | succ k_n ih =>
        intro l1_1 l2_2 h H locs hP hD hS ls hl
        rw [f_X7_alive_L4] at h
        refine lv_iload_n hx hb dX7_alive_4 rfl (lv_at hl 2 rfl) ?_
        refine lv_aload_n hx hb dX7_alive_5 rfl (lv_at hl 0 rfl) ?_
        refine gt_X7_7 S hK hP 0 rfl rfl dX7_alive_6 ?_
        refine lv_iconst (v := 0) hx hb dX7_alive_9 (by decide) ?_
        refine x_ald hx hb hK hP 1 h rfl rfl dX7_alive_10 (fun x_3 ex_3 h => ?_)
        refine x_icmp_ge (tgt := 36) hx hb h dX7_alive_11 (by decide) (fun c11 h => ?_) (fun c11 h => ?_)
        · refine lv_iload_n hx hb dX7_alive_36 rfl (lv_at hl 1 rfl) ?_
          cases h
          exact x_iret hx hb hr hlocks hK hP hD hS rfl rfl dX7_alive_37
        · refine lv_iload_n hx hb dX7_alive_14 rfl (lv_at hl 1 rfl) ?_
          refine lv_aload_n hx hb dX7_alive_15 rfl (lv_at hl 0 rfl) ?_
          refine lv_iload_n hx hb dX7_alive_16 rfl (lv_at hl 2 rfl) ?_
          obtain ⟨r_4, hc17, h⟩ := bd1_s h
          refine x_selfVi (As := [.int l2_2]) (rest := [.int l1_1]) St0_ok S (c_X7_isDead l D cI cS o hc17) yf_X7_isDead wd10_15 ⟨Nat.le_of_ble_eq_true rfl, Nat.le_of_ble_eq_true rfl⟩ hK hSt hA hP hD hS 0 rfl rfl rfl hl.1 rfl (Nat.le_of_ble_eq_true rfl) dX7_alive_17 (Nat.zero_le _) (Nat.zero_le _) (fun H locs hP hD hS => ?_)
          obtain ⟨J28, eJ28, h⟩ := jnA_s h
          have wJ28 : ∀ (t0_5 : Int32), J28 t0_5 = some (r_out) → ∀ (H : Heap) (locs : List Loc), va_P D vwCl (pcX7 o cI v_d v_kept v_images v_found v_aside v_base v_at v_size v_fault v_opened v_isCold v_names v_code v_coded v_pile v_horn v_brass v_coldAhead v_which v_whichMany v_bestPass v_bestLive v_bestCode v_traced v_traceMany v_who v_bitsOf v_sizeOf v_number v_lifted) H → va_D A (pcX7 o cI v_d v_kept v_images v_found v_aside v_base v_at v_size v_fault v_opened v_isCold v_names v_code v_coded v_pile v_horn v_brass v_coldAhead v_which v_whichMany v_bestPass v_bestLive v_bestCode v_traced v_traceMany v_who v_bitsOf v_sizeOf v_number v_lifted) → va_S A s.heap H locs → ∀ ls : Array Slot, lv_has ls 3 [(0, .ref (o 0)), (2, .int l2_2)] → WI p l e 2 43 s m args below meth c D (tysX cI cS) A r_out (pcX7 o cI v_d v_kept v_images v_found v_aside v_base v_at v_size v_fault v_opened v_isCold v_names v_code v_coded v_pile v_horn v_brass v_coldAhead v_which v_whichMany v_bestPass v_bestLive v_bestCode v_traced v_traceMany v_who v_bitsOf v_sizeOf v_number v_lifted) H locs (F0 m 28 ls [.int t0_5, .int l1_1]) := by
              intro t0_5 h H locs hP hD hS ls hl
              subst eJ28
              dsimp only at h
              refine lv_iadd hx hb dX7_alive_28 ?_
              refine x_nm h (fun l1_6 el1_6 h => ?_)
              refine lv_istore_n (lv' := [(1, .int l1_6), (0, .ref (o 0)), (2, .int l2_2)]) hx hb dX7_alive_29 rfl hl (by decide) rfl (fun ls hl => ?_)
              obtain ⟨l2_7, el2_7, h⟩ := nmA_s h
              refine lv_iinc (v := l2_7) (lv' := [(2, .int l2_7), (1, .int l1_6), (0, .ref (o 0))]) hx hb dX7_alive_30 hl (k := 2) rfl (by rw [el2_7]; exact congrArg _ (by decide)) (by decide) rfl (fun ls hl => ?_)
              refine lv_goto (tgt := 4) hx hb dX7_alive_33 (by decide) ?_
              exact ih l1_6 l2_7 h _ _ hP hD hS _ (lv_sub hl [2, 1, 0] rfl)
          refine x_if_eq (tgt := 27) hx hb h dX7_alive_20 (by decide) (fun c20 h => ?_) (fun c20 h => ?_)
          · refine lv_iconst (v := 1) hx hb dX7_alive_27 (by decide) ?_
            exact wJ28 1 h _ _ hP hD hS _ (lv_sub hl [0, 2] rfl)
          · refine lv_iconst (v := 0) hx hb dX7_alive_23 (by decide) ?_
            refine lv_goto (tgt := 28) hx hb dX7_alive_24 (by decide) ?_
            exact wJ28 0 h _ _ hP hD hS _ (lv_sub hl [0, 2] rfl)
  exact wf_X7_alive_L4 300 0 0 h _ _ hP hD hS _ (lv_sub hl [2, 1, 0] rfl)

def f_X7_aliveSet_L4 (v_d : Nat → Int32) : Nat → Int32 → Int32 → Option ((Int32))
  | 0, _, _ => none
  | k_n + 1, l1_1, l2_2 => rdA 248 v_d 0 (fun x_3 => (if x_3 ≤ l2_2 then some (l1_1) else bd1 (f_X7_isDead v_d l2_2) (fun r_4 => jnA (fun (t0_5 : Int32) => nmA (l1_1 ||| t0_5) (fun l1_6 => nmA (l2_2 + 1) (fun l2_7 => f_X7_aliveSet_L4 v_d k_n l1_6 l2_7))) (fun J30 => (if r_4 = 0 then J30 (1 <<< (l2_2 &&& 31)) else J30 0)))))
def f_X7_aliveSet  (v_d : Nat → Int32)  : Option ((Int32)) :=
  f_X7_aliveSet_L4 v_d 300 0 0
set_option maxHeartbeats 600000 in
set_option maxRecDepth 100000 in
theorem c_X7_aliveSet (l : Launch) (D : va_G) (cI cS : ClassId) (o : Nat → Nat) {v_d : Nat → Int32} {v_kept : Nat → Int32} {v_images : Int32} {v_found : Nat → Int32} {v_aside : Nat → Int32} {v_base : Int32} {v_at : Int32} {v_size : Int32} {v_fault : Int32} {v_opened : Int32} {v_isCold : Int32} {v_names : Nat → Int32} {v_code : Nat → Int32} {v_coded : Int32} {v_pile : Nat → Int32} {v_horn : Int32} {v_brass : Int32} {v_coldAhead : Nat → Int32} {v_which : Nat → Int32} {v_whichMany : Int32} {v_bestPass : Int32} {v_bestLive : Int32} {v_bestCode : Int32} {v_traced : Nat → Int32} {v_traceMany : Int32} {v_who : Int32} {v_bitsOf : Nat → Int32} {v_sizeOf : Nat → Int32} {v_number : Nat → Int32} {v_lifted : Nat → Int32}   {r_out : Int32} (h : f_X7_aliveSet  v_d  = some (r_out)) : MetI l D (tysX cI cS) St0 yX7_aliveSet cX7_aliveSet 3 (some .int) 2 43 [.ref (o 0)] (pcX7 o cI v_d v_kept v_images v_found v_aside v_base v_at v_size v_fault v_opened v_isCold v_names v_code v_coded v_pile v_horn v_brass v_coldAhead v_which v_whichMany v_bestPass v_bestLive v_bestCode v_traced v_traceMany v_who v_bitsOf v_sizeOf v_number v_lifted) r_out (pcX7 o cI v_d v_kept v_images v_found v_aside v_base v_at v_size v_fault v_opened v_isCold v_names v_code v_coded v_pile v_horn v_brass v_coldAhead v_which v_whichMany v_bestPass v_bestLive v_bestCode v_traced v_traceMany v_who v_bitsOf v_sizeOf v_number v_lifted) := by
  refine Ent.metI (by decide +kernel) (Nat.le_of_ble_eq_true rfl) ?_
  intro p e s m args below meth c A ls hx hb hr hml hown hts hlocks hA hK hSt hP hD hS hl
  have hown : s.vm.findClass RX7 = some m.cls := hown
  have S : XFix p m c cX7_aliveSet 3 s args RX7 := ⟨hx, hb, hml, hown, hts⟩
  have hl : lv_has ls 3 [(0, .ref (o 0))] := hl
  unfold f_X7_aliveSet at h
  refine lv_iconst (v := 0) hx hb dX7_aliveSet_0 (by decide) ?_
  refine lv_istore_n (lv' := [(1, .int 0), (0, .ref (o 0))]) hx hb dX7_aliveSet_1 rfl hl (by decide) rfl (fun ls hl => ?_)
  refine lv_iconst (v := 0) hx hb dX7_aliveSet_2 (by decide) ?_
  refine lv_istore_n (lv' := [(2, .int 0), (1, .int 0), (0, .ref (o 0))]) hx hb dX7_aliveSet_3 rfl hl (by decide) rfl (fun ls hl => ?_)
  have wf_X7_aliveSet_L4 : ∀ (k_n : Nat) (l1_1 : Int32) (l2_2 : Int32), f_X7_aliveSet_L4 v_d k_n l1_1 l2_2 = some (r_out) → ∀ (H : Heap) (locs : List Loc), va_P D vwCl (pcX7 o cI v_d v_kept v_images v_found v_aside v_base v_at v_size v_fault v_opened v_isCold v_names v_code v_coded v_pile v_horn v_brass v_coldAhead v_which v_whichMany v_bestPass v_bestLive v_bestCode v_traced v_traceMany v_who v_bitsOf v_sizeOf v_number v_lifted) H → va_D A (pcX7 o cI v_d v_kept v_images v_found v_aside v_base v_at v_size v_fault v_opened v_isCold v_names v_code v_coded v_pile v_horn v_brass v_coldAhead v_which v_whichMany v_bestPass v_bestLive v_bestCode v_traced v_traceMany v_who v_bitsOf v_sizeOf v_number v_lifted) → va_S A s.heap H locs → ∀ ls : Array Slot, lv_has ls 3 [(0, .ref (o 0)), (1, .int l1_1), (2, .int l2_2)] → WI p l e 2 43 s m args below meth c D (tysX cI cS) A r_out (pcX7 o cI v_d v_kept v_images v_found v_aside v_base v_at v_size v_fault v_opened v_isCold v_names v_code v_coded v_pile v_horn v_brass v_coldAhead v_which v_whichMany v_bestPass v_bestLive v_bestCode v_traced v_traceMany v_who v_bitsOf v_sizeOf v_number v_lifted) H locs (F0 m 4 ls []) := by
      intro k_n
      induction k_n with
      | zero => intro l1_1 l2_2 h; rw [f_X7_aliveSet_L4] at h; cases h
      | succ k_n ih =>
        intro l1_1 l2_2 h H locs hP hD hS ls hl
        rw [f_X7_aliveSet_L4] at h
        refine lv_iload_n hx hb dX7_aliveSet_4 rfl (lv_at hl 2 rfl) ?_
        refine lv_aload_n hx hb dX7_aliveSet_5 rfl (lv_at hl 0 rfl) ?_
        refine gt_X7_7 S hK hP 0 rfl rfl dX7_aliveSet_6 ?_
        refine lv_iconst (v := 0) hx hb dX7_aliveSet_9 (by decide) ?_
        refine x_ald hx hb hK hP 1 h rfl rfl dX7_aliveSet_10 (fun x_3 ex_3 h => ?_)
        refine x_icmp_ge (tgt := 38) hx hb h dX7_aliveSet_11 (by decide) (fun c11 h => ?_) (fun c11 h => ?_)
        · refine lv_iload_n hx hb dX7_aliveSet_38 rfl (lv_at hl 1 rfl) ?_
          cases h
          exact x_iret hx hb hr hlocks hK hP hD hS rfl rfl dX7_aliveSet_39
        · refine lv_iload_n hx hb dX7_aliveSet_14 rfl (lv_at hl 1 rfl) ?_
          refine lv_aload_n hx hb dX7_aliveSet_15 rfl (lv_at hl 0 rfl) ?_
          refine lv_iload_n hx hb dX7_aliveSet_16 rfl (lv_at hl 2 rfl) ?_
          obtain ⟨r_4, hc17, h⟩ := bd1_s h
          refine x_selfVi (As := [.int l2_2]) (rest := [.int l1_1]) St0_ok S (c_X7_isDead l D cI cS o hc17) yf_X7_isDead wd10_15 ⟨Nat.le_of_ble_eq_true rfl, Nat.le_of_ble_eq_true rfl⟩ hK hSt hA hP hD hS 0 rfl rfl rfl hl.1 rfl (Nat.le_of_ble_eq_true rfl) dX7_aliveSet_17 (Nat.zero_le _) (Nat.zero_le _) (fun H locs hP hD hS => ?_)
          obtain ⟨J30, eJ30, h⟩ := jnA_s h
          have wJ30 : ∀ (t0_5 : Int32), J30 t0_5 = some (r_out) → ∀ (H : Heap) (locs : List Loc), va_P D vwCl (pcX7 o cI v_d v_kept v_images v_found v_aside v_base v_at v_size v_fault v_opened v_isCold v_names v_code v_coded v_pile v_horn v_brass v_coldAhead v_which v_whichMany v_bestPass v_bestLive v_bestCode v_traced v_traceMany v_who v_bitsOf v_sizeOf v_number v_lifted) H → va_D A (pcX7 o cI v_d v_kept v_images v_found v_aside v_base v_at v_size v_fault v_opened v_isCold v_names v_code v_coded v_pile v_horn v_brass v_coldAhead v_which v_whichMany v_bestPass v_bestLive v_bestCode v_traced v_traceMany v_who v_bitsOf v_sizeOf v_number v_lifted) → va_S A s.heap H locs → ∀ ls : Array Slot, lv_has ls 3 [(0, .ref (o 0)), (2, .int l2_2)] → WI p l e 2 43 s m args below meth c D (tysX cI cS) A r_out (pcX7 o cI v_d v_kept v_images v_found v_aside v_base v_at v_size v_fault v_opened v_isCold v_names v_code v_coded v_pile v_horn v_brass v_coldAhead v_which v_whichMany v_bestPass v_bestLive v_bestCode v_traced v_traceMany v_who v_bitsOf v_sizeOf v_number v_lifted) H locs (F0 m 30 ls [.int t0_5, .int l1_1]) := by
              intro t0_5 h H locs hP hD hS ls hl
              subst eJ30
              dsimp only at h
              refine lv_ior hx hb dX7_aliveSet_30 ?_
              refine x_nm h (fun l1_6 el1_6 h => ?_)
              refine lv_istore_n (lv' := [(1, .int l1_6), (0, .ref (o 0)), (2, .int l2_2)]) hx hb dX7_aliveSet_31 rfl hl (by decide) rfl (fun ls hl => ?_)
              obtain ⟨l2_7, el2_7, h⟩ := nmA_s h
              refine lv_iinc (v := l2_7) (lv' := [(2, .int l2_7), (1, .int l1_6), (0, .ref (o 0))]) hx hb dX7_aliveSet_32 hl (k := 2) rfl (by rw [el2_7]; exact congrArg _ (by decide)) (by decide) rfl (fun ls hl => ?_)
              refine lv_goto (tgt := 4) hx hb dX7_aliveSet_35 (by decide) ?_
              exact ih l1_6 l2_7 h _ _ hP hD hS _ (lv_sub hl [2, 1, 0] rfl)
          refine x_if_eq (tgt := 27) hx hb h dX7_aliveSet_20 (by decide) (fun c20 h => ?_) (fun c20 h => ?_)
          · refine lv_iconst (v := 1) hx hb dX7_aliveSet_27 (by decide) ?_
            refine lv_iload_n hx hb dX7_aliveSet_28 rfl (lv_at hl 2 rfl) ?_
            refine lv_ishl hx hb dX7_aliveSet_29 ?_
            exact wJ30 (1 <<< (l2_2 &&& 31)) h _ _ hP hD hS _ (lv_sub hl [0, 2] rfl)
          · refine lv_iconst (v := 0) hx hb dX7_aliveSet_23 (by decide) ?_
            refine lv_goto (tgt := 30) hx hb dX7_aliveSet_24 (by decide) ?_
            exact wJ30 0 h _ _ hP hD hS _ (lv_sub hl [0, 2] rfl)
  exact wf_X7_aliveSet_L4 300 0 0 h _ _ hP hD hS _ (lv_sub hl [2, 1, 0] rfl)

def f_X7_days  (v_d : Nat → Int32) (v_found : Nat → Int32) (v_names : Nat → Int32) (v_pile : Nat → Int32) (p0 : Int32) : Option ((Nat → Int32) × (Nat → Int32) × (Nat → Int32) × (Nat → Int32) × (Int32)) :=
  bd1 (f_X7_in (p0.toInt64) 1 60) (fun r_1 => (if r_1 = 0 then bd2 (f_X7_finds v_found 1) (fun v_found_9 r_10 => some (v_d, v_found_9, v_names, v_pile, r_10)) else rdA 248 v_d 6 (fun x_2 => (if (x_2 + p0) ≤ 9999 then bd3 (f_X7_daysGo v_d v_names v_pile p0) (fun v_d_3 v_names_4 v_pile_5 => bd1 (f_X7_alive v_d_3) (fun r_6 => some (v_d_3, v_found, v_names_4, v_pile_5, r_6))) else bd2 (f_X7_finds v_found 3) (fun v_found_7 r_8 => some (v_d, v_found_7, v_names, v_pile, r_8))))))
set_option maxHeartbeats 600000 in
set_option maxRecDepth 100000 in
theorem c_X7_days (l : Launch) (D : va_G) (cI cS : ClassId) (o : Nat → Nat) {v_d : Nat → Int32} {v_kept : Nat → Int32} {v_images : Int32} {v_found : Nat → Int32} {v_aside : Nat → Int32} {v_base : Int32} {v_at : Int32} {v_size : Int32} {v_fault : Int32} {v_opened : Int32} {v_isCold : Int32} {v_names : Nat → Int32} {v_code : Nat → Int32} {v_coded : Int32} {v_pile : Nat → Int32} {v_horn : Int32} {v_brass : Int32} {v_coldAhead : Nat → Int32} {v_which : Nat → Int32} {v_whichMany : Int32} {v_bestPass : Int32} {v_bestLive : Int32} {v_bestCode : Int32} {v_traced : Nat → Int32} {v_traceMany : Int32} {v_who : Int32} {v_bitsOf : Nat → Int32} {v_sizeOf : Nat → Int32} {v_number : Nat → Int32} {v_lifted : Nat → Int32} {p0 : Int32} {w_d : Nat → Int32} {w_found : Nat → Int32} {w_names : Nat → Int32} {w_pile : Nat → Int32} {r_out : Int32} (h : f_X7_days  v_d v_found v_names v_pile p0 = some (w_d, w_found, w_names, w_pile, r_out)) : MetI l D (tysX cI cS) St0 yX7_days cX7_days 2 (some .int) 6 141 [.ref (o 0), .int p0] (pcX7 o cI v_d v_kept v_images v_found v_aside v_base v_at v_size v_fault v_opened v_isCold v_names v_code v_coded v_pile v_horn v_brass v_coldAhead v_which v_whichMany v_bestPass v_bestLive v_bestCode v_traced v_traceMany v_who v_bitsOf v_sizeOf v_number v_lifted) r_out (pcX7 o cI w_d v_kept v_images w_found v_aside v_base v_at v_size v_fault v_opened v_isCold w_names v_code v_coded w_pile v_horn v_brass v_coldAhead v_which v_whichMany v_bestPass v_bestLive v_bestCode v_traced v_traceMany v_who v_bitsOf v_sizeOf v_number v_lifted) := by
  refine Ent.metI (by decide +kernel) (Nat.le_of_ble_eq_true rfl) ?_
  intro p e s m args below meth c A ls hx hb hr hml hown hts hlocks hA hK hSt hP hD hS hl
  have hown : s.vm.findClass RX7 = some m.cls := hown
  have S : XFix p m c cX7_days 2 s args RX7 := ⟨hx, hb, hml, hown, hts⟩
  have hl : lv_has ls 2 [(0, .ref (o 0)), (1, .int p0)] := hl
  unfold f_X7_days at h
  refine lv_iload_n hx hb dX7_days_0 rfl (lv_at hl 1 rfl) ?_
  refine lv_i2l (v := (p0.toInt64)) hx hb dX7_days_1 rfl ?_
  refine lv_lconst (v := 1) hx hb dX7_days_2 (by decide) ?_
  refine lv_ldc2 (v := 60) hx hb hown (hts _ wd26_4) dX7_days_3 ?_
  obtain ⟨r_1, hc6, h⟩ := bd1_s h
  refine x_statI (As := [.long (p0.toInt64), .long 1, .long 60]) (rest := []) St0_ok S (c_X7_in l D cI cS o hc6) ys_X7_in wd6_7 ⟨Nat.le_of_ble_eq_true rfl, Nat.le_of_ble_eq_true rfl⟩ hK hSt hA hP hD hS rfl hl.1 rfl (Nat.le_of_ble_eq_true rfl) dX7_days_6 (Nat.zero_le _) (Nat.zero_le _) (fun H locs hP hD hS => ?_)
  refine x_if_ne (tgt := 18) hx hb h dX7_days_9 (by decide) (fun c9 h => ?_) (fun c9 h => ?_)
  · refine lv_aload_n hx hb dX7_days_18 rfl (lv_at hl 0 rfl) ?_
    refine gt_X7_7 S hK hP 0 rfl rfl dX7_days_19 ?_
    refine lv_bipush (v := 6) hx hb dX7_days_22 (by decide) ?_
    refine x_ald hx hb hK hP 1 h rfl rfl dX7_days_24 (fun x_2 ex_2 h => ?_)
    refine lv_iload_n hx hb dX7_days_25 rfl (lv_at hl 1 rfl) ?_
    refine lv_iadd hx hb dX7_days_26 ?_
    refine lv_sipush (v := 9999) hx hb dX7_days_27 (by decide) ?_
    refine x_icmp_le (tgt := 39) hx hb h dX7_days_30 (by decide) (fun c30 h => ?_) (fun c30 h => ?_)
    · refine lv_aload_n hx hb dX7_days_39 rfl (lv_at hl 0 rfl) ?_
      refine lv_iload_n hx hb dX7_days_40 rfl (lv_at hl 1 rfl) ?_
      obtain ⟨v_d_3, v_names_4, v_pile_5, hc41, h⟩ := bd3_s h
      refine x_selfVv (As := [.int p0]) (rest := []) St0_ok S (c_X7_daysGo l D cI cS o hc41) yf_X7_daysGo wd26_5 ⟨Nat.le_of_ble_eq_true rfl, Nat.le_of_ble_eq_true rfl⟩ hK hSt hA hP hD hS 0 rfl rfl rfl hl.1 rfl (Nat.le_of_ble_eq_true rfl) dX7_days_41 (Nat.zero_le _) (Nat.zero_le _) (fun H locs hP hD hS => ?_)
      refine lv_aload_n hx hb dX7_days_44 rfl (lv_at hl 0 rfl) ?_
      obtain ⟨r_6, hc45, h⟩ := bd1_s h
      refine x_selfVi (As := []) (rest := []) St0_ok S (c_X7_alive l D cI cS o hc45) yf_X7_alive wd26_13 ⟨Nat.le_of_ble_eq_true rfl, Nat.le_of_ble_eq_true rfl⟩ hK hSt hA hP hD hS 0 rfl rfl rfl hl.1 rfl (Nat.le_of_ble_eq_true rfl) dX7_days_45 (Nat.zero_le _) (Nat.zero_le _) (fun H locs hP hD hS => ?_)
      cases h
      exact x_iret hx hb hr hlocks hK hP hD hS rfl rfl dX7_days_48
    · refine lv_aload_n hx hb dX7_days_33 rfl (lv_at hl 0 rfl) ?_
      refine lv_iconst (v := 3) hx hb dX7_days_34 (by decide) ?_
      obtain ⟨v_found_7, r_8, hc35, h⟩ := bd2_s h
      refine x_selfVi (As := [.int 3]) (rest := []) St0_ok S (c_X7_finds l D cI cS o hc35) yf_X7_finds wd6_10 ⟨Nat.le_of_ble_eq_true rfl, Nat.le_of_ble_eq_true rfl⟩ hK hSt hA hP hD hS 0 rfl rfl rfl hl.1 rfl (Nat.le_of_ble_eq_true rfl) dX7_days_35 (Nat.zero_le _) (Nat.zero_le _) (fun H locs hP hD hS => ?_)
      cases h
      exact x_iret hx hb hr hlocks hK hP hD hS rfl rfl dX7_days_38
  · refine lv_aload_n hx hb dX7_days_12 rfl (lv_at hl 0 rfl) ?_
    refine lv_iconst (v := 1) hx hb dX7_days_13 (by decide) ?_
    obtain ⟨v_found_9, r_10, hc14, h⟩ := bd2_s h
    refine x_selfVi (As := [.int 1]) (rest := []) St0_ok S (c_X7_finds l D cI cS o hc14) yf_X7_finds wd6_10 ⟨Nat.le_of_ble_eq_true rfl, Nat.le_of_ble_eq_true rfl⟩ hK hSt hA hP hD hS 0 rfl rfl rfl hl.1 rfl (Nat.le_of_ble_eq_true rfl) dX7_days_14 (Nat.zero_le _) (Nat.zero_le _) (fun H locs hP hD hS => ?_)
    cases h
    exact x_iret hx hb hr hlocks hK hP hD hS rfl rfl dX7_days_17

def f_X7_drawn  (v_d : Nat → Int32)  : Option ((Nat → Int32) × (Int32)) :=
  rdA 248 v_d 7 (fun x_1 => wrA 248 v_d 7 ((x_1 * 1103515245) + 12345) (fun v_d_2 => rdA 248 v_d_2 7 (fun x_3 => some (v_d_2, (ushI x_3 8)))))
set_option maxHeartbeats 600000 in
set_option maxRecDepth 100000 in
theorem c_X7_drawn (l : Launch) (D : va_G) (cI cS : ClassId) (o : Nat → Nat) {v_d : Nat → Int32} {v_kept : Nat → Int32} {v_images : Int32} {v_found : Nat → Int32} {v_aside : Nat → Int32} {v_base : Int32} {v_at : Int32} {v_size : Int32} {v_fault : Int32} {v_opened : Int32} {v_isCold : Int32} {v_names : Nat → Int32} {v_code : Nat → Int32} {v_coded : Int32} {v_pile : Nat → Int32} {v_horn : Int32} {v_brass : Int32} {v_coldAhead : Nat → Int32} {v_which : Nat → Int32} {v_whichMany : Int32} {v_bestPass : Int32} {v_bestLive : Int32} {v_bestCode : Int32} {v_traced : Nat → Int32} {v_traceMany : Int32} {v_who : Int32} {v_bitsOf : Nat → Int32} {v_sizeOf : Nat → Int32} {v_number : Nat → Int32} {v_lifted : Nat → Int32}  {w_d : Nat → Int32} {r_out : Int32} (h : f_X7_drawn  v_d  = some (w_d, r_out)) : MetI l D (tysX cI cS) St0 yX7_drawn cX7_drawn 1 (some .int) 0 0 [.ref (o 0)] (pcX7 o cI v_d v_kept v_images v_found v_aside v_base v_at v_size v_fault v_opened v_isCold v_names v_code v_coded v_pile v_horn v_brass v_coldAhead v_which v_whichMany v_bestPass v_bestLive v_bestCode v_traced v_traceMany v_who v_bitsOf v_sizeOf v_number v_lifted) r_out (pcX7 o cI w_d v_kept v_images v_found v_aside v_base v_at v_size v_fault v_opened v_isCold v_names v_code v_coded v_pile v_horn v_brass v_coldAhead v_which v_whichMany v_bestPass v_bestLive v_bestCode v_traced v_traceMany v_who v_bitsOf v_sizeOf v_number v_lifted) := by
  refine Ent.metI (by decide +kernel) (Nat.le_of_ble_eq_true rfl) ?_
  intro p e s m args below meth c A ls hx hb hr hml hown hts hlocks hA hK hSt hP hD hS hl
  have hown : s.vm.findClass RX7 = some m.cls := hown
  have S : XFix p m c cX7_drawn 1 s args RX7 := ⟨hx, hb, hml, hown, hts⟩
  have hl : lv_has ls 1 [(0, .ref (o 0))] := hl
  unfold f_X7_drawn at h
  refine lv_aload_n hx hb dX7_drawn_0 rfl (lv_at hl 0 rfl) ?_
  refine gt_X7_7 S hK hP 0 rfl rfl dX7_drawn_1 ?_
  refine lv_bipush (v := 7) hx hb dX7_drawn_4 (by decide) ?_
  refine lv_aload_n hx hb dX7_drawn_6 rfl (lv_at hl 0 rfl) ?_
  refine gt_X7_7 S hK hP 0 rfl rfl dX7_drawn_7 ?_
  refine lv_bipush (v := 7) hx hb dX7_drawn_10 (by decide) ?_
  refine x_ald hx hb hK hP 1 h rfl rfl dX7_drawn_12 (fun x_1 ex_1 h => ?_)
  refine lv_ldc (v := 1103515245) hx hb hown (hts _ wd27_11) dX7_drawn_13 ?_
  refine lv_imul hx hb dX7_drawn_15 ?_
  refine lv_sipush (v := 12345) hx hb dX7_drawn_16 (by decide) ?_
  refine lv_iadd hx hb dX7_drawn_19 ?_
  refine x_ast hx hb hK hP hD hS 1 h rfl rfl dX7_drawn_20 (fun v_d_2 ev_d_2 h H locs hP hD hS => ?_)
  have hP : va_P D vwCl (pcX7 o cI v_d_2 v_kept v_images v_found v_aside v_base v_at v_size v_fault v_opened v_isCold v_names v_code v_coded v_pile v_horn v_brass v_coldAhead v_which v_whichMany v_bestPass v_bestLive v_bestCode v_traced v_traceMany v_who v_bitsOf v_sizeOf v_number v_lifted) H := hP
  have hD : va_D A (pcX7 o cI v_d_2 v_kept v_images v_found v_aside v_base v_at v_size v_fault v_opened v_isCold v_names v_code v_coded v_pile v_horn v_brass v_coldAhead v_which v_whichMany v_bestPass v_bestLive v_bestCode v_traced v_traceMany v_who v_bitsOf v_sizeOf v_number v_lifted) := hD
  refine lv_aload_n hx hb dX7_drawn_21 rfl (lv_at hl 0 rfl) ?_
  refine gt_X7_7 S hK hP 0 rfl rfl dX7_drawn_22 ?_
  refine lv_bipush (v := 7) hx hb dX7_drawn_25 (by decide) ?_
  refine x_ald hx hb hK hP 1 h rfl rfl dX7_drawn_27 (fun x_3 ex_3 h => ?_)
  refine lv_bipush (v := 8) hx hb dX7_drawn_28 (by decide) ?_
  refine lv_iushr (v := (ushI x_3 8)) hx hb dX7_drawn_30 rfl ?_
  cases h
  exact x_iret hx hb hr hlocks hK hP hD hS rfl rfl dX7_drawn_31

def f_X7_loose_L41 (v_found : Nat → Int32) (p0 : Int32) : Nat → (Nat → Int32) → (Nat → Int32) → (Nat → Int32) → Int32 → Int32 → Int32 → Option ((Nat → Int32) × (Nat → Int32) × (Nat → Int32) × (Nat → Int32) × (Int32) × (Int32) × (Int32))
  | 0, _, _, _, _, _, _ => none
  | k_n + 1, v_d_3, v_names_4, v_pile_5, v_horn_6, v_brass_7, l2_8 => (if p0 ≤ l2_8 then bd1 (f_X7_alive v_d_3) (fun r_9 => some (v_d_3, v_found, v_names_4, v_pile_5, v_horn_6, v_brass_7, r_9)) else bd2 (f_X7_drawn v_d_3) (fun v_d_10 r_11 => nzA 10 (wrA 248 v_d_10 5 (rmI r_11 10) (fun v_d_12 => rdA 248 v_d_12 1 (fun x_13 => jnA (fun (v_d_14 : Nat → Int32) (v_horn_15 : Int32) (v_brass_16 : Int32) => bd3 (f_X7_dayGoes v_d_14 v_names_4 v_pile_5) (fun v_d_17 v_names_18 v_pile_19 => nmA (l2_8 + 1) (fun l2_20 => f_X7_loose_L41 v_found p0 k_n v_d_17 v_names_18 v_pile_19 v_horn_15 v_brass_16 l2_20))) (fun J84 => (if x_13 ≤ 0 then J84 v_d_12 v_horn_6 v_brass_7 else bd2 (f_X7_drawn v_d_12) (fun v_d_21 r_22 => rdA 248 v_d_21 1 (fun x_23 => nzA x_23 (bd4 (f_X7_votes v_d_21 v_horn_6 v_brass_7 (rmI r_22 x_23)) (fun v_d_24 v_horn_25 v_brass_26 r_27 => J84 v_d_24 v_horn_25 v_brass_26)))))))))))
def f_X7_loose  (v_d : Nat → Int32) (v_found : Nat → Int32) (v_names : Nat → Int32) (v_pile : Nat → Int32) (v_horn : Int32) (v_brass : Int32) (p0 : Int32) : Option ((Nat → Int32) × (Nat → Int32) × (Nat → Int32) × (Nat → Int32) × (Int32) × (Int32) × (Int32)) :=
  bd1 (f_X7_in (p0.toInt64) 1 40) (fun r_1 => (if r_1 = 0 then bd2 (f_X7_finds v_found 1) (fun v_found_30 r_31 => some (v_d, v_found_30, v_names, v_pile, v_horn, v_brass, r_31)) else rdA 248 v_d 6 (fun x_2 => (if (x_2 + p0) ≤ 9999 then f_X7_loose_L41 v_found p0 300 v_d v_names v_pile v_horn v_brass 0 else bd2 (f_X7_finds v_found 3) (fun v_found_28 r_29 => some (v_d, v_found_28, v_names, v_pile, v_horn, v_brass, r_29))))))
set_option maxHeartbeats 600000 in
set_option maxRecDepth 100000 in
theorem c_X7_loose (l : Launch) (D : va_G) (cI cS : ClassId) (o : Nat → Nat) {v_d : Nat → Int32} {v_kept : Nat → Int32} {v_images : Int32} {v_found : Nat → Int32} {v_aside : Nat → Int32} {v_base : Int32} {v_at : Int32} {v_size : Int32} {v_fault : Int32} {v_opened : Int32} {v_isCold : Int32} {v_names : Nat → Int32} {v_code : Nat → Int32} {v_coded : Int32} {v_pile : Nat → Int32} {v_horn : Int32} {v_brass : Int32} {v_coldAhead : Nat → Int32} {v_which : Nat → Int32} {v_whichMany : Int32} {v_bestPass : Int32} {v_bestLive : Int32} {v_bestCode : Int32} {v_traced : Nat → Int32} {v_traceMany : Int32} {v_who : Int32} {v_bitsOf : Nat → Int32} {v_sizeOf : Nat → Int32} {v_number : Nat → Int32} {v_lifted : Nat → Int32} {p0 : Int32} {w_d : Nat → Int32} {w_found : Nat → Int32} {w_names : Nat → Int32} {w_pile : Nat → Int32} {w_horn : Int32} {w_brass : Int32} {r_out : Int32} (h : f_X7_loose  v_d v_found v_names v_pile v_horn v_brass p0 = some (w_d, w_found, w_names, w_pile, w_horn, w_brass, r_out)) : MetI l D (tysX cI cS) St0 yX7_loose cX7_loose 4 (some .int) 8 179 [.ref (o 0), .int p0] (pcX7 o cI v_d v_kept v_images v_found v_aside v_base v_at v_size v_fault v_opened v_isCold v_names v_code v_coded v_pile v_horn v_brass v_coldAhead v_which v_whichMany v_bestPass v_bestLive v_bestCode v_traced v_traceMany v_who v_bitsOf v_sizeOf v_number v_lifted) r_out (pcX7 o cI w_d v_kept v_images w_found v_aside v_base v_at v_size v_fault v_opened v_isCold w_names v_code v_coded w_pile w_horn w_brass v_coldAhead v_which v_whichMany v_bestPass v_bestLive v_bestCode v_traced v_traceMany v_who v_bitsOf v_sizeOf v_number v_lifted) := by
  refine Ent.metI (by decide +kernel) (Nat.le_of_ble_eq_true rfl) ?_
  intro p e s m args below meth c A ls hx hb hr hml hown hts hlocks hA hK hSt hP hD hS hl
  have hown : s.vm.findClass RX7 = some m.cls := hown
  have S : XFix p m c cX7_loose 4 s args RX7 := ⟨hx, hb, hml, hown, hts⟩
  have hl : lv_has ls 4 [(0, .ref (o 0)), (1, .int p0)] := hl
  unfold f_X7_loose at h
  refine lv_iload_n hx hb dX7_loose_0 rfl (lv_at hl 1 rfl) ?_
  refine lv_i2l (v := (p0.toInt64)) hx hb dX7_loose_1 rfl ?_
  refine lv_lconst (v := 1) hx hb dX7_loose_2 (by decide) ?_
  refine lv_ldc2 (v := 40) hx hb hown (hts _ wd27_6) dX7_loose_3 ?_
  obtain ⟨r_1, hc6, h⟩ := bd1_s h
  refine x_statI (As := [.long (p0.toInt64), .long 1, .long 40]) (rest := []) St0_ok S (c_X7_in l D cI cS o hc6) ys_X7_in wd6_7 ⟨Nat.le_of_ble_eq_true rfl, Nat.le_of_ble_eq_true rfl⟩ hK hSt hA hP hD hS rfl hl.1 rfl (Nat.le_of_ble_eq_true rfl) dX7_loose_6 (Nat.zero_le _) (Nat.zero_le _) (fun H locs hP hD hS => ?_)
  refine x_if_ne (tgt := 18) hx hb h dX7_loose_9 (by decide) (fun c9 h => ?_) (fun c9 h => ?_)
  · refine lv_aload_n hx hb dX7_loose_18 rfl (lv_at hl 0 rfl) ?_
    refine gt_X7_7 S hK hP 0 rfl rfl dX7_loose_19 ?_
    refine lv_bipush (v := 6) hx hb dX7_loose_22 (by decide) ?_
    refine x_ald hx hb hK hP 1 h rfl rfl dX7_loose_24 (fun x_2 ex_2 h => ?_)
    refine lv_iload_n hx hb dX7_loose_25 rfl (lv_at hl 1 rfl) ?_
    refine lv_iadd hx hb dX7_loose_26 ?_
    refine lv_sipush (v := 9999) hx hb dX7_loose_27 (by decide) ?_
    refine x_icmp_le (tgt := 39) hx hb h dX7_loose_30 (by decide) (fun c30 h => ?_) (fun c30 h => ?_)
    · refine lv_iconst (v := 0) hx hb dX7_loose_39 (by decide) ?_
      refine lv_istore_n (lv' := [(2, .int 0), (0, .ref (o 0)), (1, .int p0)]) hx hb dX7_loose_40 rfl hl (by decide) rfl (fun ls hl => ?_)
      have wf_X7_loose_L41 : ∀ (k_n : Nat) (v_d_3 : Nat → Int32) (v_names_4 : Nat → Int32) (v_pile_5 : Nat → Int32) (v_horn_6 : Int32) (v_brass_7 : Int32) (l2_8 : Int32), f_X7_loose_L41 v_found p0 k_n v_d_3 v_names_4 v_pile_5 v_horn_6 v_brass_7 l2_8 = some (w_d, w_found, w_names, w_pile, w_horn, w_brass, r_out) → ∀ (H : Heap) (locs : List Loc), va_P D vwCl (pcX7 o cI v_d_3 v_kept v_images v_found v_aside v_base v_at v_size v_fault v_opened v_isCold v_names_4 v_code v_coded v_pile_5 v_horn_6 v_brass_7 v_coldAhead v_which v_whichMany v_bestPass v_bestLive v_bestCode v_traced v_traceMany v_who v_bitsOf v_sizeOf v_number v_lifted) H → va_D A (pcX7 o cI v_d_3 v_kept v_images v_found v_aside v_base v_at v_size v_fault v_opened v_isCold v_names_4 v_code v_coded v_pile_5 v_horn_6 v_brass_7 v_coldAhead v_which v_whichMany v_bestPass v_bestLive v_bestCode v_traced v_traceMany v_who v_bitsOf v_sizeOf v_number v_lifted) → va_S A s.heap H locs → ∀ ls : Array Slot, lv_has ls 4 [(0, .ref (o 0)), (1, .int p0), (2, .int l2_8)] → WI p l e 8 179 s m args below meth c D (tysX cI cS) A r_out (pcX7 o cI w_d v_kept v_images w_found v_aside v_base v_at v_size v_fault v_opened v_isCold w_names v_code v_coded w_pile w_horn w_brass v_coldAhead v_which v_whichMany v_bestPass v_bestLive v_bestCode v_traced v_traceMany v_who v_bitsOf v_sizeOf v_number v_lifted) H locs (F0 m 41 ls []) := by
          intro k_n
          induction k_n with
          | zero => intro v_d_3 v_names_4 v_pile_5 v_horn_6 v_brass_7 l2_8 h; rw [f_X7_loose_L41] at h; cases h
          | succ k_n ih =>
            intro v_d_3 v_names_4 v_pile_5 v_horn_6 v_brass_7 l2_8 h H locs hP hD hS ls hl
            rw [f_X7_loose_L41] at h
            refine lv_iload_n hx hb dX7_loose_41 rfl (lv_at hl 2 rfl) ?_
            refine lv_iload_n hx hb dX7_loose_42 rfl (lv_at hl 1 rfl) ?_
            refine x_icmp_ge (tgt := 94) hx hb h dX7_loose_43 (by decide) (fun c43 h => ?_) (fun c43 h => ?_)
            · refine lv_aload_n hx hb dX7_loose_94 rfl (lv_at hl 0 rfl) ?_
              obtain ⟨r_9, hc95, h⟩ := bd1_s h
              refine x_selfVi (As := []) (rest := []) St0_ok S (c_X7_alive l D cI cS o hc95) yf_X7_alive wd26_13 ⟨Nat.le_of_ble_eq_true rfl, Nat.le_of_ble_eq_true rfl⟩ hK hSt hA hP hD hS 0 rfl rfl rfl hl.1 rfl (Nat.le_of_ble_eq_true rfl) dX7_loose_95 (Nat.zero_le _) (Nat.zero_le _) (fun H locs hP hD hS => ?_)
              cases h
              exact x_iret hx hb hr hlocks hK hP hD hS rfl rfl dX7_loose_98
            · refine lv_aload_n hx hb dX7_loose_46 rfl (lv_at hl 0 rfl) ?_
              refine gt_X7_7 S hK hP 0 rfl rfl dX7_loose_47 ?_
              refine lv_iconst (v := 5) hx hb dX7_loose_50 (by decide) ?_
              refine lv_aload_n hx hb dX7_loose_51 rfl (lv_at hl 0 rfl) ?_
              obtain ⟨v_d_10, r_11, hc52, h⟩ := bd2_s h
              refine x_selfVi (As := []) (rest := [.int 5, .ref (o 1)]) St0_ok S (c_X7_drawn l D cI cS o hc52) yf_X7_drawn wd27_7 ⟨Nat.le_of_ble_eq_true rfl, Nat.le_of_ble_eq_true rfl⟩ hK hSt hA hP hD hS 0 rfl rfl rfl hl.1 rfl (Nat.le_of_ble_eq_true rfl) dX7_loose_52 (Nat.zero_le _) (Nat.zero_le _) (fun H locs hP hD hS => ?_)
              refine lv_bipush (v := 10) hx hb dX7_loose_55 (by decide) ?_
              refine x_irem hx hb h dX7_loose_57 (fun h => ?_)
              refine x_ast hx hb hK hP hD hS 1 h rfl rfl dX7_loose_58 (fun v_d_12 ev_d_12 h H locs hP hD hS => ?_)
              have hP : va_P D vwCl (pcX7 o cI v_d_12 v_kept v_images v_found v_aside v_base v_at v_size v_fault v_opened v_isCold v_names_4 v_code v_coded v_pile_5 v_horn_6 v_brass_7 v_coldAhead v_which v_whichMany v_bestPass v_bestLive v_bestCode v_traced v_traceMany v_who v_bitsOf v_sizeOf v_number v_lifted) H := hP
              have hD : va_D A (pcX7 o cI v_d_12 v_kept v_images v_found v_aside v_base v_at v_size v_fault v_opened v_isCold v_names_4 v_code v_coded v_pile_5 v_horn_6 v_brass_7 v_coldAhead v_which v_whichMany v_bestPass v_bestLive v_bestCode v_traced v_traceMany v_who v_bitsOf v_sizeOf v_number v_lifted) := hD
              refine lv_aload_n hx hb dX7_loose_59 rfl (lv_at hl 0 rfl) ?_
              refine gt_X7_7 S hK hP 0 rfl rfl dX7_loose_60 ?_
              refine lv_iconst (v := 1) hx hb dX7_loose_63 (by decide) ?_
              refine x_ald hx hb hK hP 1 h rfl rfl dX7_loose_64 (fun x_13 ex_13 h => ?_)
              obtain ⟨J84, eJ84, h⟩ := jnA_s h
              have wJ84 : ∀ (v_d_14 : Nat → Int32) (v_horn_15 : Int32) (v_brass_16 : Int32), J84 v_d_14 v_horn_15 v_brass_16 = some (w_d, w_found, w_names, w_pile, w_horn, w_brass, r_out) → ∀ (H : Heap) (locs : List Loc), va_P D vwCl (pcX7 o cI v_d_14 v_kept v_images v_found v_aside v_base v_at v_size v_fault v_opened v_isCold v_names_4 v_code v_coded v_pile_5 v_horn_15 v_brass_16 v_coldAhead v_which v_whichMany v_bestPass v_bestLive v_bestCode v_traced v_traceMany v_who v_bitsOf v_sizeOf v_number v_lifted) H → va_D A (pcX7 o cI v_d_14 v_kept v_images v_found v_aside v_base v_at v_size v_fault v_opened v_isCold v_names_4 v_code v_coded v_pile_5 v_horn_15 v_brass_16 v_coldAhead v_which v_whichMany v_bestPass v_bestLive v_bestCode v_traced v_traceMany v_who v_bitsOf v_sizeOf v_number v_lifted) → va_S A s.heap H locs → ∀ ls : Array Slot, lv_has ls 4 [(0, .ref (o 0)), (1, .int p0), (2, .int l2_8)] → WI p l e 8 179 s m args below meth c D (tysX cI cS) A r_out (pcX7 o cI w_d v_kept v_images w_found v_aside v_base v_at v_size v_fault v_opened v_isCold w_names v_code v_coded w_pile w_horn w_brass v_coldAhead v_which v_whichMany v_bestPass v_bestLive v_bestCode v_traced v_traceMany v_who v_bitsOf v_sizeOf v_number v_lifted) H locs (F0 m 84 ls []) := by
                  intro v_d_14 v_horn_15 v_brass_16 h H locs hP hD hS ls hl
                  subst eJ84
                  dsimp only at h
                  refine lv_aload_n hx hb dX7_loose_84 rfl (lv_at hl 0 rfl) ?_
                  obtain ⟨v_d_17, v_names_18, v_pile_19, hc85, h⟩ := bd3_s h
                  refine x_selfVv (As := []) (rest := []) St0_ok S (c_X7_dayGoes l D cI cS o hc85) yf_X7_dayGoes wd26_9 ⟨Nat.le_of_ble_eq_true rfl, Nat.le_of_ble_eq_true rfl⟩ hK hSt hA hP hD hS 0 rfl rfl rfl hl.1 rfl (Nat.le_of_ble_eq_true rfl) dX7_loose_85 (Nat.zero_le _) (Nat.zero_le _) (fun H locs hP hD hS => ?_)
                  obtain ⟨l2_20, el2_20, h⟩ := nmA_s h
                  refine lv_iinc (v := l2_20) (lv' := [(2, .int l2_20), (0, .ref (o 0)), (1, .int p0)]) hx hb dX7_loose_88 hl (k := 2) rfl (by rw [el2_20]; exact congrArg _ (by decide)) (by decide) rfl (fun ls hl => ?_)
                  refine lv_goto (tgt := 41) hx hb dX7_loose_91 (by decide) ?_
                  exact ih v_d_17 v_names_18 v_pile_19 v_horn_15 v_brass_16 l2_20 h _ _ hP hD hS _ (lv_sub hl [1, 2, 0] rfl)
              refine x_if_le (tgt := 84) hx hb h dX7_loose_65 (by decide) (fun c65 h => ?_) (fun c65 h => ?_)
              · exact wJ84 v_d_12 v_horn_6 v_brass_7 h _ _ hP hD hS _ (lv_sub hl [0, 1, 2] rfl)
              · refine lv_aload_n hx hb dX7_loose_68 rfl (lv_at hl 0 rfl) ?_
                refine lv_aload_n hx hb dX7_loose_69 rfl (lv_at hl 0 rfl) ?_
                obtain ⟨v_d_21, r_22, hc70, h⟩ := bd2_s h
                refine x_selfVi (As := []) (rest := [.ref (o 0)]) St0_ok S (c_X7_drawn l D cI cS o hc70) yf_X7_drawn wd27_7 ⟨Nat.le_of_ble_eq_true rfl, Nat.le_of_ble_eq_true rfl⟩ hK hSt hA hP hD hS 0 rfl rfl rfl hl.1 rfl (Nat.le_of_ble_eq_true rfl) dX7_loose_70 (Nat.zero_le _) (Nat.zero_le _) (fun H locs hP hD hS => ?_)
                refine lv_aload_n hx hb dX7_loose_73 rfl (lv_at hl 0 rfl) ?_
                refine gt_X7_7 S hK hP 0 rfl rfl dX7_loose_74 ?_
                refine lv_iconst (v := 1) hx hb dX7_loose_77 (by decide) ?_
                refine x_ald hx hb hK hP 1 h rfl rfl dX7_loose_78 (fun x_23 ex_23 h => ?_)
                refine x_irem hx hb h dX7_loose_79 (fun h => ?_)
                obtain ⟨v_d_24, v_horn_25, v_brass_26, r_27, hc80, h⟩ := bd4_s h
                refine x_selfVi (As := [.int (rmI r_22 x_23)]) (rest := []) St0_ok S (c_X7_votes l D cI cS o hc80) yf_X7_votes wd24_9 ⟨Nat.le_of_ble_eq_true rfl, Nat.le_of_ble_eq_true rfl⟩ hK hSt hA hP hD hS 0 rfl rfl rfl hl.1 rfl (Nat.le_of_ble_eq_true rfl) dX7_loose_80 (Nat.zero_le _) (Nat.zero_le _) (fun H locs hP hD hS => ?_)
                refine lv_istore_n (lv' := [(3, .int r_27), (0, .ref (o 0)), (1, .int p0), (2, .int l2_8)]) hx hb dX7_loose_83 rfl hl (by decide) rfl (fun ls hl => ?_)
                exact wJ84 v_d_24 v_horn_25 v_brass_26 h _ _ hP hD hS _ (lv_sub hl [1, 2, 3] rfl)
      exact wf_X7_loose_L41 300 v_d v_names v_pile v_horn v_brass 0 h _ _ hP hD hS _ (lv_sub hl [1, 2, 0] rfl)
    · refine lv_aload_n hx hb dX7_loose_33 rfl (lv_at hl 0 rfl) ?_
      refine lv_iconst (v := 3) hx hb dX7_loose_34 (by decide) ?_
      obtain ⟨v_found_28, r_29, hc35, h⟩ := bd2_s h
      refine x_selfVi (As := [.int 3]) (rest := []) St0_ok S (c_X7_finds l D cI cS o hc35) yf_X7_finds wd6_10 ⟨Nat.le_of_ble_eq_true rfl, Nat.le_of_ble_eq_true rfl⟩ hK hSt hA hP hD hS 0 rfl rfl rfl hl.1 rfl (Nat.le_of_ble_eq_true rfl) dX7_loose_35 (Nat.zero_le _) (Nat.zero_le _) (fun H locs hP hD hS => ?_)
      cases h
      exact x_iret hx hb hr hlocks hK hP hD hS rfl rfl dX7_loose_38
  · refine lv_aload_n hx hb dX7_loose_12 rfl (lv_at hl 0 rfl) ?_
    refine lv_iconst (v := 1) hx hb dX7_loose_13 (by decide) ?_
    obtain ⟨v_found_30, r_31, hc14, h⟩ := bd2_s h
    refine x_selfVi (As := [.int 1]) (rest := []) St0_ok S (c_X7_finds l D cI cS o hc14) yf_X7_finds wd6_10 ⟨Nat.le_of_ble_eq_true rfl, Nat.le_of_ble_eq_true rfl⟩ hK hSt hA hP hD hS 0 rfl rfl rfl hl.1 rfl (Nat.le_of_ble_eq_true rfl) dX7_loose_14 (Nat.zero_le _) (Nat.zero_le _) (fun H locs hP hD hS => ?_)
    cases h
    exact x_iret hx hb hr hlocks hK hP hD hS rfl rfl dX7_loose_17

def f_X7_live  (v_d : Nat → Int32) (v_found : Nat → Int32) (v_aside : Nat → Int32) (v_names : Nat → Int32) (v_pile : Nat → Int32) (p0 : Int32) : Option ((Nat → Int32) × (Nat → Int32) × (Nat → Int32) × (Nat → Int32) × (Nat → Int32) × (Int32)) :=
  bd1 (f_X7_in (p0.toInt64) 0 60) (fun r_1 => (if r_1 = 0 then bd2 (f_X7_finds v_found 1) (fun v_found_8 r_9 => some (v_d, v_found_8, v_aside, v_names, v_pile, r_9)) else bd1 (f_X7_keepAside v_d v_aside) (fun v_aside_2 => bd3 (f_X7_daysGo v_d v_names v_pile p0) (fun v_d_3 v_names_4 v_pile_5 => bd1 (f_X7_aliveSet v_d_3) (fun r_6 => bd1 (f_X7_putBack v_d_3 v_aside_2) (fun v_d_7 => some (v_d_7, v_found, v_aside_2, v_names_4, v_pile_5, r_6)))))))
set_option maxHeartbeats 600000 in
set_option maxRecDepth 100000 in
theorem c_X7_live (l : Launch) (D : va_G) (cI cS : ClassId) (o : Nat → Nat) {v_d : Nat → Int32} {v_kept : Nat → Int32} {v_images : Int32} {v_found : Nat → Int32} {v_aside : Nat → Int32} {v_base : Int32} {v_at : Int32} {v_size : Int32} {v_fault : Int32} {v_opened : Int32} {v_isCold : Int32} {v_names : Nat → Int32} {v_code : Nat → Int32} {v_coded : Int32} {v_pile : Nat → Int32} {v_horn : Int32} {v_brass : Int32} {v_coldAhead : Nat → Int32} {v_which : Nat → Int32} {v_whichMany : Int32} {v_bestPass : Int32} {v_bestLive : Int32} {v_bestCode : Int32} {v_traced : Nat → Int32} {v_traceMany : Int32} {v_who : Int32} {v_bitsOf : Nat → Int32} {v_sizeOf : Nat → Int32} {v_number : Nat → Int32} {v_lifted : Nat → Int32} {p0 : Int32} {w_d : Nat → Int32} {w_found : Nat → Int32} {w_aside : Nat → Int32} {w_names : Nat → Int32} {w_pile : Nat → Int32} {r_out : Int32} (h : f_X7_live  v_d v_found v_aside v_names v_pile p0 = some (w_d, w_found, w_aside, w_names, w_pile, r_out)) : MetI l D (tysX cI cS) St0 yX7_live cX7_live 3 (some .int) 6 141 [.ref (o 0), .int p0] (pcX7 o cI v_d v_kept v_images v_found v_aside v_base v_at v_size v_fault v_opened v_isCold v_names v_code v_coded v_pile v_horn v_brass v_coldAhead v_which v_whichMany v_bestPass v_bestLive v_bestCode v_traced v_traceMany v_who v_bitsOf v_sizeOf v_number v_lifted) r_out (pcX7 o cI w_d v_kept v_images w_found w_aside v_base v_at v_size v_fault v_opened v_isCold w_names v_code v_coded w_pile v_horn v_brass v_coldAhead v_which v_whichMany v_bestPass v_bestLive v_bestCode v_traced v_traceMany v_who v_bitsOf v_sizeOf v_number v_lifted) := by
  refine Ent.metI (by decide +kernel) (Nat.le_of_ble_eq_true rfl) ?_
  intro p e s m args below meth c A ls hx hb hr hml hown hts hlocks hA hK hSt hP hD hS hl
  have hown : s.vm.findClass RX7 = some m.cls := hown
  have S : XFix p m c cX7_live 3 s args RX7 := ⟨hx, hb, hml, hown, hts⟩
  have hl : lv_has ls 3 [(0, .ref (o 0)), (1, .int p0)] := hl
  unfold f_X7_live at h
  refine lv_iload_n hx hb dX7_live_0 rfl (lv_at hl 1 rfl) ?_
  refine lv_i2l (v := (p0.toInt64)) hx hb dX7_live_1 rfl ?_
  refine lv_lconst (v := 0) hx hb dX7_live_2 (by decide) ?_
  refine lv_ldc2 (v := 60) hx hb hown (hts _ wd26_4) dX7_live_3 ?_
  obtain ⟨r_1, hc6, h⟩ := bd1_s h
  refine x_statI (As := [.long (p0.toInt64), .long 0, .long 60]) (rest := []) St0_ok S (c_X7_in l D cI cS o hc6) ys_X7_in wd6_7 ⟨Nat.le_of_ble_eq_true rfl, Nat.le_of_ble_eq_true rfl⟩ hK hSt hA hP hD hS rfl hl.1 rfl (Nat.le_of_ble_eq_true rfl) dX7_live_6 (Nat.zero_le _) (Nat.zero_le _) (fun H locs hP hD hS => ?_)
  refine x_if_ne (tgt := 18) hx hb h dX7_live_9 (by decide) (fun c9 h => ?_) (fun c9 h => ?_)
  · refine lv_aload_n hx hb dX7_live_18 rfl (lv_at hl 0 rfl) ?_
    obtain ⟨v_aside_2, hc19, h⟩ := bd1_s h
    refine x_selfVv (As := []) (rest := []) St0_ok S (c_X7_keepAside l D cI cS o hc19) yf_X7_keepAside wd28_9 ⟨Nat.le_of_ble_eq_true rfl, Nat.le_of_ble_eq_true rfl⟩ hK hSt hA hP hD hS 0 rfl rfl rfl hl.1 rfl (Nat.le_of_ble_eq_true rfl) dX7_live_19 (Nat.zero_le _) (Nat.zero_le _) (fun H locs hP hD hS => ?_)
    refine lv_aload_n hx hb dX7_live_22 rfl (lv_at hl 0 rfl) ?_
    refine lv_iload_n hx hb dX7_live_23 rfl (lv_at hl 1 rfl) ?_
    obtain ⟨v_d_3, v_names_4, v_pile_5, hc24, h⟩ := bd3_s h
    refine x_selfVv (As := [.int p0]) (rest := []) St0_ok S (c_X7_daysGo l D cI cS o hc24) yf_X7_daysGo wd26_5 ⟨Nat.le_of_ble_eq_true rfl, Nat.le_of_ble_eq_true rfl⟩ hK hSt hA hP hD hS 0 rfl rfl rfl hl.1 rfl (Nat.le_of_ble_eq_true rfl) dX7_live_24 (Nat.zero_le _) (Nat.zero_le _) (fun H locs hP hD hS => ?_)
    refine lv_aload_n hx hb dX7_live_27 rfl (lv_at hl 0 rfl) ?_
    obtain ⟨r_6, hc28, h⟩ := bd1_s h
    refine x_selfVi (As := []) (rest := []) St0_ok S (c_X7_aliveSet l D cI cS o hc28) yf_X7_aliveSet wd28_13 ⟨Nat.le_of_ble_eq_true rfl, Nat.le_of_ble_eq_true rfl⟩ hK hSt hA hP hD hS 0 rfl rfl rfl hl.1 rfl (Nat.le_of_ble_eq_true rfl) dX7_live_28 (Nat.zero_le _) (Nat.zero_le _) (fun H locs hP hD hS => ?_)
    refine lv_istore_n (lv' := [(2, .int r_6), (0, .ref (o 0)), (1, .int p0)]) hx hb dX7_live_31 rfl hl (by decide) rfl (fun ls hl => ?_)
    refine lv_aload_n hx hb dX7_live_32 rfl (lv_at hl 1 rfl) ?_
    obtain ⟨v_d_7, hc33, h⟩ := bd1_s h
    refine x_selfVv (As := []) (rest := []) St0_ok S (c_X7_putBack l D cI cS o hc33) yf_X7_putBack wd28_17 ⟨Nat.le_of_ble_eq_true rfl, Nat.le_of_ble_eq_true rfl⟩ hK hSt hA hP hD hS 0 rfl rfl rfl hl.1 rfl (Nat.le_of_ble_eq_true rfl) dX7_live_33 (Nat.zero_le _) (Nat.zero_le _) (fun H locs hP hD hS => ?_)
    refine lv_iload_n hx hb dX7_live_36 rfl (lv_at hl 0 rfl) ?_
    cases h
    exact x_iret hx hb hr hlocks hK hP hD hS rfl rfl dX7_live_37
  · refine lv_aload_n hx hb dX7_live_12 rfl (lv_at hl 0 rfl) ?_
    refine lv_iconst (v := 1) hx hb dX7_live_13 (by decide) ?_
    obtain ⟨v_found_8, r_9, hc14, h⟩ := bd2_s h
    refine x_selfVi (As := [.int 1]) (rest := []) St0_ok S (c_X7_finds l D cI cS o hc14) yf_X7_finds wd6_10 ⟨Nat.le_of_ble_eq_true rfl, Nat.le_of_ble_eq_true rfl⟩ hK hSt hA hP hD hS 0 rfl rfl rfl hl.1 rfl (Nat.le_of_ble_eq_true rfl) dX7_live_14 (Nat.zero_le _) (Nat.zero_le _) (fun H locs hP hD hS => ?_)
    cases h
    exact x_iret hx hb hr hlocks hK hP hD hS rfl rfl dX7_live_17

def f_X7_freezes_L20 (p0 : Int32) (J44 : (Nat → Int32) → (Nat → Int32) → (Nat → Int32) → Int32 → Option ((Nat → Int32) × (Nat → Int32) × (Nat → Int32) × (Nat → Int32) × (Nat → Int32) × (Int32))) : Nat → (Nat → Int32) → (Nat → Int32) → (Nat → Int32) → Int32 → Option ((Nat → Int32) × (Nat → Int32) × (Nat → Int32) × (Nat → Int32) × (Nat → Int32) × (Int32))
  | 0, _, _, _, _ => none
  | k_n + 1, v_d_10, v_names_11, v_pile_12, l2_13 => (if 60 < l2_13 then J44 v_d_10 v_names_11 v_pile_12 l2_13 else bd1 (f_X7_isDead v_d_10 p0) (fun r_14 => (if r_14 = 0 then bd3 (f_X7_dayGoes v_d_10 v_names_11 v_pile_12) (fun v_d_15 v_names_16 v_pile_17 => nmA (l2_13 + 1) (fun l2_18 => f_X7_freezes_L20 p0 J44 k_n v_d_15 v_names_16 v_pile_17 l2_18)) else J44 v_d_10 v_names_11 v_pile_12 l2_13)))
def f_X7_freezes  (v_d : Nat → Int32) (v_found : Nat → Int32) (v_aside : Nat → Int32) (v_names : Nat → Int32) (v_pile : Nat → Int32) (p0 : Int32) : Option ((Nat → Int32) × (Nat → Int32) × (Nat → Int32) × (Nat → Int32) × (Nat → Int32) × (Int32)) :=
  bd1 (f_X7_isPerson v_d p0) (fun r_1 => (if r_1 = 0 then bd2 (f_X7_finds v_found 1) (fun v_found_19 r_20 => some (v_d, v_found_19, v_aside, v_names, v_pile, r_20)) else bd1 (f_X7_keepAside v_d v_aside) (fun v_aside_2 => jnA (fun (v_d_3 : Nat → Int32) (v_names_4 : Nat → Int32) (v_pile_5 : Nat → Int32) (l2_6 : Int32) => bd1 (f_X7_putBack v_d_3 v_aside_2) (fun v_d_7 => (if l2_6 ≤ 60 then some (v_d_7, v_found, v_aside_2, v_names_4, v_pile_5, l2_6) else bd2 (f_X7_finds v_found 2) (fun v_found_8 r_9 => some (v_d_7, v_found_8, v_aside_2, v_names_4, v_pile_5, r_9))))) (fun J44 => f_X7_freezes_L20 p0 J44 300 v_d v_names v_pile 0))))
set_option maxHeartbeats 600000 in
set_option maxRecDepth 100000 in
theorem c_X7_freezes (l : Launch) (D : va_G) (cI cS : ClassId) (o : Nat → Nat) {v_d : Nat → Int32} {v_kept : Nat → Int32} {v_images : Int32} {v_found : Nat → Int32} {v_aside : Nat → Int32} {v_base : Int32} {v_at : Int32} {v_size : Int32} {v_fault : Int32} {v_opened : Int32} {v_isCold : Int32} {v_names : Nat → Int32} {v_code : Nat → Int32} {v_coded : Int32} {v_pile : Nat → Int32} {v_horn : Int32} {v_brass : Int32} {v_coldAhead : Nat → Int32} {v_which : Nat → Int32} {v_whichMany : Int32} {v_bestPass : Int32} {v_bestLive : Int32} {v_bestCode : Int32} {v_traced : Nat → Int32} {v_traceMany : Int32} {v_who : Int32} {v_bitsOf : Nat → Int32} {v_sizeOf : Nat → Int32} {v_number : Nat → Int32} {v_lifted : Nat → Int32} {p0 : Int32} {w_d : Nat → Int32} {w_found : Nat → Int32} {w_aside : Nat → Int32} {w_names : Nat → Int32} {w_pile : Nat → Int32} {r_out : Int32} (h : f_X7_freezes  v_d v_found v_aside v_names v_pile p0 = some (w_d, w_found, w_aside, w_names, w_pile, r_out)) : MetI l D (tysX cI cS) St0 yX7_freezes cX7_freezes 3 (some .int) 5 119 [.ref (o 0), .int p0] (pcX7 o cI v_d v_kept v_images v_found v_aside v_base v_at v_size v_fault v_opened v_isCold v_names v_code v_coded v_pile v_horn v_brass v_coldAhead v_which v_whichMany v_bestPass v_bestLive v_bestCode v_traced v_traceMany v_who v_bitsOf v_sizeOf v_number v_lifted) r_out (pcX7 o cI w_d v_kept v_images w_found w_aside v_base v_at v_size v_fault v_opened v_isCold w_names v_code v_coded w_pile v_horn v_brass v_coldAhead v_which v_whichMany v_bestPass v_bestLive v_bestCode v_traced v_traceMany v_who v_bitsOf v_sizeOf v_number v_lifted) := by
  refine Ent.metI (by decide +kernel) (Nat.le_of_ble_eq_true rfl) ?_
  intro p e s m args below meth c A ls hx hb hr hml hown hts hlocks hA hK hSt hP hD hS hl
  have hown : s.vm.findClass RX7 = some m.cls := hown
  have S : XFix p m c cX7_freezes 3 s args RX7 := ⟨hx, hb, hml, hown, hts⟩
  have hl : lv_has ls 3 [(0, .ref (o 0)), (1, .int p0)] := hl
  unfold f_X7_freezes at h
  refine lv_aload_n hx hb dX7_freezes_0 rfl (lv_at hl 0 rfl) ?_
  refine lv_iload_n hx hb dX7_freezes_1 rfl (lv_at hl 1 rfl) ?_
  obtain ⟨r_1, hc2, h⟩ := bd1_s h
  refine x_selfVi (As := [.int p0]) (rest := []) St0_ok S (c_X7_isPerson l D cI cS o hc2) yf_X7_isPerson wd10_3 ⟨Nat.le_of_ble_eq_true rfl, Nat.le_of_ble_eq_true rfl⟩ hK hSt hA hP hD hS 0 rfl rfl rfl hl.1 rfl (Nat.le_of_ble_eq_true rfl) dX7_freezes_2 (Nat.zero_le _) (Nat.zero_le _) (fun H locs hP hD hS => ?_)
  refine x_if_ne (tgt := 14) hx hb h dX7_freezes_5 (by decide) (fun c5 h => ?_) (fun c5 h => ?_)
  · refine lv_aload_n hx hb dX7_freezes_14 rfl (lv_at hl 0 rfl) ?_
    obtain ⟨v_aside_2, hc15, h⟩ := bd1_s h
    refine x_selfVv (As := []) (rest := []) St0_ok S (c_X7_keepAside l D cI cS o hc15) yf_X7_keepAside wd28_9 ⟨Nat.le_of_ble_eq_true rfl, Nat.le_of_ble_eq_true rfl⟩ hK hSt hA hP hD hS 0 rfl rfl rfl hl.1 rfl (Nat.le_of_ble_eq_true rfl) dX7_freezes_15 (Nat.zero_le _) (Nat.zero_le _) (fun H locs hP hD hS => ?_)
    refine lv_iconst (v := 0) hx hb dX7_freezes_18 (by decide) ?_
    refine lv_istore_n (lv' := [(2, .int 0), (0, .ref (o 0)), (1, .int p0)]) hx hb dX7_freezes_19 rfl hl (by decide) rfl (fun ls hl => ?_)
    obtain ⟨J44, eJ44, h⟩ := jnA_s h
    have wJ44 : ∀ (v_d_3 : Nat → Int32) (v_names_4 : Nat → Int32) (v_pile_5 : Nat → Int32) (l2_6 : Int32), J44 v_d_3 v_names_4 v_pile_5 l2_6 = some (w_d, w_found, w_aside, w_names, w_pile, r_out) → ∀ (H : Heap) (locs : List Loc), va_P D vwCl (pcX7 o cI v_d_3 v_kept v_images v_found v_aside_2 v_base v_at v_size v_fault v_opened v_isCold v_names_4 v_code v_coded v_pile_5 v_horn v_brass v_coldAhead v_which v_whichMany v_bestPass v_bestLive v_bestCode v_traced v_traceMany v_who v_bitsOf v_sizeOf v_number v_lifted) H → va_D A (pcX7 o cI v_d_3 v_kept v_images v_found v_aside_2 v_base v_at v_size v_fault v_opened v_isCold v_names_4 v_code v_coded v_pile_5 v_horn v_brass v_coldAhead v_which v_whichMany v_bestPass v_bestLive v_bestCode v_traced v_traceMany v_who v_bitsOf v_sizeOf v_number v_lifted) → va_S A s.heap H locs → ∀ ls : Array Slot, lv_has ls 3 [(0, .ref (o 0)), (2, .int l2_6)] → WI p l e 5 119 s m args below meth c D (tysX cI cS) A r_out (pcX7 o cI w_d v_kept v_images w_found w_aside v_base v_at v_size v_fault v_opened v_isCold w_names v_code v_coded w_pile v_horn v_brass v_coldAhead v_which v_whichMany v_bestPass v_bestLive v_bestCode v_traced v_traceMany v_who v_bitsOf v_sizeOf v_number v_lifted) H locs (F0 m 44 ls []) := by
        intro v_d_3 v_names_4 v_pile_5 l2_6 h H locs hP hD hS ls hl
        subst eJ44
        dsimp only at h
        refine lv_aload_n hx hb dX7_freezes_44 rfl (lv_at hl 0 rfl) ?_
        obtain ⟨v_d_7, hc45, h⟩ := bd1_s h
        refine x_selfVv (As := []) (rest := []) St0_ok S (c_X7_putBack l D cI cS o hc45) yf_X7_putBack wd28_17 ⟨Nat.le_of_ble_eq_true rfl, Nat.le_of_ble_eq_true rfl⟩ hK hSt hA hP hD hS 0 rfl rfl rfl hl.1 rfl (Nat.le_of_ble_eq_true rfl) dX7_freezes_45 (Nat.zero_le _) (Nat.zero_le _) (fun H locs hP hD hS => ?_)
        refine lv_iload_n hx hb dX7_freezes_48 rfl (lv_at hl 1 rfl) ?_
        refine lv_bipush (v := 60) hx hb dX7_freezes_49 (by decide) ?_
        refine x_icmp_le (tgt := 62) hx hb h dX7_freezes_51 (by decide) (fun c51 h => ?_) (fun c51 h => ?_)
        · refine lv_iload_n hx hb dX7_freezes_62 rfl (lv_at hl 1 rfl) ?_
          cases h
          exact x_iret hx hb hr hlocks hK hP hD hS rfl rfl dX7_freezes_63
        · refine lv_aload_n hx hb dX7_freezes_54 rfl (lv_at hl 0 rfl) ?_
          refine lv_iconst (v := 2) hx hb dX7_freezes_55 (by decide) ?_
          obtain ⟨v_found_8, r_9, hc56, h⟩ := bd2_s h
          refine x_selfVi (As := [.int 2]) (rest := []) St0_ok S (c_X7_finds l D cI cS o hc56) yf_X7_finds wd6_10 ⟨Nat.le_of_ble_eq_true rfl, Nat.le_of_ble_eq_true rfl⟩ hK hSt hA hP hD hS 0 rfl rfl rfl hl.1 rfl (Nat.le_of_ble_eq_true rfl) dX7_freezes_56 (Nat.zero_le _) (Nat.zero_le _) (fun H locs hP hD hS => ?_)
          refine lv_goto (tgt := 63) hx hb dX7_freezes_59 (by decide) ?_
          cases h
          exact x_iret hx hb hr hlocks hK hP hD hS rfl rfl dX7_freezes_63
    have wf_X7_freezes_L20 : ∀ (k_n : Nat) (v_d_10 : Nat → Int32) (v_names_11 : Nat → Int32) (v_pile_12 : Nat → Int32) (l2_13 : Int32), f_X7_freezes_L20 p0 J44 k_n v_d_10 v_names_11 v_pile_12 l2_13 = some (w_d, w_found, w_aside, w_names, w_pile, r_out) → ∀ (H : Heap) (locs : List Loc), va_P D vwCl (pcX7 o cI v_d_10 v_kept v_images v_found v_aside_2 v_base v_at v_size v_fault v_opened v_isCold v_names_11 v_code v_coded v_pile_12 v_horn v_brass v_coldAhead v_which v_whichMany v_bestPass v_bestLive v_bestCode v_traced v_traceMany v_who v_bitsOf v_sizeOf v_number v_lifted) H → va_D A (pcX7 o cI v_d_10 v_kept v_images v_found v_aside_2 v_base v_at v_size v_fault v_opened v_isCold v_names_11 v_code v_coded v_pile_12 v_horn v_brass v_coldAhead v_which v_whichMany v_bestPass v_bestLive v_bestCode v_traced v_traceMany v_who v_bitsOf v_sizeOf v_number v_lifted) → va_S A s.heap H locs → ∀ ls : Array Slot, lv_has ls 3 [(0, .ref (o 0)), (1, .int p0), (2, .int l2_13)] → WI p l e 5 119 s m args below meth c D (tysX cI cS) A r_out (pcX7 o cI w_d v_kept v_images w_found w_aside v_base v_at v_size v_fault v_opened v_isCold w_names v_code v_coded w_pile v_horn v_brass v_coldAhead v_which v_whichMany v_bestPass v_bestLive v_bestCode v_traced v_traceMany v_who v_bitsOf v_sizeOf v_number v_lifted) H locs (F0 m 20 ls []) := by
        intro k_n
        induction k_n with
        | zero => intro v_d_10 v_names_11 v_pile_12 l2_13 h; rw [f_X7_freezes_L20] at h; cases h
        | succ k_n ih =>
          intro v_d_10 v_names_11 v_pile_12 l2_13 h H locs hP hD hS ls hl
          rw [f_X7_freezes_L20] at h
          refine lv_iload_n hx hb dX7_freezes_20 rfl (lv_at hl 2 rfl) ?_
          refine lv_bipush (v := 60) hx hb dX7_freezes_21 (by decide) ?_
          refine x_icmp_gt (tgt := 44) hx hb h dX7_freezes_23 (by decide) (fun c23 h => ?_) (fun c23 h => ?_)
          · exact wJ44 v_d_10 v_names_11 v_pile_12 l2_13 h _ _ hP hD hS _ (lv_sub hl [0, 2] rfl)
          · refine lv_aload_n hx hb dX7_freezes_26 rfl (lv_at hl 0 rfl) ?_
            refine lv_iload_n hx hb dX7_freezes_27 rfl (lv_at hl 1 rfl) ?_
            obtain ⟨r_14, hc28, h⟩ := bd1_s h
            refine x_selfVi (As := [.int p0]) (rest := []) St0_ok S (c_X7_isDead l D cI cS o hc28) yf_X7_isDead wd10_15 ⟨Nat.le_of_ble_eq_true rfl, Nat.le_of_ble_eq_true rfl⟩ hK hSt hA hP hD hS 0 rfl rfl rfl hl.1 rfl (Nat.le_of_ble_eq_true rfl) dX7_freezes_28 (Nat.zero_le _) (Nat.zero_le _) (fun H locs hP hD hS => ?_)
            refine x_if_ne (tgt := 44) hx hb h dX7_freezes_31 (by decide) (fun c31 h => ?_) (fun c31 h => ?_)
            · exact wJ44 v_d_10 v_names_11 v_pile_12 l2_13 h _ _ hP hD hS _ (lv_sub hl [0, 2] rfl)
            · refine lv_aload_n hx hb dX7_freezes_34 rfl (lv_at hl 0 rfl) ?_
              obtain ⟨v_d_15, v_names_16, v_pile_17, hc35, h⟩ := bd3_s h
              refine x_selfVv (As := []) (rest := []) St0_ok S (c_X7_dayGoes l D cI cS o hc35) yf_X7_dayGoes wd26_9 ⟨Nat.le_of_ble_eq_true rfl, Nat.le_of_ble_eq_true rfl⟩ hK hSt hA hP hD hS 0 rfl rfl rfl hl.1 rfl (Nat.le_of_ble_eq_true rfl) dX7_freezes_35 (Nat.zero_le _) (Nat.zero_le _) (fun H locs hP hD hS => ?_)
              obtain ⟨l2_18, el2_18, h⟩ := nmA_s h
              refine lv_iinc (v := l2_18) (lv' := [(2, .int l2_18), (0, .ref (o 0)), (1, .int p0)]) hx hb dX7_freezes_38 hl (k := 2) rfl (by rw [el2_18]; exact congrArg _ (by decide)) (by decide) rfl (fun ls hl => ?_)
              refine lv_goto (tgt := 20) hx hb dX7_freezes_41 (by decide) ?_
              exact ih v_d_15 v_names_16 v_pile_17 l2_18 h _ _ hP hD hS _ (lv_sub hl [1, 2, 0] rfl)
    exact wf_X7_freezes_L20 300 v_d v_names v_pile 0 h _ _ hP hD hS _ (lv_sub hl [1, 2, 0] rfl)
  · refine lv_aload_n hx hb dX7_freezes_8 rfl (lv_at hl 0 rfl) ?_
    refine lv_iconst (v := 1) hx hb dX7_freezes_9 (by decide) ?_
    obtain ⟨v_found_19, r_20, hc10, h⟩ := bd2_s h
    refine x_selfVi (As := [.int 1]) (rest := []) St0_ok S (c_X7_finds l D cI cS o hc10) yf_X7_finds wd6_10 ⟨Nat.le_of_ble_eq_true rfl, Nat.le_of_ble_eq_true rfl⟩ hK hSt hA hP hD hS 0 rfl rfl rfl hl.1 rfl (Nat.le_of_ble_eq_true rfl) dX7_freezes_10 (Nat.zero_le _) (Nat.zero_le _) (fun H locs hP hD hS => ?_)
    cases h
    exact x_iret hx hb hr hlocks hK hP hD hS rfl rfl dX7_freezes_13

def f_X7_firstDay_L20 (p0 : Int32) (J44 : (Nat → Int32) → (Nat → Int32) → (Nat → Int32) → Int32 → Int32 → Int32 → Option ((Nat → Int32) × (Nat → Int32) × (Nat → Int32) × (Nat → Int32) × (Nat → Int32) × (Int32) × (Int32) × (Int32))) : Nat → (Nat → Int32) → (Nat → Int32) → (Nat → Int32) → Int32 → Int32 → Int32 → Option ((Nat → Int32) × (Nat → Int32) × (Nat → Int32) × (Nat → Int32) × (Nat → Int32) × (Int32) × (Int32) × (Int32))
  | 0, _, _, _, _, _, _ => none
  | k_n + 1, v_d_12, v_names_13, v_pile_14, v_horn_15, v_brass_16, l2_17 => (if 60 < l2_17 then J44 v_d_12 v_names_13 v_pile_14 v_horn_15 v_brass_16 l2_17 else bd3 (f_X7_wouldPass v_d_12 v_horn_15 v_brass_16 p0) (fun v_horn_18 v_brass_19 r_20 => (if r_20 = 0 then bd3 (f_X7_dayGoes v_d_12 v_names_13 v_pile_14) (fun v_d_21 v_names_22 v_pile_23 => nmA (l2_17 + 1) (fun l2_24 => f_X7_firstDay_L20 p0 J44 k_n v_d_21 v_names_22 v_pile_23 v_horn_18 v_brass_19 l2_24)) else J44 v_d_12 v_names_13 v_pile_14 v_horn_18 v_brass_19 l2_17)))
def f_X7_firstDay  (v_d : Nat → Int32) (v_found : Nat → Int32) (v_aside : Nat → Int32) (v_names : Nat → Int32) (v_pile : Nat → Int32) (v_horn : Int32) (v_brass : Int32) (p0 : Int32) : Option ((Nat → Int32) × (Nat → Int32) × (Nat → Int32) × (Nat → Int32) × (Nat → Int32) × (Int32) × (Int32) × (Int32)) :=
  bd1 (f_X7_isMotion v_d p0) (fun r_1 => (if r_1 = 0 then bd2 (f_X7_finds v_found 1) (fun v_found_25 r_26 => some (v_d, v_found_25, v_aside, v_names, v_pile, v_horn, v_brass, r_26)) else bd1 (f_X7_keepAside v_d v_aside) (fun v_aside_2 => jnA (fun (v_d_3 : Nat → Int32) (v_names_4 : Nat → Int32) (v_pile_5 : Nat → Int32) (v_horn_6 : Int32) (v_brass_7 : Int32) (l2_8 : Int32) => bd1 (f_X7_putBack v_d_3 v_aside_2) (fun v_d_9 => (if l2_8 ≤ 60 then some (v_d_9, v_found, v_aside_2, v_names_4, v_pile_5, v_horn_6, v_brass_7, l2_8) else bd2 (f_X7_finds v_found 2) (fun v_found_10 r_11 => some (v_d_9, v_found_10, v_aside_2, v_names_4, v_pile_5, v_horn_6, v_brass_7, r_11))))) (fun J44 => f_X7_firstDay_L20 p0 J44 300 v_d v_names v_pile v_horn v_brass 0))))
set_option maxHeartbeats 600000 in
set_option maxRecDepth 100000 in
theorem c_X7_firstDay (l : Launch) (D : va_G) (cI cS : ClassId) (o : Nat → Nat) {v_d : Nat → Int32} {v_kept : Nat → Int32} {v_images : Int32} {v_found : Nat → Int32} {v_aside : Nat → Int32} {v_base : Int32} {v_at : Int32} {v_size : Int32} {v_fault : Int32} {v_opened : Int32} {v_isCold : Int32} {v_names : Nat → Int32} {v_code : Nat → Int32} {v_coded : Int32} {v_pile : Nat → Int32} {v_horn : Int32} {v_brass : Int32} {v_coldAhead : Nat → Int32} {v_which : Nat → Int32} {v_whichMany : Int32} {v_bestPass : Int32} {v_bestLive : Int32} {v_bestCode : Int32} {v_traced : Nat → Int32} {v_traceMany : Int32} {v_who : Int32} {v_bitsOf : Nat → Int32} {v_sizeOf : Nat → Int32} {v_number : Nat → Int32} {v_lifted : Nat → Int32} {p0 : Int32} {w_d : Nat → Int32} {w_found : Nat → Int32} {w_aside : Nat → Int32} {w_names : Nat → Int32} {w_pile : Nat → Int32} {w_horn : Int32} {w_brass : Int32} {r_out : Int32} (h : f_X7_firstDay  v_d v_found v_aside v_names v_pile v_horn v_brass p0 = some (w_d, w_found, w_aside, w_names, w_pile, w_horn, w_brass, r_out)) : MetI l D (tysX cI cS) St0 yX7_firstDay cX7_firstDay 3 (some .int) 7 156 [.ref (o 0), .int p0] (pcX7 o cI v_d v_kept v_images v_found v_aside v_base v_at v_size v_fault v_opened v_isCold v_names v_code v_coded v_pile v_horn v_brass v_coldAhead v_which v_whichMany v_bestPass v_bestLive v_bestCode v_traced v_traceMany v_who v_bitsOf v_sizeOf v_number v_lifted) r_out (pcX7 o cI w_d v_kept v_images w_found w_aside v_base v_at v_size v_fault v_opened v_isCold w_names v_code v_coded w_pile w_horn w_brass v_coldAhead v_which v_whichMany v_bestPass v_bestLive v_bestCode v_traced v_traceMany v_who v_bitsOf v_sizeOf v_number v_lifted) := by
  refine Ent.metI (by decide +kernel) (Nat.le_of_ble_eq_true rfl) ?_
  intro p e s m args below meth c A ls hx hb hr hml hown hts hlocks hA hK hSt hP hD hS hl
  have hown : s.vm.findClass RX7 = some m.cls := hown
  have S : XFix p m c cX7_firstDay 3 s args RX7 := ⟨hx, hb, hml, hown, hts⟩
  have hl : lv_has ls 3 [(0, .ref (o 0)), (1, .int p0)] := hl
  unfold f_X7_firstDay at h
  refine lv_aload_n hx hb dX7_firstDay_0 rfl (lv_at hl 0 rfl) ?_
  refine lv_iload_n hx hb dX7_firstDay_1 rfl (lv_at hl 1 rfl) ?_
  obtain ⟨r_1, hc2, h⟩ := bd1_s h
  refine x_selfVi (As := [.int p0]) (rest := []) St0_ok S (c_X7_isMotion l D cI cS o hc2) yf_X7_isMotion wd15_22 ⟨Nat.le_of_ble_eq_true rfl, Nat.le_of_ble_eq_true rfl⟩ hK hSt hA hP hD hS 0 rfl rfl rfl hl.1 rfl (Nat.le_of_ble_eq_true rfl) dX7_firstDay_2 (Nat.zero_le _) (Nat.zero_le _) (fun H locs hP hD hS => ?_)
  refine x_if_ne (tgt := 14) hx hb h dX7_firstDay_5 (by decide) (fun c5 h => ?_) (fun c5 h => ?_)
  · refine lv_aload_n hx hb dX7_firstDay_14 rfl (lv_at hl 0 rfl) ?_
    obtain ⟨v_aside_2, hc15, h⟩ := bd1_s h
    refine x_selfVv (As := []) (rest := []) St0_ok S (c_X7_keepAside l D cI cS o hc15) yf_X7_keepAside wd28_9 ⟨Nat.le_of_ble_eq_true rfl, Nat.le_of_ble_eq_true rfl⟩ hK hSt hA hP hD hS 0 rfl rfl rfl hl.1 rfl (Nat.le_of_ble_eq_true rfl) dX7_firstDay_15 (Nat.zero_le _) (Nat.zero_le _) (fun H locs hP hD hS => ?_)
    refine lv_iconst (v := 0) hx hb dX7_firstDay_18 (by decide) ?_
    refine lv_istore_n (lv' := [(2, .int 0), (0, .ref (o 0)), (1, .int p0)]) hx hb dX7_firstDay_19 rfl hl (by decide) rfl (fun ls hl => ?_)
    obtain ⟨J44, eJ44, h⟩ := jnA_s h
    have wJ44 : ∀ (v_d_3 : Nat → Int32) (v_names_4 : Nat → Int32) (v_pile_5 : Nat → Int32) (v_horn_6 : Int32) (v_brass_7 : Int32) (l2_8 : Int32), J44 v_d_3 v_names_4 v_pile_5 v_horn_6 v_brass_7 l2_8 = some (w_d, w_found, w_aside, w_names, w_pile, w_horn, w_brass, r_out) → ∀ (H : Heap) (locs : List Loc), va_P D vwCl (pcX7 o cI v_d_3 v_kept v_images v_found v_aside_2 v_base v_at v_size v_fault v_opened v_isCold v_names_4 v_code v_coded v_pile_5 v_horn_6 v_brass_7 v_coldAhead v_which v_whichMany v_bestPass v_bestLive v_bestCode v_traced v_traceMany v_who v_bitsOf v_sizeOf v_number v_lifted) H → va_D A (pcX7 o cI v_d_3 v_kept v_images v_found v_aside_2 v_base v_at v_size v_fault v_opened v_isCold v_names_4 v_code v_coded v_pile_5 v_horn_6 v_brass_7 v_coldAhead v_which v_whichMany v_bestPass v_bestLive v_bestCode v_traced v_traceMany v_who v_bitsOf v_sizeOf v_number v_lifted) → va_S A s.heap H locs → ∀ ls : Array Slot, lv_has ls 3 [(0, .ref (o 0)), (2, .int l2_8)] → WI p l e 7 156 s m args below meth c D (tysX cI cS) A r_out (pcX7 o cI w_d v_kept v_images w_found w_aside v_base v_at v_size v_fault v_opened v_isCold w_names v_code v_coded w_pile w_horn w_brass v_coldAhead v_which v_whichMany v_bestPass v_bestLive v_bestCode v_traced v_traceMany v_who v_bitsOf v_sizeOf v_number v_lifted) H locs (F0 m 44 ls []) := by
        intro v_d_3 v_names_4 v_pile_5 v_horn_6 v_brass_7 l2_8 h H locs hP hD hS ls hl
        subst eJ44
        dsimp only at h
        refine lv_aload_n hx hb dX7_firstDay_44 rfl (lv_at hl 0 rfl) ?_
        obtain ⟨v_d_9, hc45, h⟩ := bd1_s h
        refine x_selfVv (As := []) (rest := []) St0_ok S (c_X7_putBack l D cI cS o hc45) yf_X7_putBack wd28_17 ⟨Nat.le_of_ble_eq_true rfl, Nat.le_of_ble_eq_true rfl⟩ hK hSt hA hP hD hS 0 rfl rfl rfl hl.1 rfl (Nat.le_of_ble_eq_true rfl) dX7_firstDay_45 (Nat.zero_le _) (Nat.zero_le _) (fun H locs hP hD hS => ?_)
        refine lv_iload_n hx hb dX7_firstDay_48 rfl (lv_at hl 1 rfl) ?_
        refine lv_bipush (v := 60) hx hb dX7_firstDay_49 (by decide) ?_
        refine x_icmp_le (tgt := 62) hx hb h dX7_firstDay_51 (by decide) (fun c51 h => ?_) (fun c51 h => ?_)
        · refine lv_iload_n hx hb dX7_firstDay_62 rfl (lv_at hl 1 rfl) ?_
          cases h
          exact x_iret hx hb hr hlocks hK hP hD hS rfl rfl dX7_firstDay_63
        · refine lv_aload_n hx hb dX7_firstDay_54 rfl (lv_at hl 0 rfl) ?_
          refine lv_iconst (v := 2) hx hb dX7_firstDay_55 (by decide) ?_
          obtain ⟨v_found_10, r_11, hc56, h⟩ := bd2_s h
          refine x_selfVi (As := [.int 2]) (rest := []) St0_ok S (c_X7_finds l D cI cS o hc56) yf_X7_finds wd6_10 ⟨Nat.le_of_ble_eq_true rfl, Nat.le_of_ble_eq_true rfl⟩ hK hSt hA hP hD hS 0 rfl rfl rfl hl.1 rfl (Nat.le_of_ble_eq_true rfl) dX7_firstDay_56 (Nat.zero_le _) (Nat.zero_le _) (fun H locs hP hD hS => ?_)
          refine lv_goto (tgt := 63) hx hb dX7_firstDay_59 (by decide) ?_
          cases h
          exact x_iret hx hb hr hlocks hK hP hD hS rfl rfl dX7_firstDay_63
    have wf_X7_firstDay_L20 : ∀ (k_n : Nat) (v_d_12 : Nat → Int32) (v_names_13 : Nat → Int32) (v_pile_14 : Nat → Int32) (v_horn_15 : Int32) (v_brass_16 : Int32) (l2_17 : Int32), f_X7_firstDay_L20 p0 J44 k_n v_d_12 v_names_13 v_pile_14 v_horn_15 v_brass_16 l2_17 = some (w_d, w_found, w_aside, w_names, w_pile, w_horn, w_brass, r_out) → ∀ (H : Heap) (locs : List Loc), va_P D vwCl (pcX7 o cI v_d_12 v_kept v_images v_found v_aside_2 v_base v_at v_size v_fault v_opened v_isCold v_names_13 v_code v_coded v_pile_14 v_horn_15 v_brass_16 v_coldAhead v_which v_whichMany v_bestPass v_bestLive v_bestCode v_traced v_traceMany v_who v_bitsOf v_sizeOf v_number v_lifted) H → va_D A (pcX7 o cI v_d_12 v_kept v_images v_found v_aside_2 v_base v_at v_size v_fault v_opened v_isCold v_names_13 v_code v_coded v_pile_14 v_horn_15 v_brass_16 v_coldAhead v_which v_whichMany v_bestPass v_bestLive v_bestCode v_traced v_traceMany v_who v_bitsOf v_sizeOf v_number v_lifted) → va_S A s.heap H locs → ∀ ls : Array Slot, lv_has ls 3 [(0, .ref (o 0)), (1, .int p0), (2, .int l2_17)] → WI p l e 7 156 s m args below meth c D (tysX cI cS) A r_out (pcX7 o cI w_d v_kept v_images w_found w_aside v_base v_at v_size v_fault v_opened v_isCold w_names v_code v_coded w_pile w_horn w_brass v_coldAhead v_which v_whichMany v_bestPass v_bestLive v_bestCode v_traced v_traceMany v_who v_bitsOf v_sizeOf v_number v_lifted) H locs (F0 m 20 ls []) := by
        intro k_n
        induction k_n with
        | zero => intro v_d_12 v_names_13 v_pile_14 v_horn_15 v_brass_16 l2_17 h; rw [f_X7_firstDay_L20] at h; cases h
        | succ k_n ih =>
          intro v_d_12 v_names_13 v_pile_14 v_horn_15 v_brass_16 l2_17 h H locs hP hD hS ls hl
          rw [f_X7_firstDay_L20] at h
          refine lv_iload_n hx hb dX7_firstDay_20 rfl (lv_at hl 2 rfl) ?_
          refine lv_bipush (v := 60) hx hb dX7_firstDay_21 (by decide) ?_
          refine x_icmp_gt (tgt := 44) hx hb h dX7_firstDay_23 (by decide) (fun c23 h => ?_) (fun c23 h => ?_)
          · exact wJ44 v_d_12 v_names_13 v_pile_14 v_horn_15 v_brass_16 l2_17 h _ _ hP hD hS _ (lv_sub hl [0, 2] rfl)
          · refine lv_aload_n hx hb dX7_firstDay_26 rfl (lv_at hl 0 rfl) ?_
            refine lv_iload_n hx hb dX7_firstDay_27 rfl (lv_at hl 1 rfl) ?_
            obtain ⟨v_horn_18, v_brass_19, r_20, hc28, h⟩ := bd3_s h
            refine x_selfVi (As := [.int p0]) (rest := []) St0_ok S (c_X7_wouldPass l D cI cS o hc28) yf_X7_wouldPass wd16_6 ⟨Nat.le_of_ble_eq_true rfl, Nat.le_of_ble_eq_true rfl⟩ hK hSt hA hP hD hS 0 rfl rfl rfl hl.1 rfl (Nat.le_of_ble_eq_true rfl) dX7_firstDay_28 (Nat.zero_le _) (Nat.zero_le _) (fun H locs hP hD hS => ?_)
            refine x_if_ne (tgt := 44) hx hb h dX7_firstDay_31 (by decide) (fun c31 h => ?_) (fun c31 h => ?_)
            · exact wJ44 v_d_12 v_names_13 v_pile_14 v_horn_18 v_brass_19 l2_17 h _ _ hP hD hS _ (lv_sub hl [0, 2] rfl)
            · refine lv_aload_n hx hb dX7_firstDay_34 rfl (lv_at hl 0 rfl) ?_
              obtain ⟨v_d_21, v_names_22, v_pile_23, hc35, h⟩ := bd3_s h
              refine x_selfVv (As := []) (rest := []) St0_ok S (c_X7_dayGoes l D cI cS o hc35) yf_X7_dayGoes wd26_9 ⟨Nat.le_of_ble_eq_true rfl, Nat.le_of_ble_eq_true rfl⟩ hK hSt hA hP hD hS 0 rfl rfl rfl hl.1 rfl (Nat.le_of_ble_eq_true rfl) dX7_firstDay_35 (Nat.zero_le _) (Nat.zero_le _) (fun H locs hP hD hS => ?_)
              obtain ⟨l2_24, el2_24, h⟩ := nmA_s h
              refine lv_iinc (v := l2_24) (lv' := [(2, .int l2_24), (0, .ref (o 0)), (1, .int p0)]) hx hb dX7_firstDay_38 hl (k := 2) rfl (by rw [el2_24]; exact congrArg _ (by decide)) (by decide) rfl (fun ls hl => ?_)
              refine lv_goto (tgt := 20) hx hb dX7_firstDay_41 (by decide) ?_
              exact ih v_d_21 v_names_22 v_pile_23 v_horn_18 v_brass_19 l2_24 h _ _ hP hD hS _ (lv_sub hl [1, 2, 0] rfl)
    exact wf_X7_firstDay_L20 300 v_d v_names v_pile v_horn v_brass 0 h _ _ hP hD hS _ (lv_sub hl [1, 2, 0] rfl)
  · refine lv_aload_n hx hb dX7_firstDay_8 rfl (lv_at hl 0 rfl) ?_
    refine lv_iconst (v := 1) hx hb dX7_firstDay_9 (by decide) ?_
    obtain ⟨v_found_25, r_26, hc10, h⟩ := bd2_s h
    refine x_selfVi (As := [.int 1]) (rest := []) St0_ok S (c_X7_finds l D cI cS o hc10) yf_X7_finds wd6_10 ⟨Nat.le_of_ble_eq_true rfl, Nat.le_of_ble_eq_true rfl⟩ hK hSt hA hP hD hS 0 rfl rfl rfl hl.1 rfl (Nat.le_of_ble_eq_true rfl) dX7_firstDay_10 (Nat.zero_le _) (Nat.zero_le _) (fun H locs hP hD hS => ?_)
    cases h
    exact x_iret hx hb hr hlocks hK hP hD hS rfl rfl dX7_firstDay_13

def f_X7_turning_L33 (p0 : Int32) (r_4 : Int32) (r_5 : Int32) (J91 : (Nat → Int32) → Int32 → Int32 → Int32 → Option ((Nat → Int32) × (Nat → Int32) × (Int32) × (Int32) × (Int32))) : Nat → (Nat → Int32) → Int32 → Int32 → Int32 → Int32 → Option ((Nat → Int32) × (Nat → Int32) × (Int32) × (Int32) × (Int32))
  | 0, _, _, _, _, _ => none
  | k_n + 1, v_d_11, v_horn_12, v_brass_13, l4_14, l5_15 => rdA 248 v_d_11 0 (fun x_16 => (if x_16 ≤ l5_15 then J91 v_d_11 v_horn_12 v_brass_13 l4_14 else wrA 248 v_d_11 ((58 + (3 * p0)) + 1) (r_5 ^^^ (1 <<< (l5_15 &&& 31))) (fun v_d_17 => bd3 (f_X7_wouldPass v_d_17 v_horn_12 v_brass_13 p0) (fun v_horn_18 v_brass_19 r_20 => jnA (fun (t0_21 : Int32) => nmA (l4_14 ||| t0_21) (fun l4_22 => nmA (l5_15 + 1) (fun l5_23 => f_X7_turning_L33 p0 r_4 r_5 J91 k_n v_d_17 v_horn_18 v_brass_19 l4_22 l5_23))) (fun J82 => (if r_20 = r_4 then J82 0 else J82 (1 <<< (l5_15 &&& 31))))))))
def f_X7_turning  (v_d : Nat → Int32) (v_found : Nat → Int32) (v_horn : Int32) (v_brass : Int32) (p0 : Int32) : Option ((Nat → Int32) × (Nat → Int32) × (Int32) × (Int32) × (Int32)) :=
  bd1 (f_X7_isMotion v_d p0) (fun r_1 => (if r_1 = 0 then bd2 (f_X7_finds v_found 1) (fun v_found_24 r_25 => some (v_d, v_found_24, v_horn, v_brass, r_25)) else bd3 (f_X7_wouldPass v_d v_horn v_brass p0) (fun v_horn_2 v_brass_3 r_4 => bd1 (f_X7_its v_d p0 1) (fun r_5 => jnA (fun (v_d_6 : Nat → Int32) (v_horn_7 : Int32) (v_brass_8 : Int32) (l4_9 : Int32) => wrA 248 v_d_6 ((58 + (3 * p0)) + 1) r_5 (fun v_d_10 => some (v_d_10, v_found, v_horn_7, v_brass_8, l4_9))) (fun J91 => f_X7_turning_L33 p0 r_4 r_5 J91 300 v_d v_horn_2 v_brass_3 0 0)))))
set_option maxHeartbeats 600000 in
set_option maxRecDepth 100000 in
theorem c_X7_turning (l : Launch) (D : va_G) (cI cS : ClassId) (o : Nat → Nat) {v_d : Nat → Int32} {v_kept : Nat → Int32} {v_images : Int32} {v_found : Nat → Int32} {v_aside : Nat → Int32} {v_base : Int32} {v_at : Int32} {v_size : Int32} {v_fault : Int32} {v_opened : Int32} {v_isCold : Int32} {v_names : Nat → Int32} {v_code : Nat → Int32} {v_coded : Int32} {v_pile : Nat → Int32} {v_horn : Int32} {v_brass : Int32} {v_coldAhead : Nat → Int32} {v_which : Nat → Int32} {v_whichMany : Int32} {v_bestPass : Int32} {v_bestLive : Int32} {v_bestCode : Int32} {v_traced : Nat → Int32} {v_traceMany : Int32} {v_who : Int32} {v_bitsOf : Nat → Int32} {v_sizeOf : Nat → Int32} {v_number : Nat → Int32} {v_lifted : Nat → Int32} {p0 : Int32} {w_d : Nat → Int32} {w_found : Nat → Int32} {w_horn : Int32} {w_brass : Int32} {r_out : Int32} (h : f_X7_turning  v_d v_found v_horn v_brass p0 = some (w_d, w_found, w_horn, w_brass, r_out)) : MetI l D (tysX cI cS) St0 yX7_turning cX7_turning 6 (some .int) 7 156 [.ref (o 0), .int p0] (pcX7 o cI v_d v_kept v_images v_found v_aside v_base v_at v_size v_fault v_opened v_isCold v_names v_code v_coded v_pile v_horn v_brass v_coldAhead v_which v_whichMany v_bestPass v_bestLive v_bestCode v_traced v_traceMany v_who v_bitsOf v_sizeOf v_number v_lifted) r_out (pcX7 o cI w_d v_kept v_images w_found v_aside v_base v_at v_size v_fault v_opened v_isCold v_names v_code v_coded v_pile w_horn w_brass v_coldAhead v_which v_whichMany v_bestPass v_bestLive v_bestCode v_traced v_traceMany v_who v_bitsOf v_sizeOf v_number v_lifted) := by
  refine Ent.metI (by decide +kernel) (Nat.le_of_ble_eq_true rfl) ?_
  intro p e s m args below meth c A ls hx hb hr hml hown hts hlocks hA hK hSt hP hD hS hl
  have hown : s.vm.findClass RX7 = some m.cls := hown
  have S : XFix p m c cX7_turning 6 s args RX7 := ⟨hx, hb, hml, hown, hts⟩
  have hl : lv_has ls 6 [(0, .ref (o 0)), (1, .int p0)] := hl
  unfold f_X7_turning at h
  refine lv_aload_n hx hb dX7_turning_0 rfl (lv_at hl 0 rfl) ?_
  refine lv_iload_n hx hb dX7_turning_1 rfl (lv_at hl 1 rfl) ?_
  obtain ⟨r_1, hc2, h⟩ := bd1_s h
  refine x_selfVi (As := [.int p0]) (rest := []) St0_ok S (c_X7_isMotion l D cI cS o hc2) yf_X7_isMotion wd15_22 ⟨Nat.le_of_ble_eq_true rfl, Nat.le_of_ble_eq_true rfl⟩ hK hSt hA hP hD hS 0 rfl rfl rfl hl.1 rfl (Nat.le_of_ble_eq_true rfl) dX7_turning_2 (Nat.zero_le _) (Nat.zero_le _) (fun H locs hP hD hS => ?_)
  refine x_if_ne (tgt := 14) hx hb h dX7_turning_5 (by decide) (fun c5 h => ?_) (fun c5 h => ?_)
  · refine lv_aload_n hx hb dX7_turning_14 rfl (lv_at hl 0 rfl) ?_
    refine lv_iload_n hx hb dX7_turning_15 rfl (lv_at hl 1 rfl) ?_
    obtain ⟨v_horn_2, v_brass_3, r_4, hc16, h⟩ := bd3_s h
    refine x_selfVi (As := [.int p0]) (rest := []) St0_ok S (c_X7_wouldPass l D cI cS o hc16) yf_X7_wouldPass wd16_6 ⟨Nat.le_of_ble_eq_true rfl, Nat.le_of_ble_eq_true rfl⟩ hK hSt hA hP hD hS 0 rfl rfl rfl hl.1 rfl (Nat.le_of_ble_eq_true rfl) dX7_turning_16 (Nat.zero_le _) (Nat.zero_le _) (fun H locs hP hD hS => ?_)
    refine lv_istore_n (lv' := [(2, .int r_4), (0, .ref (o 0)), (1, .int p0)]) hx hb dX7_turning_19 rfl hl (by decide) rfl (fun ls hl => ?_)
    refine lv_aload_n hx hb dX7_turning_20 rfl (lv_at hl 1 rfl) ?_
    refine lv_iload_n hx hb dX7_turning_21 rfl (lv_at hl 2 rfl) ?_
    refine lv_iconst (v := 1) hx hb dX7_turning_22 (by decide) ?_
    obtain ⟨r_5, hc23, h⟩ := bd1_s h
    refine x_selfVi (As := [.int p0, .int 1]) (rest := []) St0_ok S (c_X7_its l D cI cS o hc23) yf_X7_its wd11_15 ⟨Nat.le_of_ble_eq_true rfl, Nat.le_of_ble_eq_true rfl⟩ hK hSt hA hP hD hS 0 rfl rfl rfl hl.1 rfl (Nat.le_of_ble_eq_true rfl) dX7_turning_23 (Nat.zero_le _) (Nat.zero_le _) (fun H locs hP hD hS => ?_)
    refine lv_istore_n (lv' := [(3, .int r_5), (2, .int r_4), (0, .ref (o 0)), (1, .int p0)]) hx hb dX7_turning_26 rfl hl (by decide) rfl (fun ls hl => ?_)
    refine lv_iconst (v := 0) hx hb dX7_turning_27 (by decide) ?_
    refine lv_istore (lv' := [(4, .int 0), (3, .int r_5), (2, .int r_4), (0, .ref (o 0)), (1, .int p0)]) hx hb dX7_turning_28 hl (by decide) rfl (fun ls hl => ?_)
    refine lv_iconst (v := 0) hx hb dX7_turning_30 (by decide) ?_
    refine lv_istore (lv' := [(5, .int 0), (4, .int 0), (3, .int r_5), (2, .int r_4), (0, .ref (o 0)), (1, .int p0)]) hx hb dX7_turning_31 hl (by decide) rfl (fun ls hl => ?_)
    obtain ⟨J91, eJ91, h⟩ := jnA_s h
    have wJ91 : ∀ (v_d_6 : Nat → Int32) (v_horn_7 : Int32) (v_brass_8 : Int32) (l4_9 : Int32), J91 v_d_6 v_horn_7 v_brass_8 l4_9 = some (w_d, w_found, w_horn, w_brass, r_out) → ∀ (H : Heap) (locs : List Loc), va_P D vwCl (pcX7 o cI v_d_6 v_kept v_images v_found v_aside v_base v_at v_size v_fault v_opened v_isCold v_names v_code v_coded v_pile v_horn_7 v_brass_8 v_coldAhead v_which v_whichMany v_bestPass v_bestLive v_bestCode v_traced v_traceMany v_who v_bitsOf v_sizeOf v_number v_lifted) H → va_D A (pcX7 o cI v_d_6 v_kept v_images v_found v_aside v_base v_at v_size v_fault v_opened v_isCold v_names v_code v_coded v_pile v_horn_7 v_brass_8 v_coldAhead v_which v_whichMany v_bestPass v_bestLive v_bestCode v_traced v_traceMany v_who v_bitsOf v_sizeOf v_number v_lifted) → va_S A s.heap H locs → ∀ ls : Array Slot, lv_has ls 6 [(0, .ref (o 0)), (1, .int p0), (3, .int r_5), (4, .int l4_9)] → WI p l e 7 156 s m args below meth c D (tysX cI cS) A r_out (pcX7 o cI w_d v_kept v_images w_found v_aside v_base v_at v_size v_fault v_opened v_isCold v_names v_code v_coded v_pile w_horn w_brass v_coldAhead v_which v_whichMany v_bestPass v_bestLive v_bestCode v_traced v_traceMany v_who v_bitsOf v_sizeOf v_number v_lifted) H locs (F0 m 91 ls []) := by
        intro v_d_6 v_horn_7 v_brass_8 l4_9 h H locs hP hD hS ls hl
        subst eJ91
        dsimp only at h
        refine lv_aload_n hx hb dX7_turning_91 rfl (lv_at hl 0 rfl) ?_
        refine gt_X7_7 S hK hP 0 rfl rfl dX7_turning_92 ?_
        refine lv_bipush (v := 58) hx hb dX7_turning_95 (by decide) ?_
        refine lv_iconst (v := 3) hx hb dX7_turning_97 (by decide) ?_
        refine lv_iload_n hx hb dX7_turning_98 rfl (lv_at hl 1 rfl) ?_
        refine lv_imul hx hb dX7_turning_99 ?_
        refine lv_iadd hx hb dX7_turning_100 ?_
        refine lv_iconst (v := 1) hx hb dX7_turning_101 (by decide) ?_
        refine lv_iadd hx hb dX7_turning_102 ?_
        refine lv_iload_n hx hb dX7_turning_103 rfl (lv_at hl 2 rfl) ?_
        refine x_ast hx hb hK hP hD hS 1 h rfl rfl dX7_turning_104 (fun v_d_10 ev_d_10 h H locs hP hD hS => ?_)
        have hP : va_P D vwCl (pcX7 o cI v_d_10 v_kept v_images v_found v_aside v_base v_at v_size v_fault v_opened v_isCold v_names v_code v_coded v_pile v_horn_7 v_brass_8 v_coldAhead v_which v_whichMany v_bestPass v_bestLive v_bestCode v_traced v_traceMany v_who v_bitsOf v_sizeOf v_number v_lifted) H := hP
        have hD : va_D A (pcX7 o cI v_d_10 v_kept v_images v_found v_aside v_base v_at v_size v_fault v_opened v_isCold v_names v_code v_coded v_pile v_horn_7 v_brass_8 v_coldAhead v_which v_whichMany v_bestPass v_bestLive v_bestCode v_traced v_traceMany v_who v_bitsOf v_sizeOf v_number v_lifted) := hD
        refine lv_iload hx hb dX7_turning_105 (lv_at hl 3 rfl) ?_
        cases h
        exact x_iret hx hb hr hlocks hK hP hD hS rfl rfl dX7_turning_107
    have wf_X7_turning_L33 : ∀ (k_n : Nat) (v_d_11 : Nat → Int32) (v_horn_12 : Int32) (v_brass_13 : Int32) (l4_14 : Int32) (l5_15 : Int32), f_X7_turning_L33 p0 r_4 r_5 J91 k_n v_d_11 v_horn_12 v_brass_13 l4_14 l5_15 = some (w_d, w_found, w_horn, w_brass, r_out) → ∀ (H : Heap) (locs : List Loc), va_P D vwCl (pcX7 o cI v_d_11 v_kept v_images v_found v_aside v_base v_at v_size v_fault v_opened v_isCold v_names v_code v_coded v_pile v_horn_12 v_brass_13 v_coldAhead v_which v_whichMany v_bestPass v_bestLive v_bestCode v_traced v_traceMany v_who v_bitsOf v_sizeOf v_number v_lifted) H → va_D A (pcX7 o cI v_d_11 v_kept v_images v_found v_aside v_base v_at v_size v_fault v_opened v_isCold v_names v_code v_coded v_pile v_horn_12 v_brass_13 v_coldAhead v_which v_whichMany v_bestPass v_bestLive v_bestCode v_traced v_traceMany v_who v_bitsOf v_sizeOf v_number v_lifted) → va_S A s.heap H locs → ∀ ls : Array Slot, lv_has ls 6 [(0, .ref (o 0)), (1, .int p0), (2, .int r_4), (3, .int r_5), (4, .int l4_14), (5, .int l5_15)] → WI p l e 7 156 s m args below meth c D (tysX cI cS) A r_out (pcX7 o cI w_d v_kept v_images w_found v_aside v_base v_at v_size v_fault v_opened v_isCold v_names v_code v_coded v_pile w_horn w_brass v_coldAhead v_which v_whichMany v_bestPass v_bestLive v_bestCode v_traced v_traceMany v_who v_bitsOf v_sizeOf v_number v_lifted) H locs (F0 m 33 ls []) := by
        intro k_n
        induction k_n with
        | zero => intro v_d_11 v_horn_12 v_brass_13 l4_14 l5_15 h; rw [f_X7_turning_L33] at h; cases h
        | succ k_n ih =>
          intro v_d_11 v_horn_12 v_brass_13 l4_14 l5_15 h H locs hP hD hS ls hl
          rw [f_X7_turning_L33] at h
          refine lv_iload hx hb dX7_turning_33 (lv_at hl 5 rfl) ?_
          refine lv_aload_n hx hb dX7_turning_35 rfl (lv_at hl 0 rfl) ?_
          refine gt_X7_7 S hK hP 0 rfl rfl dX7_turning_36 ?_
          refine lv_iconst (v := 0) hx hb dX7_turning_39 (by decide) ?_
          refine x_ald hx hb hK hP 1 h rfl rfl dX7_turning_40 (fun x_16 ex_16 h => ?_)
          refine x_icmp_ge (tgt := 91) hx hb h dX7_turning_41 (by decide) (fun c41 h => ?_) (fun c41 h => ?_)
          · exact wJ91 v_d_11 v_horn_12 v_brass_13 l4_14 h _ _ hP hD hS _ (lv_sub hl [0, 1, 3, 4] rfl)
          · refine lv_aload_n hx hb dX7_turning_44 rfl (lv_at hl 0 rfl) ?_
            refine gt_X7_7 S hK hP 0 rfl rfl dX7_turning_45 ?_
            refine lv_bipush (v := 58) hx hb dX7_turning_48 (by decide) ?_
            refine lv_iconst (v := 3) hx hb dX7_turning_50 (by decide) ?_
            refine lv_iload_n hx hb dX7_turning_51 rfl (lv_at hl 1 rfl) ?_
            refine lv_imul hx hb dX7_turning_52 ?_
            refine lv_iadd hx hb dX7_turning_53 ?_
            refine lv_iconst (v := 1) hx hb dX7_turning_54 (by decide) ?_
            refine lv_iadd hx hb dX7_turning_55 ?_
            refine lv_iload_n hx hb dX7_turning_56 rfl (lv_at hl 3 rfl) ?_
            refine lv_iconst (v := 1) hx hb dX7_turning_57 (by decide) ?_
            refine lv_iload hx hb dX7_turning_58 (lv_at hl 5 rfl) ?_
            refine lv_ishl hx hb dX7_turning_60 ?_
            refine lv_ixor hx hb dX7_turning_61 ?_
            refine x_ast hx hb hK hP hD hS 1 h rfl rfl dX7_turning_62 (fun v_d_17 ev_d_17 h H locs hP hD hS => ?_)
            have hP : va_P D vwCl (pcX7 o cI v_d_17 v_kept v_images v_found v_aside v_base v_at v_size v_fault v_opened v_isCold v_names v_code v_coded v_pile v_horn_12 v_brass_13 v_coldAhead v_which v_whichMany v_bestPass v_bestLive v_bestCode v_traced v_traceMany v_who v_bitsOf v_sizeOf v_number v_lifted) H := hP
            have hD : va_D A (pcX7 o cI v_d_17 v_kept v_images v_found v_aside v_base v_at v_size v_fault v_opened v_isCold v_names v_code v_coded v_pile v_horn_12 v_brass_13 v_coldAhead v_which v_whichMany v_bestPass v_bestLive v_bestCode v_traced v_traceMany v_who v_bitsOf v_sizeOf v_number v_lifted) := hD
            refine lv_iload hx hb dX7_turning_63 (lv_at hl 4 rfl) ?_
            refine lv_aload_n hx hb dX7_turning_65 rfl (lv_at hl 0 rfl) ?_
            refine lv_iload_n hx hb dX7_turning_66 rfl (lv_at hl 1 rfl) ?_
            obtain ⟨v_horn_18, v_brass_19, r_20, hc67, h⟩ := bd3_s h
            refine x_selfVi (As := [.int p0]) (rest := [.int l4_14]) St0_ok S (c_X7_wouldPass l D cI cS o hc67) yf_X7_wouldPass wd16_6 ⟨Nat.le_of_ble_eq_true rfl, Nat.le_of_ble_eq_true rfl⟩ hK hSt hA hP hD hS 0 rfl rfl rfl hl.1 rfl (Nat.le_of_ble_eq_true rfl) dX7_turning_67 (Nat.zero_le _) (Nat.zero_le _) (fun H locs hP hD hS => ?_)
            refine lv_iload_n hx hb dX7_turning_70 rfl (lv_at hl 2 rfl) ?_
            obtain ⟨J82, eJ82, h⟩ := jnA_s h
            have wJ82 : ∀ (t0_21 : Int32), J82 t0_21 = some (w_d, w_found, w_horn, w_brass, r_out) → ∀ (H : Heap) (locs : List Loc), va_P D vwCl (pcX7 o cI v_d_17 v_kept v_images v_found v_aside v_base v_at v_size v_fault v_opened v_isCold v_names v_code v_coded v_pile v_horn_18 v_brass_19 v_coldAhead v_which v_whichMany v_bestPass v_bestLive v_bestCode v_traced v_traceMany v_who v_bitsOf v_sizeOf v_number v_lifted) H → va_D A (pcX7 o cI v_d_17 v_kept v_images v_found v_aside v_base v_at v_size v_fault v_opened v_isCold v_names v_code v_coded v_pile v_horn_18 v_brass_19 v_coldAhead v_which v_whichMany v_bestPass v_bestLive v_bestCode v_traced v_traceMany v_who v_bitsOf v_sizeOf v_number v_lifted) → va_S A s.heap H locs → ∀ ls : Array Slot, lv_has ls 6 [(0, .ref (o 0)), (1, .int p0), (2, .int r_4), (3, .int r_5), (5, .int l5_15)] → WI p l e 7 156 s m args below meth c D (tysX cI cS) A r_out (pcX7 o cI w_d v_kept v_images w_found v_aside v_base v_at v_size v_fault v_opened v_isCold v_names v_code v_coded v_pile w_horn w_brass v_coldAhead v_which v_whichMany v_bestPass v_bestLive v_bestCode v_traced v_traceMany v_who v_bitsOf v_sizeOf v_number v_lifted) H locs (F0 m 82 ls [.int t0_21, .int l4_14]) := by
                intro t0_21 h H locs hP hD hS ls hl
                subst eJ82
                dsimp only at h
                refine lv_ior hx hb dX7_turning_82 ?_
                refine x_nm h (fun l4_22 el4_22 h => ?_)
                refine lv_istore (lv' := [(4, .int l4_22), (0, .ref (o 0)), (1, .int p0), (2, .int r_4), (3, .int r_5), (5, .int l5_15)]) hx hb dX7_turning_83 hl (by decide) rfl (fun ls hl => ?_)
                obtain ⟨l5_23, el5_23, h⟩ := nmA_s h
                refine lv_iinc (v := l5_23) (lv' := [(5, .int l5_23), (4, .int l4_22), (0, .ref (o 0)), (1, .int p0), (2, .int r_4), (3, .int r_5)]) hx hb dX7_turning_85 hl (k := 5) rfl (by rw [el5_23]; exact congrArg _ (by decide)) (by decide) rfl (fun ls hl => ?_)
                refine lv_goto (tgt := 33) hx hb dX7_turning_88 (by decide) ?_
                exact ih v_d_17 v_horn_18 v_brass_19 l4_22 l5_23 h _ _ hP hD hS _ (lv_sub hl [2, 3, 4, 5, 1, 0] rfl)
            refine x_icmp_eq (tgt := 81) hx hb h dX7_turning_71 (by decide) (fun c71 h => ?_) (fun c71 h => ?_)
            · refine lv_iconst (v := 0) hx hb dX7_turning_81 (by decide) ?_
              exact wJ82 0 h _ _ hP hD hS _ (lv_sub hl [0, 1, 2, 3, 5] rfl)
            · refine lv_iconst (v := 1) hx hb dX7_turning_74 (by decide) ?_
              refine lv_iload hx hb dX7_turning_75 (lv_at hl 5 rfl) ?_
              refine lv_ishl hx hb dX7_turning_77 ?_
              refine lv_goto (tgt := 82) hx hb dX7_turning_78 (by decide) ?_
              exact wJ82 (1 <<< (l5_15 &&& 31)) h _ _ hP hD hS _ (lv_sub hl [0, 1, 2, 3, 5] rfl)
    exact wf_X7_turning_L33 300 v_d v_horn_2 v_brass_3 0 0 h _ _ hP hD hS _ (lv_sub hl [4, 5, 3, 2, 1, 0] rfl)
  · refine lv_aload_n hx hb dX7_turning_8 rfl (lv_at hl 0 rfl) ?_
    refine lv_iconst (v := 1) hx hb dX7_turning_9 (by decide) ?_
    obtain ⟨v_found_24, r_25, hc10, h⟩ := bd2_s h
    refine x_selfVi (As := [.int 1]) (rest := []) St0_ok S (c_X7_finds l D cI cS o hc10) yf_X7_finds wd6_10 ⟨Nat.le_of_ble_eq_true rfl, Nat.le_of_ble_eq_true rfl⟩ hK hSt hA hP hD hS 0 rfl rfl rfl hl.1 rfl (Nat.le_of_ble_eq_true rfl) dX7_turning_10 (Nat.zero_le _) (Nat.zero_le _) (fun H locs hP hD hS => ?_)
    cases h
    exact x_iret hx hb hr hlocks hK hP hD hS rfl rfl dX7_turning_13

def f_X7_findsCold_L2 (v_d : Nat → Int32) (p0 : Int32) : Nat → (Nat → Int32) → (Nat → Int32) → (Nat → Int32) → Int32 → Option ((Nat → Int32) × (Nat → Int32) × (Nat → Int32))
  | 0, _, _, _, _ => none
  | k_n + 1, v_names_1, v_pile_2, v_coldAhead_3, l2_4 => (if p0 ≤ l2_4 then some (v_names_1, v_pile_2, v_coldAhead_3) else rdA 248 v_d 6 (fun x_5 => rdA 248 v_d 5 (fun x_6 => bd1 (f_X7_lawMany v_d) (fun r_7 => bd3 (f_X7_textGives v_d v_names_1 v_pile_2 1 (x_5 + l2_4) x_6 r_7) (fun v_names_8 v_pile_9 r_10 => wrA 60 v_coldAhead_3 l2_4 r_10 (fun v_coldAhead_11 => nmA (l2_4 + 1) (fun l2_12 => f_X7_findsCold_L2 v_d p0 k_n v_names_8 v_pile_9 v_coldAhead_11 l2_12)))))))
def f_X7_findsCold  (v_d : Nat → Int32) (v_names : Nat → Int32) (v_pile : Nat → Int32) (v_coldAhead : Nat → Int32) (p0 : Int32) : Option ((Nat → Int32) × (Nat → Int32) × (Nat → Int32)) :=
  f_X7_findsCold_L2 v_d p0 300 v_names v_pile v_coldAhead 0
set_option maxHeartbeats 600000 in
set_option maxRecDepth 100000 in
theorem c_X7_findsCold (l : Launch) (D : va_G) (cI cS : ClassId) (o : Nat → Nat) {v_d : Nat → Int32} {v_kept : Nat → Int32} {v_images : Int32} {v_found : Nat → Int32} {v_aside : Nat → Int32} {v_base : Int32} {v_at : Int32} {v_size : Int32} {v_fault : Int32} {v_opened : Int32} {v_isCold : Int32} {v_names : Nat → Int32} {v_code : Nat → Int32} {v_coded : Int32} {v_pile : Nat → Int32} {v_horn : Int32} {v_brass : Int32} {v_coldAhead : Nat → Int32} {v_which : Nat → Int32} {v_whichMany : Int32} {v_bestPass : Int32} {v_bestLive : Int32} {v_bestCode : Int32} {v_traced : Nat → Int32} {v_traceMany : Int32} {v_who : Int32} {v_bitsOf : Nat → Int32} {v_sizeOf : Nat → Int32} {v_number : Nat → Int32} {v_lifted : Nat → Int32} {p0 : Int32} {w_names : Nat → Int32} {w_pile : Nat → Int32} {w_coldAhead : Nat → Int32} (h : f_X7_findsCold  v_d v_names v_pile v_coldAhead p0 = some (w_names, w_pile, w_coldAhead)) : MetV l D (tysX cI cS) St0 yX7_findsCold cX7_findsCold 3 none 3 72 [.ref (o 0), .int p0] (pcX7 o cI v_d v_kept v_images v_found v_aside v_base v_at v_size v_fault v_opened v_isCold v_names v_code v_coded v_pile v_horn v_brass v_coldAhead v_which v_whichMany v_bestPass v_bestLive v_bestCode v_traced v_traceMany v_who v_bitsOf v_sizeOf v_number v_lifted) (pcX7 o cI v_d v_kept v_images v_found v_aside v_base v_at v_size v_fault v_opened v_isCold w_names v_code v_coded w_pile v_horn v_brass w_coldAhead v_which v_whichMany v_bestPass v_bestLive v_bestCode v_traced v_traceMany v_who v_bitsOf v_sizeOf v_number v_lifted) := by
  refine Ent.metV (by decide +kernel) (Nat.le_of_ble_eq_true rfl) ?_
  intro p e s m args below meth c A ls hx hb hr hml hown hts hlocks hA hK hSt hP hD hS hl
  have hown : s.vm.findClass RX7 = some m.cls := hown
  have S : XFix p m c cX7_findsCold 3 s args RX7 := ⟨hx, hb, hml, hown, hts⟩
  have hl : lv_has ls 3 [(0, .ref (o 0)), (1, .int p0)] := hl
  unfold f_X7_findsCold at h
  refine lv_iconst (v := 0) hx hb dX7_findsCold_0 (by decide) ?_
  refine lv_istore_n (lv' := [(2, .int 0), (0, .ref (o 0)), (1, .int p0)]) hx hb dX7_findsCold_1 rfl hl (by decide) rfl (fun ls hl => ?_)
  have wf_X7_findsCold_L2 : ∀ (k_n : Nat) (v_names_1 : Nat → Int32) (v_pile_2 : Nat → Int32) (v_coldAhead_3 : Nat → Int32) (l2_4 : Int32), f_X7_findsCold_L2 v_d p0 k_n v_names_1 v_pile_2 v_coldAhead_3 l2_4 = some (w_names, w_pile, w_coldAhead) → ∀ (H : Heap) (locs : List Loc), va_P D vwCl (pcX7 o cI v_d v_kept v_images v_found v_aside v_base v_at v_size v_fault v_opened v_isCold v_names_1 v_code v_coded v_pile_2 v_horn v_brass v_coldAhead_3 v_which v_whichMany v_bestPass v_bestLive v_bestCode v_traced v_traceMany v_who v_bitsOf v_sizeOf v_number v_lifted) H → va_D A (pcX7 o cI v_d v_kept v_images v_found v_aside v_base v_at v_size v_fault v_opened v_isCold v_names_1 v_code v_coded v_pile_2 v_horn v_brass v_coldAhead_3 v_which v_whichMany v_bestPass v_bestLive v_bestCode v_traced v_traceMany v_who v_bitsOf v_sizeOf v_number v_lifted) → va_S A s.heap H locs → ∀ ls : Array Slot, lv_has ls 3 [(0, .ref (o 0)), (1, .int p0), (2, .int l2_4)] → WV p l e 3 72 s m args below meth c D (tysX cI cS) A (pcX7 o cI v_d v_kept v_images v_found v_aside v_base v_at v_size v_fault v_opened v_isCold w_names v_code v_coded w_pile v_horn v_brass w_coldAhead v_which v_whichMany v_bestPass v_bestLive v_bestCode v_traced v_traceMany v_who v_bitsOf v_sizeOf v_number v_lifted) H locs (F0 m 2 ls []) := by
      intro k_n
      induction k_n with
      | zero => intro v_names_1 v_pile_2 v_coldAhead_3 l2_4 h; rw [f_X7_findsCold_L2] at h; cases h
      | succ k_n ih =>
        intro v_names_1 v_pile_2 v_coldAhead_3 l2_4 h H locs hP hD hS ls hl
        rw [f_X7_findsCold_L2] at h
        refine lv_iload_n hx hb dX7_findsCold_2 rfl (lv_at hl 2 rfl) ?_
        refine lv_iload_n hx hb dX7_findsCold_3 rfl (lv_at hl 1 rfl) ?_
        refine x_icmp_ge (tgt := 43) hx hb h dX7_findsCold_4 (by decide) (fun c4 h => ?_) (fun c4 h => ?_)
        · cases h
          exact x_vret hx hb hr hlocks hK hP hD hS rfl dX7_findsCold_43
        · refine lv_aload_n hx hb dX7_findsCold_7 rfl (lv_at hl 0 rfl) ?_
          refine gt_X7_31 S hK hP 0 rfl rfl dX7_findsCold_8 ?_
          refine lv_iload_n hx hb dX7_findsCold_11 rfl (lv_at hl 2 rfl) ?_
          refine lv_aload_n hx hb dX7_findsCold_12 rfl (lv_at hl 0 rfl) ?_
          refine lv_iconst (v := 1) hx hb dX7_findsCold_13 (by decide) ?_
          refine lv_aload_n hx hb dX7_findsCold_14 rfl (lv_at hl 0 rfl) ?_
          refine gt_X7_7 S hK hP 0 rfl rfl dX7_findsCold_15 ?_
          refine lv_bipush (v := 6) hx hb dX7_findsCold_18 (by decide) ?_
          refine x_ald hx hb hK hP 1 h rfl rfl dX7_findsCold_20 (fun x_5 ex_5 h => ?_)
          refine lv_iload_n hx hb dX7_findsCold_21 rfl (lv_at hl 2 rfl) ?_
          refine lv_iadd hx hb dX7_findsCold_22 ?_
          refine lv_aload_n hx hb dX7_findsCold_23 rfl (lv_at hl 0 rfl) ?_
          refine gt_X7_7 S hK hP 0 rfl rfl dX7_findsCold_24 ?_
          refine lv_iconst (v := 5) hx hb dX7_findsCold_27 (by decide) ?_
          refine x_ald hx hb hK hP 1 h rfl rfl dX7_findsCold_28 (fun x_6 ex_6 h => ?_)
          refine lv_aload_n hx hb dX7_findsCold_29 rfl (lv_at hl 0 rfl) ?_
          obtain ⟨r_7, hc30, h⟩ := bd1_s h
          refine x_selfVi (As := []) (rest := [.int x_6, .int (x_5 + l2_4), .int 1, .ref (o 0), .int l2_4, .ref (o 8)]) St0_ok S (c_X7_lawMany l D cI cS o hc30) yf_X7_lawMany wd11_11 ⟨Nat.le_of_ble_eq_true rfl, Nat.le_of_ble_eq_true rfl⟩ hK hSt hA hP hD hS 0 rfl rfl rfl hl.1 rfl (Nat.le_of_ble_eq_true rfl) dX7_findsCold_30 (Nat.zero_le _) (Nat.zero_le _) (fun H locs hP hD hS => ?_)
          obtain ⟨v_names_8, v_pile_9, r_10, hc33, h⟩ := bd3_s h
          refine x_selfVi (As := [.int 1, .int (x_5 + l2_4), .int x_6, .int r_7]) (rest := [.int l2_4, .ref (o 8)]) St0_ok S (c_X7_textGives l D cI cS o hc33) yf_X7_textGives wd11_19 ⟨Nat.le_of_ble_eq_true rfl, Nat.le_of_ble_eq_true rfl⟩ hK hSt hA hP hD hS 0 rfl rfl rfl hl.1 rfl (Nat.le_of_ble_eq_true rfl) dX7_findsCold_33 (Nat.zero_le _) (Nat.zero_le _) (fun H locs hP hD hS => ?_)
          refine x_ast hx hb hK hP hD hS 8 h rfl rfl dX7_findsCold_36 (fun v_coldAhead_11 ev_coldAhead_11 h H locs hP hD hS => ?_)
          have hP : va_P D vwCl (pcX7 o cI v_d v_kept v_images v_found v_aside v_base v_at v_size v_fault v_opened v_isCold v_names_8 v_code v_coded v_pile_9 v_horn v_brass v_coldAhead_11 v_which v_whichMany v_bestPass v_bestLive v_bestCode v_traced v_traceMany v_who v_bitsOf v_sizeOf v_number v_lifted) H := hP
          have hD : va_D A (pcX7 o cI v_d v_kept v_images v_found v_aside v_base v_at v_size v_fault v_opened v_isCold v_names_8 v_code v_coded v_pile_9 v_horn v_brass v_coldAhead_11 v_which v_whichMany v_bestPass v_bestLive v_bestCode v_traced v_traceMany v_who v_bitsOf v_sizeOf v_number v_lifted) := hD
          obtain ⟨l2_12, el2_12, h⟩ := nmA_s h
          refine lv_iinc (v := l2_12) (lv' := [(2, .int l2_12), (0, .ref (o 0)), (1, .int p0)]) hx hb dX7_findsCold_37 hl (k := 2) rfl (by rw [el2_12]; exact congrArg _ (by decide)) (by decide) rfl (fun ls hl => ?_)
          refine lv_goto (tgt := 2) hx hb dX7_findsCold_40 (by decide) ?_
          exact ih v_names_8 v_pile_9 v_coldAhead_11 l2_12 h _ _ hP hD hS _ (lv_sub hl [1, 2, 0] rfl)
  exact wf_X7_findsCold_L2 300 v_names v_pile v_coldAhead 0 h _ _ hP hD hS _ (lv_sub hl [1, 2, 0] rfl)

def f_X7_livesWith_L26 (v_coldAhead : Nat → Int32) (p0 : Int32) (p2 : Int32) (J96 : (Nat → Int32) → (Nat → Int32) → (Nat → Int32) → Option ((Nat → Int32) × (Nat → Int32) × (Nat → Int32) × (Int32))) : Nat → (Nat → Int32) → (Nat → Int32) → (Nat → Int32) → Int32 → Option ((Nat → Int32) × (Nat → Int32) × (Nat → Int32) × (Int32))
  | 0, _, _, _, _ => none
  | k_n + 1, v_d_11, v_names_12, v_pile_13, l6_14 => (if p2 ≤ l6_14 then J96 v_d_11 v_names_12 v_pile_13 else bd1 (f_X7_isDead v_d_11 p0) (fun r_15 => (if r_15 = 0 then rdA 60 v_coldAhead l6_14 (fun x_16 => jnA (fun (v_names_17 : Nat → Int32) (v_pile_18 : Nat → Int32) (t0_19 : Int32) => bd1 (f_X7_of v_d_11 p0 5) (fun r_20 => bd1 (f_X7_held (r_20 + t0_19) 0 99) (fun r_21 => bd1 (f_X7_sets v_d_11 p0 5 r_21) (fun v_d_22 => nmA (l6_14 + 1) (fun l6_23 => f_X7_livesWith_L26 v_coldAhead p0 p2 J96 k_n v_d_22 v_names_17 v_pile_18 l6_23))))) (fun J67 => (if x_16 = 0 then J67 v_names_12 v_pile_13 1 else rdA 60 v_coldAhead l6_14 (fun x_24 => bd3 (f_X7_chillOf v_d_11 v_names_12 v_pile_13 p0 x_24) (fun v_names_25 v_pile_26 r_27 => J67 v_names_25 v_pile_26 (-r_27)))))) else J96 v_d_11 v_names_12 v_pile_13)))
def f_X7_livesWith  (v_d : Nat → Int32) (v_names : Nat → Int32) (v_pile : Nat → Int32) (v_coldAhead : Nat → Int32) (p0 : Int32) (p1 : Int32) (p2 : Int32) : Option ((Nat → Int32) × (Nat → Int32) × (Nat → Int32) × (Int32)) :=
  bd1 (f_X7_of v_d p0 4) (fun r_1 => bd1 (f_X7_of v_d p0 5) (fun r_2 => bd1 (f_X7_sets v_d p0 4 p1) (fun v_d_3 => jnA (fun (v_d_4 : Nat → Int32) (v_names_5 : Nat → Int32) (v_pile_6 : Nat → Int32) => bd1 (f_X7_isDead v_d_4 p0) (fun r_7 => jnA (fun (t0_8 : Int32) => bd1 (f_X7_sets v_d_4 p0 4 r_1) (fun v_d_9 => bd1 (f_X7_sets v_d_9 p0 5 r_2) (fun v_d_10 => bzA t0_8 (some (v_d_10, v_names_5, v_pile_6, t0_8))))) (fun J109 => (if r_7 = 0 then J109 1 else J109 0)))) (fun J96 => f_X7_livesWith_L26 v_coldAhead p0 p2 J96 300 v_d_3 v_names v_pile 0))))
set_option maxHeartbeats 600000 in
set_option maxRecDepth 100000 in
theorem c_X7_livesWith (l : Launch) (D : va_G) (cI cS : ClassId) (o : Nat → Nat) {v_d : Nat → Int32} {v_kept : Nat → Int32} {v_images : Int32} {v_found : Nat → Int32} {v_aside : Nat → Int32} {v_base : Int32} {v_at : Int32} {v_size : Int32} {v_fault : Int32} {v_opened : Int32} {v_isCold : Int32} {v_names : Nat → Int32} {v_code : Nat → Int32} {v_coded : Int32} {v_pile : Nat → Int32} {v_horn : Int32} {v_brass : Int32} {v_coldAhead : Nat → Int32} {v_which : Nat → Int32} {v_whichMany : Int32} {v_bestPass : Int32} {v_bestLive : Int32} {v_bestCode : Int32} {v_traced : Nat → Int32} {v_traceMany : Int32} {v_who : Int32} {v_bitsOf : Nat → Int32} {v_sizeOf : Nat → Int32} {v_number : Nat → Int32} {v_lifted : Nat → Int32} {p0 : Int32} {p1 : Int32} {p2 : Int32} {w_d : Nat → Int32} {w_names : Nat → Int32} {w_pile : Nat → Int32} {r_out : Int32} (h : f_X7_livesWith  v_d v_names v_pile v_coldAhead p0 p1 p2 = some (w_d, w_names, w_pile, r_out)) : MetI l D (tysX cI cS) St0 yX7_livesWith cX7_livesWith 8 (some .boolean) 4 96 [.ref (o 0), .int p0, .int p1, .int p2] (pcX7 o cI v_d v_kept v_images v_found v_aside v_base v_at v_size v_fault v_opened v_isCold v_names v_code v_coded v_pile v_horn v_brass v_coldAhead v_which v_whichMany v_bestPass v_bestLive v_bestCode v_traced v_traceMany v_who v_bitsOf v_sizeOf v_number v_lifted) r_out (pcX7 o cI w_d v_kept v_images v_found v_aside v_base v_at v_size v_fault v_opened v_isCold w_names v_code v_coded w_pile v_horn v_brass v_coldAhead v_which v_whichMany v_bestPass v_bestLive v_bestCode v_traced v_traceMany v_who v_bitsOf v_sizeOf v_number v_lifted) := by
  refine Ent.metI (by decide +kernel) (Nat.le_of_ble_eq_true rfl) ?_
  intro p e s m args below meth c A ls hx hb hr hml hown hts hlocks hA hK hSt hP hD hS hl
  have hown : s.vm.findClass RX7 = some m.cls := hown
  have S : XFix p m c cX7_livesWith 8 s args RX7 := ⟨hx, hb, hml, hown, hts⟩
  have hl : lv_has ls 8 [(0, .ref (o 0)), (1, .int p0), (2, .int p1), (3, .int p2)] := hl
  unfold f_X7_livesWith at h
  refine lv_aload_n hx hb dX7_livesWith_0 rfl (lv_at hl 0 rfl) ?_
  refine lv_iload_n hx hb dX7_livesWith_1 rfl (lv_at hl 1 rfl) ?_
  refine lv_iconst (v := 4) hx hb dX7_livesWith_2 (by decide) ?_
  obtain ⟨r_1, hc3, h⟩ := bd1_s h
  refine x_selfVi (As := [.int p0, .int 4]) (rest := []) St0_ok S (c_X7_of l D cI cS o hc3) yf_X7_of wd10_11 ⟨Nat.le_of_ble_eq_true rfl, Nat.le_of_ble_eq_true rfl⟩ hK hSt hA hP hD hS 0 rfl rfl rfl hl.1 rfl (Nat.le_of_ble_eq_true rfl) dX7_livesWith_3 (Nat.zero_le _) (Nat.zero_le _) (fun H locs hP hD hS => ?_)
  refine lv_istore (lv' := [(4, .int r_1), (0, .ref (o 0)), (1, .int p0), (2, .int p1), (3, .int p2)]) hx hb dX7_livesWith_6 hl (by decide) rfl (fun ls hl => ?_)
  refine lv_aload_n hx hb dX7_livesWith_8 rfl (lv_at hl 1 rfl) ?_
  refine lv_iload_n hx hb dX7_livesWith_9 rfl (lv_at hl 2 rfl) ?_
  refine lv_iconst (v := 5) hx hb dX7_livesWith_10 (by decide) ?_
  obtain ⟨r_2, hc11, h⟩ := bd1_s h
  refine x_selfVi (As := [.int p0, .int 5]) (rest := []) St0_ok S (c_X7_of l D cI cS o hc11) yf_X7_of wd10_11 ⟨Nat.le_of_ble_eq_true rfl, Nat.le_of_ble_eq_true rfl⟩ hK hSt hA hP hD hS 0 rfl rfl rfl hl.1 rfl (Nat.le_of_ble_eq_true rfl) dX7_livesWith_11 (Nat.zero_le _) (Nat.zero_le _) (fun H locs hP hD hS => ?_)
  refine lv_istore (lv' := [(5, .int r_2), (4, .int r_1), (0, .ref (o 0)), (1, .int p0), (2, .int p1), (3, .int p2)]) hx hb dX7_livesWith_14 hl (by decide) rfl (fun ls hl => ?_)
  refine lv_aload_n hx hb dX7_livesWith_16 rfl (lv_at hl 2 rfl) ?_
  refine lv_iload_n hx hb dX7_livesWith_17 rfl (lv_at hl 3 rfl) ?_
  refine lv_iconst (v := 4) hx hb dX7_livesWith_18 (by decide) ?_
  refine lv_iload_n hx hb dX7_livesWith_19 rfl (lv_at hl 4 rfl) ?_
  obtain ⟨v_d_3, hc20, h⟩ := bd1_s h
  refine x_selfVv (As := [.int p0, .int 4, .int p1]) (rest := []) St0_ok S (c_X7_sets l D cI cS o hc20) yf_X7_sets wd6_15 ⟨Nat.le_of_ble_eq_true rfl, Nat.le_of_ble_eq_true rfl⟩ hK hSt hA hP hD hS 0 rfl rfl rfl hl.1 rfl (Nat.le_of_ble_eq_true rfl) dX7_livesWith_20 (Nat.zero_le _) (Nat.zero_le _) (fun H locs hP hD hS => ?_)
  refine lv_iconst (v := 0) hx hb dX7_livesWith_23 (by decide) ?_
  refine lv_istore (lv' := [(6, .int 0), (5, .int r_2), (4, .int r_1), (0, .ref (o 0)), (1, .int p0), (2, .int p1), (3, .int p2)]) hx hb dX7_livesWith_24 hl (by decide) rfl (fun ls hl => ?_)
  obtain ⟨J96, eJ96, h⟩ := jnA_s h
  have wJ96 : ∀ (v_d_4 : Nat → Int32) (v_names_5 : Nat → Int32) (v_pile_6 : Nat → Int32), J96 v_d_4 v_names_5 v_pile_6 = some (w_d, w_names, w_pile, r_out) → ∀ (H : Heap) (locs : List Loc), va_P D vwCl (pcX7 o cI v_d_4 v_kept v_images v_found v_aside v_base v_at v_size v_fault v_opened v_isCold v_names_5 v_code v_coded v_pile_6 v_horn v_brass v_coldAhead v_which v_whichMany v_bestPass v_bestLive v_bestCode v_traced v_traceMany v_who v_bitsOf v_sizeOf v_number v_lifted) H → va_D A (pcX7 o cI v_d_4 v_kept v_images v_found v_aside v_base v_at v_size v_fault v_opened v_isCold v_names_5 v_code v_coded v_pile_6 v_horn v_brass v_coldAhead v_which v_whichMany v_bestPass v_bestLive v_bestCode v_traced v_traceMany v_who v_bitsOf v_sizeOf v_number v_lifted) → va_S A s.heap H locs → ∀ ls : Array Slot, lv_has ls 8 [(0, .ref (o 0)), (1, .int p0), (4, .int r_1), (5, .int r_2)] → WI p l e 4 96 s m args below meth c D (tysX cI cS) A r_out (pcX7 o cI w_d v_kept v_images v_found v_aside v_base v_at v_size v_fault v_opened v_isCold w_names v_code v_coded w_pile v_horn v_brass v_coldAhead v_which v_whichMany v_bestPass v_bestLive v_bestCode v_traced v_traceMany v_who v_bitsOf v_sizeOf v_number v_lifted) H locs (F0 m 96 ls []) := by
      intro v_d_4 v_names_5 v_pile_6 h H locs hP hD hS ls hl
      subst eJ96
      dsimp only at h
      refine lv_aload_n hx hb dX7_livesWith_96 rfl (lv_at hl 0 rfl) ?_
      refine lv_iload_n hx hb dX7_livesWith_97 rfl (lv_at hl 1 rfl) ?_
      obtain ⟨r_7, hc98, h⟩ := bd1_s h
      refine x_selfVi (As := [.int p0]) (rest := []) St0_ok S (c_X7_isDead l D cI cS o hc98) yf_X7_isDead wd10_15 ⟨Nat.le_of_ble_eq_true rfl, Nat.le_of_ble_eq_true rfl⟩ hK hSt hA hP hD hS 0 rfl rfl rfl hl.1 rfl (Nat.le_of_ble_eq_true rfl) dX7_livesWith_98 (Nat.zero_le _) (Nat.zero_le _) (fun H locs hP hD hS => ?_)
      obtain ⟨J109, eJ109, h⟩ := jnA_s h
      have wJ109 : ∀ (t0_8 : Int32), J109 t0_8 = some (w_d, w_names, w_pile, r_out) → ∀ (H : Heap) (locs : List Loc), va_P D vwCl (pcX7 o cI v_d_4 v_kept v_images v_found v_aside v_base v_at v_size v_fault v_opened v_isCold v_names_5 v_code v_coded v_pile_6 v_horn v_brass v_coldAhead v_which v_whichMany v_bestPass v_bestLive v_bestCode v_traced v_traceMany v_who v_bitsOf v_sizeOf v_number v_lifted) H → va_D A (pcX7 o cI v_d_4 v_kept v_images v_found v_aside v_base v_at v_size v_fault v_opened v_isCold v_names_5 v_code v_coded v_pile_6 v_horn v_brass v_coldAhead v_which v_whichMany v_bestPass v_bestLive v_bestCode v_traced v_traceMany v_who v_bitsOf v_sizeOf v_number v_lifted) → va_S A s.heap H locs → ∀ ls : Array Slot, lv_has ls 8 [(0, .ref (o 0)), (1, .int p0), (4, .int r_1), (5, .int r_2)] → WI p l e 4 96 s m args below meth c D (tysX cI cS) A r_out (pcX7 o cI w_d v_kept v_images v_found v_aside v_base v_at v_size v_fault v_opened v_isCold w_names v_code v_coded w_pile v_horn v_brass v_coldAhead v_which v_whichMany v_bestPass v_bestLive v_bestCode v_traced v_traceMany v_who v_bitsOf v_sizeOf v_number v_lifted) H locs (F0 m 109 ls [.int t0_8]) := by
          intro t0_8 h H locs hP hD hS ls hl
          subst eJ109
          dsimp only at h
          refine lv_istore (lv' := [(6, .int t0_8), (0, .ref (o 0)), (1, .int p0), (4, .int r_1), (5, .int r_2)]) hx hb dX7_livesWith_109 hl (by decide) rfl (fun ls hl => ?_)
          refine lv_aload_n hx hb dX7_livesWith_111 rfl (lv_at hl 1 rfl) ?_
          refine lv_iload_n hx hb dX7_livesWith_112 rfl (lv_at hl 2 rfl) ?_
          refine lv_iconst (v := 4) hx hb dX7_livesWith_113 (by decide) ?_
          refine lv_iload hx hb dX7_livesWith_114 (lv_at hl 3 rfl) ?_
          obtain ⟨v_d_9, hc116, h⟩ := bd1_s h
          refine x_selfVv (As := [.int p0, .int 4, .int r_1]) (rest := []) St0_ok S (c_X7_sets l D cI cS o hc116) yf_X7_sets wd6_15 ⟨Nat.le_of_ble_eq_true rfl, Nat.le_of_ble_eq_true rfl⟩ hK hSt hA hP hD hS 0 rfl rfl rfl hl.1 rfl (Nat.le_of_ble_eq_true rfl) dX7_livesWith_116 (Nat.zero_le _) (Nat.zero_le _) (fun H locs hP hD hS => ?_)
          refine lv_aload_n hx hb dX7_livesWith_119 rfl (lv_at hl 1 rfl) ?_
          refine lv_iload_n hx hb dX7_livesWith_120 rfl (lv_at hl 2 rfl) ?_
          refine lv_iconst (v := 5) hx hb dX7_livesWith_121 (by decide) ?_
          refine lv_iload hx hb dX7_livesWith_122 (lv_at hl 4 rfl) ?_
          obtain ⟨v_d_10, hc124, h⟩ := bd1_s h
          refine x_selfVv (As := [.int p0, .int 5, .int r_2]) (rest := []) St0_ok S (c_X7_sets l D cI cS o hc124) yf_X7_sets wd6_15 ⟨Nat.le_of_ble_eq_true rfl, Nat.le_of_ble_eq_true rfl⟩ hK hSt hA hP hD hS 0 rfl rfl rfl hl.1 rfl (Nat.le_of_ble_eq_true rfl) dX7_livesWith_124 (Nat.zero_le _) (Nat.zero_le _) (fun H locs hP hD hS => ?_)
          refine lv_iload hx hb dX7_livesWith_127 (lv_at hl 0 rfl) ?_
          obtain ⟨hz129, h⟩ := bzA_s h
          cases h
          exact x_zret hx hb hr hlocks hK hP hD hS rfl rfl hz129 dX7_livesWith_129
      refine x_if_ne (tgt := 108) hx hb h dX7_livesWith_101 (by decide) (fun c101 h => ?_) (fun c101 h => ?_)
      · refine lv_iconst (v := 0) hx hb dX7_livesWith_108 (by decide) ?_
        exact wJ109 0 h _ _ hP hD hS _ (lv_sub hl [0, 1, 2, 3] rfl)
      · refine lv_iconst (v := 1) hx hb dX7_livesWith_104 (by decide) ?_
        refine lv_goto (tgt := 109) hx hb dX7_livesWith_105 (by decide) ?_
        exact wJ109 1 h _ _ hP hD hS _ (lv_sub hl [0, 1, 2, 3] rfl)
  have wf_X7_livesWith_L26 : ∀ (k_n : Nat) (v_d_11 : Nat → Int32) (v_names_12 : Nat → Int32) (v_pile_13 : Nat → Int32) (l6_14 : Int32), f_X7_livesWith_L26 v_coldAhead p0 p2 J96 k_n v_d_11 v_names_12 v_pile_13 l6_14 = some (w_d, w_names, w_pile, r_out) → ∀ (H : Heap) (locs : List Loc), va_P D vwCl (pcX7 o cI v_d_11 v_kept v_images v_found v_aside v_base v_at v_size v_fault v_opened v_isCold v_names_12 v_code v_coded v_pile_13 v_horn v_brass v_coldAhead v_which v_whichMany v_bestPass v_bestLive v_bestCode v_traced v_traceMany v_who v_bitsOf v_sizeOf v_number v_lifted) H → va_D A (pcX7 o cI v_d_11 v_kept v_images v_found v_aside v_base v_at v_size v_fault v_opened v_isCold v_names_12 v_code v_coded v_pile_13 v_horn v_brass v_coldAhead v_which v_whichMany v_bestPass v_bestLive v_bestCode v_traced v_traceMany v_who v_bitsOf v_sizeOf v_number v_lifted) → va_S A s.heap H locs → ∀ ls : Array Slot, lv_has ls 8 [(0, .ref (o 0)), (1, .int p0), (3, .int p2), (4, .int r_1), (5, .int r_2), (6, .int l6_14)] → WI p l e 4 96 s m args below meth c D (tysX cI cS) A r_out (pcX7 o cI w_d v_kept v_images v_found v_aside v_base v_at v_size v_fault v_opened v_isCold w_names v_code v_coded w_pile v_horn v_brass v_coldAhead v_which v_whichMany v_bestPass v_bestLive v_bestCode v_traced v_traceMany v_who v_bitsOf v_sizeOf v_number v_lifted) H locs (F0 m 26 ls []) := by
      intro k_n
      induction k_n with
      | zero => intro v_d_11 v_names_12 v_pile_13 l6_14 h; rw [f_X7_livesWith_L26] at h; cases h
      | succ k_n ih =>
        intro v_d_11 v_names_12 v_pile_13 l6_14 h H locs hP hD hS ls hl
        rw [f_X7_livesWith_L26] at h
        refine lv_iload hx hb dX7_livesWith_26 (lv_at hl 5 rfl) ?_
        refine lv_iload_n hx hb dX7_livesWith_28 rfl (lv_at hl 2 rfl) ?_
        refine x_icmp_ge (tgt := 96) hx hb h dX7_livesWith_29 (by decide) (fun c29 h => ?_) (fun c29 h => ?_)
        · exact wJ96 v_d_11 v_names_12 v_pile_13 h _ _ hP hD hS _ (lv_sub hl [0, 1, 3, 4] rfl)
        · refine lv_aload_n hx hb dX7_livesWith_32 rfl (lv_at hl 0 rfl) ?_
          refine lv_iload_n hx hb dX7_livesWith_33 rfl (lv_at hl 1 rfl) ?_
          obtain ⟨r_15, hc34, h⟩ := bd1_s h
          refine x_selfVi (As := [.int p0]) (rest := []) St0_ok S (c_X7_isDead l D cI cS o hc34) yf_X7_isDead wd10_15 ⟨Nat.le_of_ble_eq_true rfl, Nat.le_of_ble_eq_true rfl⟩ hK hSt hA hP hD hS 0 rfl rfl rfl hl.1 rfl (Nat.le_of_ble_eq_true rfl) dX7_livesWith_34 (Nat.zero_le _) (Nat.zero_le _) (fun H locs hP hD hS => ?_)
          refine x_if_ne (tgt := 96) hx hb h dX7_livesWith_37 (by decide) (fun c37 h => ?_) (fun c37 h => ?_)
          · exact wJ96 v_d_11 v_names_12 v_pile_13 h _ _ hP hD hS _ (lv_sub hl [0, 1, 3, 4] rfl)
          · refine lv_aload_n hx hb dX7_livesWith_40 rfl (lv_at hl 0 rfl) ?_
            refine gt_X7_31 S hK hP 0 rfl rfl dX7_livesWith_41 ?_
            refine lv_iload hx hb dX7_livesWith_44 (lv_at hl 5 rfl) ?_
            refine x_ald hx hb hK hP 8 h rfl rfl dX7_livesWith_46 (fun x_16 ex_16 h => ?_)
            obtain ⟨J67, eJ67, h⟩ := jnA_s h
            have wJ67 : ∀ (v_names_17 : Nat → Int32) (v_pile_18 : Nat → Int32) (t0_19 : Int32), J67 v_names_17 v_pile_18 t0_19 = some (w_d, w_names, w_pile, r_out) → ∀ (H : Heap) (locs : List Loc), va_P D vwCl (pcX7 o cI v_d_11 v_kept v_images v_found v_aside v_base v_at v_size v_fault v_opened v_isCold v_names_17 v_code v_coded v_pile_18 v_horn v_brass v_coldAhead v_which v_whichMany v_bestPass v_bestLive v_bestCode v_traced v_traceMany v_who v_bitsOf v_sizeOf v_number v_lifted) H → va_D A (pcX7 o cI v_d_11 v_kept v_images v_found v_aside v_base v_at v_size v_fault v_opened v_isCold v_names_17 v_code v_coded v_pile_18 v_horn v_brass v_coldAhead v_which v_whichMany v_bestPass v_bestLive v_bestCode v_traced v_traceMany v_who v_bitsOf v_sizeOf v_number v_lifted) → va_S A s.heap H locs → ∀ ls : Array Slot, lv_has ls 8 [(0, .ref (o 0)), (1, .int p0), (3, .int p2), (4, .int r_1), (5, .int r_2), (6, .int l6_14)] → WI p l e 4 96 s m args below meth c D (tysX cI cS) A r_out (pcX7 o cI w_d v_kept v_images v_found v_aside v_base v_at v_size v_fault v_opened v_isCold w_names v_code v_coded w_pile v_horn v_brass v_coldAhead v_which v_whichMany v_bestPass v_bestLive v_bestCode v_traced v_traceMany v_who v_bitsOf v_sizeOf v_number v_lifted) H locs (F0 m 67 ls [.int t0_19]) := by
                intro v_names_17 v_pile_18 t0_19 h H locs hP hD hS ls hl
                subst eJ67
                dsimp only at h
                refine lv_istore (lv' := [(7, .int t0_19), (0, .ref (o 0)), (1, .int p0), (3, .int p2), (4, .int r_1), (5, .int r_2), (6, .int l6_14)]) hx hb dX7_livesWith_67 hl (by decide) rfl (fun ls hl => ?_)
                refine lv_aload_n hx hb dX7_livesWith_69 rfl (lv_at hl 1 rfl) ?_
                refine lv_iload_n hx hb dX7_livesWith_70 rfl (lv_at hl 2 rfl) ?_
                refine lv_iconst (v := 5) hx hb dX7_livesWith_71 (by decide) ?_
                refine lv_aload_n hx hb dX7_livesWith_72 rfl (lv_at hl 1 rfl) ?_
                refine lv_iload_n hx hb dX7_livesWith_73 rfl (lv_at hl 2 rfl) ?_
                refine lv_iconst (v := 5) hx hb dX7_livesWith_74 (by decide) ?_
                obtain ⟨r_20, hc75, h⟩ := bd1_s h
                refine x_selfVi (As := [.int p0, .int 5]) (rest := [.int 5, .int p0, .ref (o 0)]) St0_ok S (c_X7_of l D cI cS o hc75) yf_X7_of wd10_11 ⟨Nat.le_of_ble_eq_true rfl, Nat.le_of_ble_eq_true rfl⟩ hK hSt hA hP hD hS 0 rfl rfl rfl hl.1 rfl (Nat.le_of_ble_eq_true rfl) dX7_livesWith_75 (Nat.zero_le _) (Nat.zero_le _) (fun H locs hP hD hS => ?_)
                refine lv_iload hx hb dX7_livesWith_78 (lv_at hl 0 rfl) ?_
                refine lv_iadd hx hb dX7_livesWith_80 ?_
                refine lv_iconst (v := 0) hx hb dX7_livesWith_81 (by decide) ?_
                refine lv_bipush (v := 99) hx hb dX7_livesWith_82 (by decide) ?_
                obtain ⟨r_21, hc84, h⟩ := bd1_s h
                refine x_statI (As := [.int (r_20 + t0_19), .int 0, .int 99]) (rest := [.int 5, .int p0, .ref (o 0)]) St0_ok S (c_X7_held l D cI cS o hc84) ys_X7_held wd12_6 ⟨Nat.le_of_ble_eq_true rfl, Nat.le_of_ble_eq_true rfl⟩ hK hSt hA hP hD hS rfl hl.1 rfl (Nat.le_of_ble_eq_true rfl) dX7_livesWith_84 (Nat.zero_le _) (Nat.zero_le _) (fun H locs hP hD hS => ?_)
                obtain ⟨v_d_22, hc87, h⟩ := bd1_s h
                refine x_selfVv (As := [.int p0, .int 5, .int r_21]) (rest := []) St0_ok S (c_X7_sets l D cI cS o hc87) yf_X7_sets wd6_15 ⟨Nat.le_of_ble_eq_true rfl, Nat.le_of_ble_eq_true rfl⟩ hK hSt hA hP hD hS 0 rfl rfl rfl hl.1 rfl (Nat.le_of_ble_eq_true rfl) dX7_livesWith_87 (Nat.zero_le _) (Nat.zero_le _) (fun H locs hP hD hS => ?_)
                obtain ⟨l6_23, el6_23, h⟩ := nmA_s h
                refine lv_iinc (v := l6_23) (lv' := [(6, .int l6_23), (7, .int t0_19), (0, .ref (o 0)), (1, .int p0), (3, .int p2), (4, .int r_1), (5, .int r_2)]) hx hb dX7_livesWith_90 hl (k := 6) rfl (by rw [el6_23]; exact congrArg _ (by decide)) (by decide) rfl (fun ls hl => ?_)
                refine lv_goto (tgt := 26) hx hb dX7_livesWith_93 (by decide) ?_
                exact ih v_d_22 v_names_17 v_pile_18 l6_23 h _ _ hP hD hS _ (lv_sub hl [2, 3, 4, 5, 6, 0] rfl)
            refine x_if_ne (tgt := 54) hx hb h dX7_livesWith_47 (by decide) (fun c47 h => ?_) (fun c47 h => ?_)
            · refine lv_aload_n hx hb dX7_livesWith_54 rfl (lv_at hl 0 rfl) ?_
              refine lv_iload_n hx hb dX7_livesWith_55 rfl (lv_at hl 1 rfl) ?_
              refine lv_aload_n hx hb dX7_livesWith_56 rfl (lv_at hl 0 rfl) ?_
              refine gt_X7_31 S hK hP 0 rfl rfl dX7_livesWith_57 ?_
              refine lv_iload hx hb dX7_livesWith_60 (lv_at hl 5 rfl) ?_
              refine x_ald hx hb hK hP 8 h rfl rfl dX7_livesWith_62 (fun x_24 ex_24 h => ?_)
              obtain ⟨v_names_25, v_pile_26, r_27, hc63, h⟩ := bd3_s h
              refine x_selfVi (As := [.int p0, .int x_24]) (rest := []) St0_ok S (c_X7_chillOf l D cI cS o hc63) yf_X7_chillOf wd12_9 ⟨Nat.le_of_ble_eq_true rfl, Nat.le_of_ble_eq_true rfl⟩ hK hSt hA hP hD hS 0 rfl rfl rfl hl.1 rfl (Nat.le_of_ble_eq_true rfl) dX7_livesWith_63 (Nat.zero_le _) (Nat.zero_le _) (fun H locs hP hD hS => ?_)
              refine lv_ineg hx hb dX7_livesWith_66 ?_
              exact wJ67 v_names_25 v_pile_26 (-r_27) h _ _ hP hD hS _ (lv_sub hl [0, 1, 2, 3, 4, 5] rfl)
            · refine lv_iconst (v := 1) hx hb dX7_livesWith_50 (by decide) ?_
              refine lv_goto (tgt := 67) hx hb dX7_livesWith_51 (by decide) ?_
              exact wJ67 v_names_12 v_pile_13 1 h _ _ hP hD hS _ (lv_sub hl [0, 1, 2, 3, 4, 5] rfl)
  exact wf_X7_livesWith_L26 300 v_d_3 v_names v_pile 0 h _ _ hP hD hS _ (lv_sub hl [3, 4, 6, 2, 1, 0] rfl)
