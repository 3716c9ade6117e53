def f_X7_judge_L30 (v_d : Nat → Int32) (v_sizeOf : Nat → Int32) (v_number : Nat → Int32) (p0 : Int32) (J76 : Int32 → Option ((Nat → Int32) × (Int32))) : Nat → Int32 → Option ((Nat → Int32) × (Int32))
  | 0, _ => none
  | k_n + 1, l2_6 => rdA 4 v_sizeOf p0 (fun x_7 => (if x_7 ≤ l2_6 then J76 l2_6 else rdA 248 v_d 0 (fun x_8 => (if x_8 ≤ l2_6 then J76 l2_6 else rdA 160 v_number ((40 * p0) + l2_6) (fun x_9 => bd1 (f_X7_of v_d l2_6 4) (fun r_10 => (if x_9 = r_10 then nmA (l2_6 + 1) (fun l2_11 => f_X7_judge_L30 v_d v_sizeOf v_number p0 J76 k_n l2_11) else J76 l2_6)))))))
def f_X7_judge  (v_d : Nat → Int32) (v_found : Nat → Int32) (v_bitsOf : Nat → Int32) (v_sizeOf : Nat → Int32) (v_number : Nat → Int32) (p0 : Int32) : Option ((Nat → Int32) × (Int32)) :=
  bd1 (f_X7_isSheet p0) (fun r_1 => (if r_1 = 0 then bd2 (f_X7_finds v_found 1) (fun v_found_14 r_15 => some (v_found_14, r_15)) else rdA 4 v_bitsOf p0 (fun x_2 => (if x_2 = 0 then bd2 (f_X7_finds v_found 2) (fun v_found_12 r_13 => some (v_found_12, r_13)) else jnA (fun (l2_3 : Int32) => rdA 4 v_sizeOf p0 (fun x_4 => (if l2_3 = x_4 then rdA 248 v_d 0 (fun x_5 => (if l2_3 = x_5 then some (v_found, (-1)) else some (v_found, l2_3))) else some (v_found, l2_3)))) (fun J76 => f_X7_judge_L30 v_d v_sizeOf v_number p0 J76 300 0)))))
set_option maxHeartbeats 600000 in
set_option maxRecDepth 100000 in
theorem c_X7_judge (l : Launch) (D : va_G) (cI cS : ClassId) (o : Nat → Nat) {v_d : Nat → Int32} {v_kept : Nat → Int32} {v_images : Int32} {v_found : Nat → Int32} {v_aside : Nat → Int32} {v_base : Int32} {v_at : Int32} {v_size : Int32} {v_fault : Int32} {v_opened : Int32} {v_isCold : Int32} {v_names : Nat → Int32} {v_code : Nat → Int32} {v_coded : Int32} {v_pile : Nat → Int32} {v_horn : Int32} {v_brass : Int32} {v_coldAhead : Nat → Int32} {v_which : Nat → Int32} {v_whichMany : Int32} {v_bestPass : Int32} {v_bestLive : Int32} {v_bestCode : Int32} {v_traced : Nat → Int32} {v_traceMany : Int32} {v_who : Int32} {v_bitsOf : Nat → Int32} {v_sizeOf : Nat → Int32} {v_number : Nat → Int32} {v_lifted : Nat → Int32} {p0 : Int32} {w_found : Nat → Int32} {r_out : Int32} (h : f_X7_judge  v_d v_found v_bitsOf v_sizeOf v_number p0 = some (w_found, r_out)) : MetI l D (tysX cI cS) St0 yX7_judge cX7_judge 3 (some .int) 2 45 [.ref (o 0), .int p0] (pcX7 o cI v_d v_kept v_images v_found v_aside v_base v_at v_size v_fault v_opened v_isCold v_names v_code v_coded v_pile v_horn v_brass v_coldAhead v_which v_whichMany v_bestPass v_bestLive v_bestCode v_traced v_traceMany v_who v_bitsOf v_sizeOf v_number v_lifted) r_out (pcX7 o cI v_d v_kept v_images w_found v_aside v_base v_at v_size v_fault v_opened v_isCold v_names v_code v_coded v_pile v_horn v_brass v_coldAhead v_which v_whichMany v_bestPass v_bestLive v_bestCode v_traced v_traceMany v_who v_bitsOf v_sizeOf v_number v_lifted) := by
  refine Ent.metI (by decide +kernel) (Nat.le_of_ble_eq_true rfl) ?_
  intro p e s m args below meth c A ls hx hb hr hml hown hts hlocks hA hK hSt hP hD hS hl
  have hown : s.vm.findClass RX7 = some m.cls := hown
  have S : XFix p m c cX7_judge 3 s args RX7 := ⟨hx, hb, hml, hown, hts⟩
  have hl : lv_has ls 3 [(0, .ref (o 0)), (1, .int p0)] := hl
  unfold f_X7_judge at h
  refine lv_iload_n hx hb dX7_judge_0 rfl (lv_at hl 1 rfl) ?_
  obtain ⟨r_1, hc1, h⟩ := bd1_s h
  refine x_statI (As := [.int p0]) (rest := []) St0_ok S (c_X7_isSheet l D cI cS o hc1) ys_X7_isSheet wd33_3 ⟨Nat.le_of_ble_eq_true rfl, Nat.le_of_ble_eq_true rfl⟩ hK hSt hA hP hD hS rfl hl.1 rfl (Nat.le_of_ble_eq_true rfl) dX7_judge_1 (Nat.zero_le _) (Nat.zero_le _) (fun H locs hP hD hS => ?_)
  refine x_if_ne (tgt := 13) hx hb h dX7_judge_4 (by decide) (fun c4 h => ?_) (fun c4 h => ?_)
  · refine lv_aload_n hx hb dX7_judge_13 rfl (lv_at hl 0 rfl) ?_
    refine gt_X7_40 S hK hP 0 rfl rfl dX7_judge_14 ?_
    refine lv_iload_n hx hb dX7_judge_17 rfl (lv_at hl 1 rfl) ?_
    refine x_ald hx hb hK hP 11 h rfl rfl dX7_judge_18 (fun x_2 ex_2 h => ?_)
    refine x_if_ne (tgt := 28) hx hb h dX7_judge_19 (by decide) (fun c19 h => ?_) (fun c19 h => ?_)
    · refine lv_iconst (v := 0) hx hb dX7_judge_28 (by decide) ?_
      refine lv_istore_n (lv' := [(2, .int 0), (0, .ref (o 0)), (1, .int p0)]) hx hb dX7_judge_29 rfl hl (by decide) rfl (fun ls hl => ?_)
      obtain ⟨J76, eJ76, h⟩ := jnA_s h
      have wJ76 : ∀ (l2_3 : Int32), J76 l2_3 = some (w_found, r_out) → ∀ (H : Heap) (locs : List Loc), va_P D vwCl (pcX7 o cI v_d v_kept v_images v_found v_aside v_base v_at v_size v_fault v_opened v_isCold v_names v_code v_coded v_pile v_horn v_brass v_coldAhead v_which v_whichMany v_bestPass v_bestLive v_bestCode v_traced v_traceMany v_who v_bitsOf v_sizeOf v_number v_lifted) H → va_D A (pcX7 o cI v_d v_kept v_images v_found v_aside v_base v_at v_size v_fault v_opened v_isCold v_names v_code v_coded v_pile v_horn v_brass v_coldAhead v_which v_whichMany v_bestPass v_bestLive v_bestCode v_traced v_traceMany v_who v_bitsOf v_sizeOf v_number v_lifted) → va_S A s.heap H locs → ∀ ls : Array Slot, lv_has ls 3 [(0, .ref (o 0)), (1, .int p0), (2, .int l2_3)] → WI p l e 2 45 s m args below meth c D (tysX cI cS) A r_out (pcX7 o cI v_d v_kept v_images w_found v_aside v_base v_at v_size v_fault v_opened v_isCold v_names v_code v_coded v_pile v_horn v_brass v_coldAhead v_which v_whichMany v_bestPass v_bestLive v_bestCode v_traced v_traceMany v_who v_bitsOf v_sizeOf v_number v_lifted) H locs (F0 m 76 ls []) := by
          intro l2_3 h H locs hP hD hS ls hl
          subst eJ76
          dsimp only at h
          refine lv_iload_n hx hb dX7_judge_76 rfl (lv_at hl 2 rfl) ?_
          refine lv_aload_n hx hb dX7_judge_77 rfl (lv_at hl 0 rfl) ?_
          refine gt_X7_43 S hK hP 0 rfl rfl dX7_judge_78 ?_
          refine lv_iload_n hx hb dX7_judge_81 rfl (lv_at hl 1 rfl) ?_
          refine x_ald hx hb hK hP 12 h rfl rfl dX7_judge_82 (fun x_4 ex_4 h => ?_)
          refine x_icmp_ne (tgt := 100) hx hb h dX7_judge_83 (by decide) (fun c83 h => ?_) (fun c83 h => ?_)
          · refine lv_iload_n hx hb dX7_judge_100 rfl (lv_at hl 2 rfl) ?_
            cases h
            exact x_iret hx hb hr hlocks hK hP hD hS rfl rfl dX7_judge_101
          · refine lv_iload_n hx hb dX7_judge_86 rfl (lv_at hl 2 rfl) ?_
            refine lv_aload_n hx hb dX7_judge_87 rfl (lv_at hl 0 rfl) ?_
            refine gt_X7_7 S hK hP 0 rfl rfl dX7_judge_88 ?_
            refine lv_iconst (v := 0) hx hb dX7_judge_91 (by decide) ?_
            refine x_ald hx hb hK hP 1 h rfl rfl dX7_judge_92 (fun x_5 ex_5 h => ?_)
            refine x_icmp_ne (tgt := 100) hx hb h dX7_judge_93 (by decide) (fun c93 h => ?_) (fun c93 h => ?_)
            · refine lv_iload_n hx hb dX7_judge_100 rfl (lv_at hl 2 rfl) ?_
              cases h
              exact x_iret hx hb hr hlocks hK hP hD hS rfl rfl dX7_judge_101
            · refine lv_iconst (v := (-1)) hx hb dX7_judge_96 (by decide) ?_
              refine lv_goto (tgt := 101) hx hb dX7_judge_97 (by decide) ?_
              cases h
              exact x_iret hx hb hr hlocks hK hP hD hS rfl rfl dX7_judge_101
      have wf_X7_judge_L30 : ∀ (k_n : Nat) (l2_6 : Int32), f_X7_judge_L30 v_d v_sizeOf v_number p0 J76 k_n l2_6 = some (w_found, r_out) → ∀ (H : Heap) (locs : List Loc), va_P D vwCl (pcX7 o cI v_d v_kept v_images v_found v_aside v_base v_at v_size v_fault v_opened v_isCold v_names v_code v_coded v_pile v_horn v_brass v_coldAhead v_which v_whichMany v_bestPass v_bestLive v_bestCode v_traced v_traceMany v_who v_bitsOf v_sizeOf v_number v_lifted) H → va_D A (pcX7 o cI v_d v_kept v_images v_found v_aside v_base v_at v_size v_fault v_opened v_isCold v_names v_code v_coded v_pile v_horn v_brass v_coldAhead v_which v_whichMany v_bestPass v_bestLive v_bestCode v_traced v_traceMany v_who v_bitsOf v_sizeOf v_number v_lifted) → va_S A s.heap H locs → ∀ ls : Array Slot, lv_has ls 3 [(0, .ref (o 0)), (1, .int p0), (2, .int l2_6)] → WI p l e 2 45 s m args below meth c D (tysX cI cS) A r_out (pcX7 o cI v_d v_kept v_images w_found v_aside v_base v_at v_size v_fault v_opened v_isCold v_names v_code v_coded v_pile v_horn v_brass v_coldAhead v_which v_whichMany v_bestPass v_bestLive v_bestCode v_traced v_traceMany v_who v_bitsOf v_sizeOf v_number v_lifted) H locs (F0 m 30 ls []) := by
          intro k_n
          induction k_n with
          | zero => intro l2_6 h; rw [f_X7_judge_L30] at h; cases h
          | succ k_n ih =>
            intro l2_6 h H locs hP hD hS ls hl
            rw [f_X7_judge_L30] at h
            refine lv_iload_n hx hb dX7_judge_30 rfl (lv_at hl 2 rfl) ?_
            refine lv_aload_n hx hb dX7_judge_31 rfl (lv_at hl 0 rfl) ?_
            refine gt_X7_43 S hK hP 0 rfl rfl dX7_judge_32 ?_
            refine lv_iload_n hx hb dX7_judge_35 rfl (lv_at hl 1 rfl) ?_
            refine x_ald hx hb hK hP 12 h rfl rfl dX7_judge_36 (fun x_7 ex_7 h => ?_)
            refine x_icmp_ge (tgt := 76) hx hb h dX7_judge_37 (by decide) (fun c37 h => ?_) (fun c37 h => ?_)
            · exact wJ76 l2_6 h _ _ hP hD hS _ (lv_sub hl [0, 1, 2] rfl)
            · refine lv_iload_n hx hb dX7_judge_40 rfl (lv_at hl 2 rfl) ?_
              refine lv_aload_n hx hb dX7_judge_41 rfl (lv_at hl 0 rfl) ?_
              refine gt_X7_7 S hK hP 0 rfl rfl dX7_judge_42 ?_
              refine lv_iconst (v := 0) hx hb dX7_judge_45 (by decide) ?_
              refine x_ald hx hb hK hP 1 h rfl rfl dX7_judge_46 (fun x_8 ex_8 h => ?_)
              refine x_icmp_ge (tgt := 76) hx hb h dX7_judge_47 (by decide) (fun c47 h => ?_) (fun c47 h => ?_)
              · exact wJ76 l2_6 h _ _ hP hD hS _ (lv_sub hl [0, 1, 2] rfl)
              · refine lv_aload_n hx hb dX7_judge_50 rfl (lv_at hl 0 rfl) ?_
                refine gt_X7_46 S hK hP 0 rfl rfl dX7_judge_51 ?_
                refine lv_bipush (v := 40) hx hb dX7_judge_54 (by decide) ?_
                refine lv_iload_n hx hb dX7_judge_56 rfl (lv_at hl 1 rfl) ?_
                refine lv_imul hx hb dX7_judge_57 ?_
                refine lv_iload_n hx hb dX7_judge_58 rfl (lv_at hl 2 rfl) ?_
                refine lv_iadd hx hb dX7_judge_59 ?_
                refine x_ald hx hb hK hP 13 h rfl rfl dX7_judge_60 (fun x_9 ex_9 h => ?_)
                refine lv_aload_n hx hb dX7_judge_61 rfl (lv_at hl 0 rfl) ?_
                refine lv_iload_n hx hb dX7_judge_62 rfl (lv_at hl 2 rfl) ?_
                refine lv_iconst (v := 4) hx hb dX7_judge_63 (by decide) ?_
                obtain ⟨r_10, hc64, h⟩ := bd1_s h
                refine x_selfVi (As := [.int l2_6, .int 4]) (rest := [.int x_9]) St0_ok S (c_X7_of l D cI cS o hc64) yf_X7_of wd10_11 ⟨Nat.le_of_ble_eq_true rfl, Nat.le_of_ble_eq_true rfl⟩ hK hSt hA hP hD hS 0 rfl rfl rfl hl.1 rfl (Nat.le_of_ble_eq_true rfl) dX7_judge_64 (Nat.zero_le _) (Nat.zero_le _) (fun H locs hP hD hS => ?_)
                refine x_icmp_ne (tgt := 76) hx hb h dX7_judge_67 (by decide) (fun c67 h => ?_) (fun c67 h => ?_)
                · exact wJ76 l2_6 h _ _ hP hD hS _ (lv_sub hl [0, 1, 2] rfl)
                · obtain ⟨l2_11, el2_11, h⟩ := nmA_s h
                  refine lv_iinc (v := l2_11) (lv' := [(2, .int l2_11), (0, .ref (o 0)), (1, .int p0)]) hx hb dX7_judge_70 hl (k := 2) rfl (by rw [el2_11]; exact congrArg _ (by decide)) (by decide) rfl (fun ls hl => ?_)
                  refine lv_goto (tgt := 30) hx hb dX7_judge_73 (by decide) ?_
                  exact ih l2_11 h _ _ hP hD hS _ (lv_sub hl [1, 2, 0] rfl)
      exact wf_X7_judge_L30 300 0 h _ _ hP hD hS _ (lv_sub hl [1, 2, 0] rfl)
    · refine lv_aload_n hx hb dX7_judge_22 rfl (lv_at hl 0 rfl) ?_
      refine lv_iconst (v := 2) hx hb dX7_judge_23 (by decide) ?_
      obtain ⟨v_found_12, r_13, hc24, h⟩ := bd2_s h
      refine x_selfVi (As := [.int 2]) (rest := []) St0_ok S (c_X7_finds l D cI cS o hc24) yf_X7_finds wd6_10 ⟨Nat.le_of_ble_eq_true rfl, Nat.le_of_ble_eq_true rfl⟩ hK hSt hA hP hD hS 0 rfl rfl rfl hl.1 rfl (Nat.le_of_ble_eq_true rfl) dX7_judge_24 (Nat.zero_le _) (Nat.zero_le _) (fun H locs hP hD hS => ?_)
      cases h
      exact x_iret hx hb hr hlocks hK hP hD hS rfl rfl dX7_judge_27
  · refine lv_aload_n hx hb dX7_judge_7 rfl (lv_at hl 0 rfl) ?_
    refine lv_iconst (v := 1) hx hb dX7_judge_8 (by decide) ?_
    obtain ⟨v_found_14, r_15, hc9, h⟩ := bd2_s h
    refine x_selfVi (As := [.int 1]) (rest := []) St0_ok S (c_X7_finds l D cI cS o hc9) yf_X7_finds wd6_10 ⟨Nat.le_of_ble_eq_true rfl, Nat.le_of_ble_eq_true rfl⟩ hK hSt hA hP hD hS 0 rfl rfl rfl hl.1 rfl (Nat.le_of_ble_eq_true rfl) dX7_judge_9 (Nat.zero_le _) (Nat.zero_le _) (fun H locs hP hD hS => ?_)
    cases h
    exact x_iret hx hb hr hlocks hK hP hD hS rfl rfl dX7_judge_12

def f_X7_image_L2 (v_d : Nat → Int32) (J27 : (Nat → Int32) → Option ((Nat → Int32) × (Int32) × (Int32))) : Nat → (Nat → Int32) → Int32 → Option ((Nat → Int32) × (Int32) × (Int32))
  | 0, _, _ => none
  | k_n + 1, v_kept_3, l1_4 => (if 248 ≤ l1_4 then J27 v_kept_3 else rdA 248 v_d l1_4 (fun x_5 => wrA 248 v_kept_3 l1_4 x_5 (fun v_kept_6 => nmA (l1_4 + 1) (fun l1_7 => f_X7_image_L2 v_d J27 k_n v_kept_6 l1_7))))
def f_X7_image  (v_d : Nat → Int32) (v_kept : Nat → Int32) (v_images : Int32)  : Option ((Nat → Int32) × (Int32) × (Int32)) :=
  jnA (fun (v_kept_1 : Nat → Int32) => nmA (v_images + 1) (fun v_images_2 => some (v_kept_1, v_images_2, v_images_2))) (fun J27 => f_X7_image_L2 v_d J27 300 v_kept 0)
set_option maxHeartbeats 600000 in
set_option maxRecDepth 100000 in
theorem c_X7_image (l : Launch) (D : va_G) (cI cS : ClassId) (o : Nat → Nat) {v_d : Nat → Int32} {v_kept : Nat → Int32} {v_images : Int32} {v_found : Nat → Int32} {v_aside : Nat → Int32} {v_base : Int32} {v_at : Int32} {v_size : Int32} {v_fault : Int32} {v_opened : Int32} {v_isCold : Int32} {v_names : Nat → Int32} {v_code : Nat → Int32} {v_coded : Int32} {v_pile : Nat → Int32} {v_horn : Int32} {v_brass : Int32} {v_coldAhead : Nat → Int32} {v_which : Nat → Int32} {v_whichMany : Int32} {v_bestPass : Int32} {v_bestLive : Int32} {v_bestCode : Int32} {v_traced : Nat → Int32} {v_traceMany : Int32} {v_who : Int32} {v_bitsOf : Nat → Int32} {v_sizeOf : Nat → Int32} {v_number : Nat → Int32} {v_lifted : Nat → Int32}  {w_kept : Nat → Int32} {w_images : Int32} {r_out : Int32} (h : f_X7_image  v_d v_kept v_images  = some (w_kept, w_images, r_out)) : MetI l D (tysX cI cS) St0 yX7_image cX7_image 2 (some .int) 0 0 [.ref (o 0)] (pcX7 o cI v_d v_kept v_images v_found v_aside v_base v_at v_size v_fault v_opened v_isCold v_names v_code v_coded v_pile v_horn v_brass v_coldAhead v_which v_whichMany v_bestPass v_bestLive v_bestCode v_traced v_traceMany v_who v_bitsOf v_sizeOf v_number v_lifted) r_out (pcX7 o cI v_d w_kept w_images v_found v_aside v_base v_at v_size v_fault v_opened v_isCold v_names v_code v_coded v_pile v_horn v_brass v_coldAhead v_which v_whichMany v_bestPass v_bestLive v_bestCode v_traced v_traceMany v_who v_bitsOf v_sizeOf v_number v_lifted) := by
  refine Ent.metI (by decide +kernel) (Nat.le_of_ble_eq_true rfl) ?_
  intro p e s m args below meth c A ls hx hb hr hml hown hts hlocks hA hK hSt hP hD hS hl
  have hown : s.vm.findClass RX7 = some m.cls := hown
  have S : XFix p m c cX7_image 2 s args RX7 := ⟨hx, hb, hml, hown, hts⟩
  have hl : lv_has ls 2 [(0, .ref (o 0))] := hl
  unfold f_X7_image at h
  refine lv_iconst (v := 0) hx hb dX7_image_0 (by decide) ?_
  refine lv_istore_n (lv' := [(1, .int 0), (0, .ref (o 0))]) hx hb dX7_image_1 rfl hl (by decide) rfl (fun ls hl => ?_)
  obtain ⟨J27, eJ27, h⟩ := jnA_s h
  have wJ27 : ∀ (v_kept_1 : Nat → Int32), J27 v_kept_1 = some (w_kept, w_images, r_out) → ∀ (H : Heap) (locs : List Loc), va_P D vwCl (pcX7 o cI v_d v_kept_1 v_images v_found v_aside v_base v_at v_size v_fault v_opened v_isCold v_names v_code v_coded v_pile v_horn v_brass v_coldAhead v_which v_whichMany v_bestPass v_bestLive v_bestCode v_traced v_traceMany v_who v_bitsOf v_sizeOf v_number v_lifted) H → va_D A (pcX7 o cI v_d v_kept_1 v_images v_found v_aside v_base v_at v_size v_fault v_opened v_isCold v_names v_code v_coded v_pile v_horn v_brass v_coldAhead v_which v_whichMany v_bestPass v_bestLive v_bestCode v_traced v_traceMany v_who v_bitsOf v_sizeOf v_number v_lifted) → va_S A s.heap H locs → ∀ ls : Array Slot, lv_has ls 2 [(0, .ref (o 0))] → WI p l e 0 0 s m args below meth c D (tysX cI cS) A r_out (pcX7 o cI v_d w_kept w_images v_found v_aside v_base v_at v_size v_fault v_opened v_isCold v_names v_code v_coded v_pile v_horn v_brass v_coldAhead v_which v_whichMany v_bestPass v_bestLive v_bestCode v_traced v_traceMany v_who v_bitsOf v_sizeOf v_number v_lifted) H locs (F0 m 27 ls []) := by
      intro v_kept_1 h H locs hP hD hS ls hl
      subst eJ27
      dsimp only at h
      refine lv_aload_n hx hb dX7_image_27 rfl (lv_at hl 0 rfl) ?_
      refine lv_dup hx hb dX7_image_28 rfl ?_
      refine gt_X7_297 S hK hP 0 rfl rfl dX7_image_29 ?_
      refine lv_iconst (v := 1) hx hb dX7_image_32 (by decide) ?_
      refine lv_iadd hx hb dX7_image_33 ?_
      refine x_nm h (fun v_images_2 ev_images_2 h => ?_)
      refine pt_X7_297 S hK hP hD hS 0 rfl (Nat.le_of_ble_eq_true rfl) dX7_image_34 (fun H locs hP hD hS => ?_)
      have hP : va_P D vwCl (pcX7 o cI v_d v_kept_1 v_images_2 v_found v_aside v_base v_at v_size v_fault v_opened v_isCold v_names v_code v_coded v_pile v_horn v_brass v_coldAhead v_which v_whichMany v_bestPass v_bestLive v_bestCode v_traced v_traceMany v_who v_bitsOf v_sizeOf v_number v_lifted) H := hP
      have hD : va_D A (pcX7 o cI v_d v_kept_1 v_images_2 v_found v_aside v_base v_at v_size v_fault v_opened v_isCold v_names v_code v_coded v_pile v_horn v_brass v_coldAhead v_which v_whichMany v_bestPass v_bestLive v_bestCode v_traced v_traceMany v_who v_bitsOf v_sizeOf v_number v_lifted) := hD
      refine lv_aload_n hx hb dX7_image_37 rfl (lv_at hl 0 rfl) ?_
      refine gt_X7_297 S hK hP 0 rfl rfl dX7_image_38 ?_
      cases h
      exact x_iret hx hb hr hlocks hK hP hD hS rfl rfl dX7_image_41
  have wf_X7_image_L2 : ∀ (k_n : Nat) (v_kept_3 : Nat → Int32) (l1_4 : Int32), f_X7_image_L2 v_d J27 k_n v_kept_3 l1_4 = some (w_kept, w_images, r_out) → ∀ (H : Heap) (locs : List Loc), va_P D vwCl (pcX7 o cI v_d v_kept_3 v_images v_found v_aside v_base v_at v_size v_fault v_opened v_isCold v_names v_code v_coded v_pile v_horn v_brass v_coldAhead v_which v_whichMany v_bestPass v_bestLive v_bestCode v_traced v_traceMany v_who v_bitsOf v_sizeOf v_number v_lifted) H → va_D A (pcX7 o cI v_d v_kept_3 v_images v_found v_aside v_base v_at v_size v_fault v_opened v_isCold v_names v_code v_coded v_pile v_horn v_brass v_coldAhead v_which v_whichMany v_bestPass v_bestLive v_bestCode v_traced v_traceMany v_who v_bitsOf v_sizeOf v_number v_lifted) → va_S A s.heap H locs → ∀ ls : Array Slot, lv_has ls 2 [(0, .ref (o 0)), (1, .int l1_4)] → WI p l e 0 0 s m args below meth c D (tysX cI cS) A r_out (pcX7 o cI v_d w_kept w_images v_found v_aside v_base v_at v_size v_fault v_opened v_isCold v_names v_code v_coded v_pile v_horn v_brass v_coldAhead v_which v_whichMany v_bestPass v_bestLive v_bestCode v_traced v_traceMany v_who v_bitsOf v_sizeOf v_number v_lifted) H locs (F0 m 2 ls []) := by
      intro k_n
      induction k_n with
      | zero => intro v_kept_3 l1_4 h; rw [f_X7_image_L2] at h; cases h
      | succ k_n ih =>
        intro v_kept_3 l1_4 h H locs hP hD hS ls hl
        rw [f_X7_image_L2] at h
        refine lv_iload_n hx hb dX7_image_2 rfl (lv_at hl 1 rfl) ?_
        refine lv_sipush (v := 248) hx hb dX7_image_3 (by decide) ?_
        refine x_icmp_ge (tgt := 27) hx hb h dX7_image_6 (by decide) (fun c6 h => ?_) (fun c6 h => ?_)
        · exact wJ27 v_kept_3 h _ _ hP hD hS _ (lv_sub hl [0] rfl)
        · refine lv_aload_n hx hb dX7_image_9 rfl (lv_at hl 0 rfl) ?_
          refine gt_X7_13 S hK hP 0 rfl rfl dX7_image_10 ?_
          refine lv_iload_n hx hb dX7_image_13 rfl (lv_at hl 1 rfl) ?_
          refine lv_aload_n hx hb dX7_image_14 rfl (lv_at hl 0 rfl) ?_
          refine gt_X7_7 S hK hP 0 rfl rfl dX7_image_15 ?_
          refine lv_iload_n hx hb dX7_image_18 rfl (lv_at hl 1 rfl) ?_
          refine x_ald hx hb hK hP 1 h rfl rfl dX7_image_19 (fun x_5 ex_5 h => ?_)
          refine x_ast hx hb hK hP hD hS 2 h rfl rfl dX7_image_20 (fun v_kept_6 ev_kept_6 h H locs hP hD hS => ?_)
          have hP : va_P D vwCl (pcX7 o cI v_d v_kept_6 v_images v_found v_aside v_base v_at v_size v_fault v_opened v_isCold v_names v_code v_coded v_pile v_horn v_brass v_coldAhead v_which v_whichMany v_bestPass v_bestLive v_bestCode v_traced v_traceMany v_who v_bitsOf v_sizeOf v_number v_lifted) H := hP
          have hD : va_D A (pcX7 o cI v_d v_kept_6 v_images v_found v_aside v_base v_at v_size v_fault v_opened v_isCold v_names v_code v_coded v_pile v_horn v_brass v_coldAhead v_which v_whichMany v_bestPass v_bestLive v_bestCode v_traced v_traceMany v_who v_bitsOf v_sizeOf v_number v_lifted) := hD
          obtain ⟨l1_7, el1_7, h⟩ := nmA_s h
          refine lv_iinc (v := l1_7) (lv' := [(1, .int l1_7), (0, .ref (o 0))]) hx hb dX7_image_21 hl (k := 1) rfl (by rw [el1_7]; exact congrArg _ (by decide)) (by decide) rfl (fun ls hl => ?_)
          refine lv_goto (tgt := 2) hx hb dX7_image_24 (by decide) ?_
          exact ih v_kept_6 l1_7 h _ _ hP hD hS _ (lv_sub hl [1, 0] rfl)
  exact wf_X7_image_L2 300 v_kept 0 h _ _ hP hD hS _ (lv_sub hl [1, 0] rfl)

def f_X7_restore_L15 (v_kept : Nat → Int32) (v_found : Nat → Int32) : Nat → (Nat → Int32) → Int32 → Option ((Nat → Int32) × (Nat → Int32) × (Int32))
  | 0, _, _ => none
  | k_n + 1, v_d_1, l1_2 => (if 248 ≤ l1_2 then rdA 248 v_d_1 6 (fun x_3 => some (v_d_1, v_found, x_3)) else rdA 248 v_kept l1_2 (fun x_4 => wrA 248 v_d_1 l1_2 x_4 (fun v_d_5 => nmA (l1_2 + 1) (fun l1_6 => f_X7_restore_L15 v_kept v_found k_n v_d_5 l1_6))))
def f_X7_restore  (v_d : Nat → Int32) (v_kept : Nat → Int32) (v_images : Int32) (v_found : Nat → Int32)  : Option ((Nat → Int32) × (Nat → Int32) × (Int32)) :=
  (if v_images = 0 then bd2 (f_X7_finds v_found 2) (fun v_found_7 r_8 => some (v_d, v_found_7, r_8)) else f_X7_restore_L15 v_kept v_found 300 v_d 0)
set_option maxHeartbeats 600000 in
set_option maxRecDepth 100000 in
theorem c_X7_restore (l : Launch) (D : va_G) (cI cS : ClassId) (o : Nat → Nat) {v_d : Nat → Int32} {v_kept : Nat → Int32} {v_images : Int32} {v_found : Nat → Int32} {v_aside : Nat → Int32} {v_base : Int32} {v_at : Int32} {v_size : Int32} {v_fault : Int32} {v_opened : Int32} {v_isCold : Int32} {v_names : Nat → Int32} {v_code : Nat → Int32} {v_coded : Int32} {v_pile : Nat → Int32} {v_horn : Int32} {v_brass : Int32} {v_coldAhead : Nat → Int32} {v_which : Nat → Int32} {v_whichMany : Int32} {v_bestPass : Int32} {v_bestLive : Int32} {v_bestCode : Int32} {v_traced : Nat → Int32} {v_traceMany : Int32} {v_who : Int32} {v_bitsOf : Nat → Int32} {v_sizeOf : Nat → Int32} {v_number : Nat → Int32} {v_lifted : Nat → Int32}  {w_d : Nat → Int32} {w_found : Nat → Int32} {r_out : Int32} (h : f_X7_restore  v_d v_kept v_images v_found  = some (w_d, w_found, r_out)) : MetI l D (tysX cI cS) St0 yX7_restore cX7_restore 2 (some .int) 1 21 [.ref (o 0)] (pcX7 o cI v_d v_kept v_images v_found v_aside v_base v_at v_size v_fault v_opened v_isCold v_names v_code v_coded v_pile v_horn v_brass v_coldAhead v_which v_whichMany v_bestPass v_bestLive v_bestCode v_traced v_traceMany v_who v_bitsOf v_sizeOf v_number v_lifted) r_out (pcX7 o cI w_d v_kept v_images w_found v_aside v_base v_at v_size v_fault v_opened v_isCold v_names v_code v_coded v_pile v_horn v_brass v_coldAhead v_which v_whichMany v_bestPass v_bestLive v_bestCode v_traced v_traceMany v_who v_bitsOf v_sizeOf v_number v_lifted) := by
  refine Ent.metI (by decide +kernel) (Nat.le_of_ble_eq_true rfl) ?_
  intro p e s m args below meth c A ls hx hb hr hml hown hts hlocks hA hK hSt hP hD hS hl
  have hown : s.vm.findClass RX7 = some m.cls := hown
  have S : XFix p m c cX7_restore 2 s args RX7 := ⟨hx, hb, hml, hown, hts⟩
  have hl : lv_has ls 2 [(0, .ref (o 0))] := hl
  unfold f_X7_restore at h
  refine lv_aload_n hx hb dX7_restore_0 rfl (lv_at hl 0 rfl) ?_
  refine gt_X7_297 S hK hP 0 rfl rfl dX7_restore_1 ?_
  refine x_if_ne (tgt := 13) hx hb h dX7_restore_4 (by decide) (fun c4 h => ?_) (fun c4 h => ?_)
  · refine lv_iconst (v := 0) hx hb dX7_restore_13 (by decide) ?_
    refine lv_istore_n (lv' := [(1, .int 0), (0, .ref (o 0))]) hx hb dX7_restore_14 rfl hl (by decide) rfl (fun ls hl => ?_)
    have wf_X7_restore_L15 : ∀ (k_n : Nat) (v_d_1 : Nat → Int32) (l1_2 : Int32), f_X7_restore_L15 v_kept v_found k_n v_d_1 l1_2 = some (w_d, w_found, r_out) → ∀ (H : Heap) (locs : List Loc), va_P D vwCl (pcX7 o cI v_d_1 v_kept v_images v_found v_aside v_base v_at v_size v_fault v_opened v_isCold v_names v_code v_coded v_pile v_horn v_brass v_coldAhead v_which v_whichMany v_bestPass v_bestLive v_bestCode v_traced v_traceMany v_who v_bitsOf v_sizeOf v_number v_lifted) H → va_D A (pcX7 o cI v_d_1 v_kept v_images v_found v_aside v_base v_at v_size v_fault v_opened v_isCold v_names v_code v_coded v_pile v_horn v_brass v_coldAhead v_which v_whichMany v_bestPass v_bestLive v_bestCode v_traced v_traceMany v_who v_bitsOf v_sizeOf v_number v_lifted) → va_S A s.heap H locs → ∀ ls : Array Slot, lv_has ls 2 [(0, .ref (o 0)), (1, .int l1_2)] → WI p l e 1 21 s m args below meth c D (tysX cI cS) A r_out (pcX7 o cI w_d v_kept v_images w_found v_aside v_base v_at v_size v_fault v_opened v_isCold v_names v_code v_coded v_pile v_horn v_brass v_coldAhead v_which v_whichMany v_bestPass v_bestLive v_bestCode v_traced v_traceMany v_who v_bitsOf v_sizeOf v_number v_lifted) H locs (F0 m 15 ls []) := by
        intro k_n
        induction k_n with
        | zero => intro v_d_1 l1_2 h; rw [f_X7_restore_L15] at h; cases h
        | succ k_n ih =>
          intro v_d_1 l1_2 h H locs hP hD hS ls hl
          rw [f_X7_restore_L15] at h
          refine lv_iload_n hx hb dX7_restore_15 rfl (lv_at hl 1 rfl) ?_
          refine lv_sipush (v := 248) hx hb dX7_restore_16 (by decide) ?_
          refine x_icmp_ge (tgt := 40) hx hb h dX7_restore_19 (by decide) (fun c19 h => ?_) (fun c19 h => ?_)
          · refine lv_aload_n hx hb dX7_restore_40 rfl (lv_at hl 0 rfl) ?_
            refine gt_X7_7 S hK hP 0 rfl rfl dX7_restore_41 ?_
            refine lv_bipush (v := 6) hx hb dX7_restore_44 (by decide) ?_
            refine x_ald hx hb hK hP 1 h rfl rfl dX7_restore_46 (fun x_3 ex_3 h => ?_)
            cases h
            exact x_iret hx hb hr hlocks hK hP hD hS rfl rfl dX7_restore_47
          · refine lv_aload_n hx hb dX7_restore_22 rfl (lv_at hl 0 rfl) ?_
            refine gt_X7_7 S hK hP 0 rfl rfl dX7_restore_23 ?_
            refine lv_iload_n hx hb dX7_restore_26 rfl (lv_at hl 1 rfl) ?_
            refine lv_aload_n hx hb dX7_restore_27 rfl (lv_at hl 0 rfl) ?_
            refine gt_X7_13 S hK hP 0 rfl rfl dX7_restore_28 ?_
            refine lv_iload_n hx hb dX7_restore_31 rfl (lv_at hl 1 rfl) ?_
            refine x_ald hx hb hK hP 2 h rfl rfl dX7_restore_32 (fun x_4 ex_4 h => ?_)
            refine x_ast hx hb hK hP hD hS 1 h rfl rfl dX7_restore_33 (fun v_d_5 ev_d_5 h H locs hP hD hS => ?_)
            have hP : va_P D vwCl (pcX7 o cI v_d_5 v_kept v_images v_found v_aside v_base v_at v_size v_fault v_opened v_isCold v_names v_code v_coded v_pile v_horn v_brass v_coldAhead v_which v_whichMany v_bestPass v_bestLive v_bestCode v_traced v_traceMany v_who v_bitsOf v_sizeOf v_number v_lifted) H := hP
            have hD : va_D A (pcX7 o cI v_d_5 v_kept v_images v_found v_aside v_base v_at v_size v_fault v_opened v_isCold v_names v_code v_coded v_pile v_horn v_brass v_coldAhead v_which v_whichMany v_bestPass v_bestLive v_bestCode v_traced v_traceMany v_who v_bitsOf v_sizeOf v_number v_lifted) := hD
            obtain ⟨l1_6, el1_6, h⟩ := nmA_s h
            refine lv_iinc (v := l1_6) (lv' := [(1, .int l1_6), (0, .ref (o 0))]) hx hb dX7_restore_34 hl (k := 1) rfl (by rw [el1_6]; exact congrArg _ (by decide)) (by decide) rfl (fun ls hl => ?_)
            refine lv_goto (tgt := 15) hx hb dX7_restore_37 (by decide) ?_
            exact ih v_d_5 l1_6 h _ _ hP hD hS _ (lv_sub hl [1, 0] rfl)
    exact wf_X7_restore_L15 300 v_d 0 h _ _ hP hD hS _ (lv_sub hl [1, 0] rfl)
  · refine lv_aload_n hx hb dX7_restore_7 rfl (lv_at hl 0 rfl) ?_
    refine lv_iconst (v := 2) hx hb dX7_restore_8 (by decide) ?_
    obtain ⟨v_found_7, r_8, hc9, h⟩ := bd2_s h
    refine x_selfVi (As := [.int 2]) (rest := []) St0_ok S (c_X7_finds l D cI cS o hc9) yf_X7_finds wd6_10 ⟨Nat.le_of_ble_eq_true rfl, Nat.le_of_ble_eq_true rfl⟩ hK hSt hA hP hD hS 0 rfl rfl rfl hl.1 rfl (Nat.le_of_ble_eq_true rfl) dX7_restore_9 (Nat.zero_le _) (Nat.zero_le _) (fun H locs hP hD hS => ?_)
    cases h
    exact x_iret hx hb hr hlocks hK hP hD hS rfl rfl dX7_restore_12

def f_X7_tell  (v_d : Nat → Int32) (v_found : Nat → Int32) (p0 : Int32) : Option ((Nat → Int32) × (Nat → Int32) × (Int32)) :=
  rdA 248 v_d 9 (fun x_1 => (if x_1 = 20 then bd2 (f_X7_finds v_found 4) (fun v_found_7 r_8 => some (v_d, v_found_7, r_8)) else rdA 248 v_d 9 (fun x_2 => wrA 248 v_d (78 + x_2) p0 (fun v_d_3 => rdA 248 v_d_3 9 (fun x_4 => wrA 248 v_d_3 9 (x_4 + 1) (fun v_d_5 => rdA 248 v_d_5 9 (fun x_6 => some (v_d_5, v_found, x_6))))))))
set_option maxHeartbeats 600000 in
set_option maxRecDepth 100000 in
theorem c_X7_tell (l : Launch) (D : va_G) (cI cS : ClassId) (o : Nat → Nat) {v_d : Nat → Int32} {v_kept : Nat → Int32} {v_images : Int32} {v_found : Nat → Int32} {v_aside : Nat → Int32} {v_base : Int32} {v_at : Int32} {v_size : Int32} {v_fault : Int32} {v_opened : Int32} {v_isCold : Int32} {v_names : Nat → Int32} {v_code : Nat → Int32} {v_coded : Int32} {v_pile : Nat → Int32} {v_horn : Int32} {v_brass : Int32} {v_coldAhead : Nat → Int32} {v_which : Nat → Int32} {v_whichMany : Int32} {v_bestPass : Int32} {v_bestLive : Int32} {v_bestCode : Int32} {v_traced : Nat → Int32} {v_traceMany : Int32} {v_who : Int32} {v_bitsOf : Nat → Int32} {v_sizeOf : Nat → Int32} {v_number : Nat → Int32} {v_lifted : Nat → Int32} {p0 : Int32} {w_d : Nat → Int32} {w_found : Nat → Int32} {r_out : Int32} (h : f_X7_tell  v_d v_found p0 = some (w_d, w_found, r_out)) : MetI l D (tysX cI cS) St0 yX7_tell cX7_tell 2 (some .int) 1 21 [.ref (o 0), .int p0] (pcX7 o cI v_d v_kept v_images v_found v_aside v_base v_at v_size v_fault v_opened v_isCold v_names v_code v_coded v_pile v_horn v_brass v_coldAhead v_which v_whichMany v_bestPass v_bestLive v_bestCode v_traced v_traceMany v_who v_bitsOf v_sizeOf v_number v_lifted) r_out (pcX7 o cI w_d v_kept v_images w_found v_aside v_base v_at v_size v_fault v_opened v_isCold v_names v_code v_coded v_pile v_horn v_brass v_coldAhead v_which v_whichMany v_bestPass v_bestLive v_bestCode v_traced v_traceMany v_who v_bitsOf v_sizeOf v_number v_lifted) := by
  refine Ent.metI (by decide +kernel) (Nat.le_of_ble_eq_true rfl) ?_
  intro p e s m args below meth c A ls hx hb hr hml hown hts hlocks hA hK hSt hP hD hS hl
  have hown : s.vm.findClass RX7 = some m.cls := hown
  have S : XFix p m c cX7_tell 2 s args RX7 := ⟨hx, hb, hml, hown, hts⟩
  have hl : lv_has ls 2 [(0, .ref (o 0)), (1, .int p0)] := hl
  unfold f_X7_tell at h
  refine lv_aload_n hx hb dX7_tell_0 rfl (lv_at hl 0 rfl) ?_
  refine gt_X7_7 S hK hP 0 rfl rfl dX7_tell_1 ?_
  refine lv_bipush (v := 9) hx hb dX7_tell_4 (by decide) ?_
  refine x_ald hx hb hK hP 1 h rfl rfl dX7_tell_6 (fun x_1 ex_1 h => ?_)
  refine lv_bipush (v := 20) hx hb dX7_tell_7 (by decide) ?_
  refine x_icmp_ne (tgt := 18) hx hb h dX7_tell_9 (by decide) (fun c9 h => ?_) (fun c9 h => ?_)
  · refine lv_aload_n hx hb dX7_tell_18 rfl (lv_at hl 0 rfl) ?_
    refine gt_X7_7 S hK hP 0 rfl rfl dX7_tell_19 ?_
    refine lv_bipush (v := 78) hx hb dX7_tell_22 (by decide) ?_
    refine lv_aload_n hx hb dX7_tell_24 rfl (lv_at hl 0 rfl) ?_
    refine gt_X7_7 S hK hP 0 rfl rfl dX7_tell_25 ?_
    refine lv_bipush (v := 9) hx hb dX7_tell_28 (by decide) ?_
    refine x_ald hx hb hK hP 1 h rfl rfl dX7_tell_30 (fun x_2 ex_2 h => ?_)
    refine lv_iadd hx hb dX7_tell_31 ?_
    refine lv_iload_n hx hb dX7_tell_32 rfl (lv_at hl 1 rfl) ?_
    refine x_ast hx hb hK hP hD hS 1 h rfl rfl dX7_tell_33 (fun v_d_3 ev_d_3 h H locs hP hD hS => ?_)
    have hP : va_P D vwCl (pcX7 o cI v_d_3 v_kept v_images v_found v_aside v_base v_at v_size v_fault v_opened v_isCold v_names v_code v_coded v_pile v_horn v_brass v_coldAhead v_which v_whichMany v_bestPass v_bestLive v_bestCode v_traced v_traceMany v_who v_bitsOf v_sizeOf v_number v_lifted) H := hP
    have hD : va_D A (pcX7 o cI v_d_3 v_kept v_images v_found v_aside v_base v_at v_size v_fault v_opened v_isCold v_names v_code v_coded v_pile v_horn v_brass v_coldAhead v_which v_whichMany v_bestPass v_bestLive v_bestCode v_traced v_traceMany v_who v_bitsOf v_sizeOf v_number v_lifted) := hD
    refine lv_aload_n hx hb dX7_tell_34 rfl (lv_at hl 0 rfl) ?_
    refine gt_X7_7 S hK hP 0 rfl rfl dX7_tell_35 ?_
    refine lv_bipush (v := 9) hx hb dX7_tell_38 (by decide) ?_
    refine lv_dup2_11 hx hb dX7_tell_40 rfl rfl ?_
    refine x_ald hx hb hK hP 1 h rfl rfl dX7_tell_41 (fun x_4 ex_4 h => ?_)
    refine lv_iconst (v := 1) hx hb dX7_tell_42 (by decide) ?_
    refine lv_iadd hx hb dX7_tell_43 ?_
    refine x_ast hx hb hK hP hD hS 1 h rfl rfl dX7_tell_44 (fun v_d_5 ev_d_5 h H locs hP hD hS => ?_)
    have hP : va_P D vwCl (pcX7 o cI v_d_5 v_kept v_images v_found v_aside v_base v_at v_size v_fault v_opened v_isCold v_names v_code v_coded v_pile v_horn v_brass v_coldAhead v_which v_whichMany v_bestPass v_bestLive v_bestCode v_traced v_traceMany v_who v_bitsOf v_sizeOf v_number v_lifted) H := hP
    have hD : va_D A (pcX7 o cI v_d_5 v_kept v_images v_found v_aside v_base v_at v_size v_fault v_opened v_isCold v_names v_code v_coded v_pile v_horn v_brass v_coldAhead v_which v_whichMany v_bestPass v_bestLive v_bestCode v_traced v_traceMany v_who v_bitsOf v_sizeOf v_number v_lifted) := hD
    refine lv_aload_n hx hb dX7_tell_45 rfl (lv_at hl 0 rfl) ?_
    refine gt_X7_7 S hK hP 0 rfl rfl dX7_tell_46 ?_
    refine lv_bipush (v := 9) hx hb dX7_tell_49 (by decide) ?_
    refine x_ald hx hb hK hP 1 h rfl rfl dX7_tell_51 (fun x_6 ex_6 h => ?_)
    cases h
    exact x_iret hx hb hr hlocks hK hP hD hS rfl rfl dX7_tell_52
  · refine lv_aload_n hx hb dX7_tell_12 rfl (lv_at hl 0 rfl) ?_
    refine lv_iconst (v := 4) hx hb dX7_tell_13 (by decide) ?_
    obtain ⟨v_found_7, r_8, hc14, h⟩ := bd2_s h
    refine x_selfVi (As := [.int 4]) (rest := []) St0_ok S (c_X7_finds l D cI cS o hc14) yf_X7_finds wd6_10 ⟨Nat.le_of_ble_eq_true rfl, Nat.le_of_ble_eq_true rfl⟩ hK hSt hA hP hD hS 0 rfl rfl rfl hl.1 rfl (Nat.le_of_ble_eq_true rfl) dX7_tell_14 (Nat.zero_le _) (Nat.zero_le _) (fun H locs hP hD hS => ?_)
    cases h
    exact x_iret hx hb hr hlocks hK hP hD hS rfl rfl dX7_tell_17

def f_X7_check_L24 (x_1 : Int32) (J67 : (Nat → Int32) → (Nat → Int32) → (Nat → Int32) → Int32 → Option ((Nat → Int32) × (Nat → Int32) × (Nat → Int32) × (Nat → Int32) × (Int32))) : Nat → (Nat → Int32) → (Nat → Int32) → (Nat → Int32) → Int32 → Int32 → Option ((Nat → Int32) × (Nat → Int32) × (Nat → Int32) × (Nat → Int32) × (Int32))
  | 0, _, _, _, _, _ => none
  | k_n + 1, v_d_9, v_names_10, v_pile_11, l2_12, l3_13 => (if x_1 ≤ l3_13 then J67 v_d_9 v_names_10 v_pile_11 l2_12 else (if l2_12 = 0 then bd3 (f_X7_dayGoes v_d_9 v_names_10 v_pile_11) (fun v_d_14 v_names_15 v_pile_16 => rdA 248 v_d_14 (78 + l3_13) (fun x_17 => bd1 (f_X7_alive v_d_14) (fun r_18 => jnA (fun (t0_19 : Int32) => nmA (l3_13 + 1) (fun l3_20 => f_X7_check_L24 x_1 J67 k_n v_d_14 v_names_15 v_pile_16 t0_19 l3_20)) (fun J60 => (if x_17 = r_18 then J60 0 else J60 (1 + l3_13)))))) else J67 v_d_9 v_names_10 v_pile_11 l2_12))
def f_X7_check  (v_d : Nat → Int32) (v_aside : Nat → Int32) (v_names : Nat → Int32) (v_pile : Nat → Int32)  : Option ((Nat → Int32) × (Nat → Int32) × (Nat → Int32) × (Nat → Int32) × (Int32)) :=
  rdA 248 v_d 9 (fun x_1 => wrA 248 v_d 9 0 (fun v_d_2 => bd1 (f_X7_keepAside v_d_2 v_aside) (fun v_aside_3 => jnA (fun (v_d_4 : Nat → Int32) (v_names_5 : Nat → Int32) (v_pile_6 : Nat → Int32) (l2_7 : Int32) => bd1 (f_X7_putBack v_d_4 v_aside_3) (fun v_d_8 => some (v_d_8, v_aside_3, v_names_5, v_pile_6, l2_7))) (fun J67 => f_X7_check_L24 x_1 J67 300 v_d_2 v_names v_pile 0 0))))
set_option maxHeartbeats 600000 in
set_option maxRecDepth 100000 in
theorem c_X7_check (l : Launch) (D : va_G) (cI cS : ClassId) (o : Nat → Nat) {v_d : Nat → Int32} {v_kept : Nat → Int32} {v_images : Int32} {v_found : Nat → Int32} {v_aside : Nat → Int32} {v_base : Int32} {v_at : Int32} {v_size : Int32} {v_fault : Int32} {v_opened : Int32} {v_isCold : Int32} {v_names : Nat → Int32} {v_code : Nat → Int32} {v_coded : Int32} {v_pile : Nat → Int32} {v_horn : Int32} {v_brass : Int32} {v_coldAhead : Nat → Int32} {v_which : Nat → Int32} {v_whichMany : Int32} {v_bestPass : Int32} {v_bestLive : Int32} {v_bestCode : Int32} {v_traced : Nat → Int32} {v_traceMany : Int32} {v_who : Int32} {v_bitsOf : Nat → Int32} {v_sizeOf : Nat → Int32} {v_number : Nat → Int32} {v_lifted : Nat → Int32}  {w_d : Nat → Int32} {w_aside : Nat → Int32} {w_names : Nat → Int32} {w_pile : Nat → Int32} {r_out : Int32} (h : f_X7_check  v_d v_aside v_names v_pile  = some (w_d, w_aside, w_names, w_pile, r_out)) : MetI l D (tysX cI cS) St0 yX7_check cX7_check 4 (some .int) 5 119 [.ref (o 0)] (pcX7 o cI v_d v_kept v_images v_found v_aside v_base v_at v_size v_fault v_opened v_isCold v_names v_code v_coded v_pile v_horn v_brass v_coldAhead v_which v_whichMany v_bestPass v_bestLive v_bestCode v_traced v_traceMany v_who v_bitsOf v_sizeOf v_number v_lifted) r_out (pcX7 o cI w_d v_kept v_images v_found w_aside v_base v_at v_size v_fault v_opened v_isCold w_names v_code v_coded w_pile v_horn v_brass v_coldAhead v_which v_whichMany v_bestPass v_bestLive v_bestCode v_traced v_traceMany v_who v_bitsOf v_sizeOf v_number v_lifted) := by
  refine Ent.metI (by decide +kernel) (Nat.le_of_ble_eq_true rfl) ?_
  intro p e s m args below meth c A ls hx hb hr hml hown hts hlocks hA hK hSt hP hD hS hl
  have hown : s.vm.findClass RX7 = some m.cls := hown
  have S : XFix p m c cX7_check 4 s args RX7 := ⟨hx, hb, hml, hown, hts⟩
  have hl : lv_has ls 4 [(0, .ref (o 0))] := hl
  unfold f_X7_check at h
  refine lv_aload_n hx hb dX7_check_0 rfl (lv_at hl 0 rfl) ?_
  refine gt_X7_7 S hK hP 0 rfl rfl dX7_check_1 ?_
  refine lv_bipush (v := 9) hx hb dX7_check_4 (by decide) ?_
  refine x_ald hx hb hK hP 1 h rfl rfl dX7_check_6 (fun x_1 ex_1 h => ?_)
  refine lv_istore_n (lv' := [(1, .int x_1), (0, .ref (o 0))]) hx hb dX7_check_7 rfl hl (by decide) rfl (fun ls hl => ?_)
  refine lv_aload_n hx hb dX7_check_8 rfl (lv_at hl 1 rfl) ?_
  refine gt_X7_7 S hK hP 0 rfl rfl dX7_check_9 ?_
  refine lv_bipush (v := 9) hx hb dX7_check_12 (by decide) ?_
  refine lv_iconst (v := 0) hx hb dX7_check_14 (by decide) ?_
  refine x_ast hx hb hK hP hD hS 1 h rfl rfl dX7_check_15 (fun v_d_2 ev_d_2 h H locs hP hD hS => ?_)
  have hP : va_P D vwCl (pcX7 o cI v_d_2 v_kept v_images v_found v_aside v_base v_at v_size v_fault v_opened v_isCold v_names v_code v_coded v_pile v_horn v_brass v_coldAhead v_which v_whichMany v_bestPass v_bestLive v_bestCode v_traced v_traceMany v_who v_bitsOf v_sizeOf v_number v_lifted) H := hP
  have hD : va_D A (pcX7 o cI v_d_2 v_kept v_images v_found v_aside v_base v_at v_size v_fault v_opened v_isCold v_names v_code v_coded v_pile v_horn v_brass v_coldAhead v_which v_whichMany v_bestPass v_bestLive v_bestCode v_traced v_traceMany v_who v_bitsOf v_sizeOf v_number v_lifted) := hD
  refine lv_aload_n hx hb dX7_check_16 rfl (lv_at hl 1 rfl) ?_
  obtain ⟨v_aside_3, hc17, h⟩ := bd1_s h
  refine x_selfVv (As := []) (rest := []) St0_ok S (c_X7_keepAside l D cI cS o hc17) yf_X7_keepAside wd28_9 ⟨Nat.le_of_ble_eq_true rfl, Nat.le_of_ble_eq_true rfl⟩ hK hSt hA hP hD hS 0 rfl rfl rfl hl.1 rfl (Nat.le_of_ble_eq_true rfl) dX7_check_17 (Nat.zero_le _) (Nat.zero_le _) (fun H locs hP hD hS => ?_)
  refine lv_iconst (v := 0) hx hb dX7_check_20 (by decide) ?_
  refine lv_istore_n (lv' := [(2, .int 0), (1, .int x_1), (0, .ref (o 0))]) hx hb dX7_check_21 rfl hl (by decide) rfl (fun ls hl => ?_)
  refine lv_iconst (v := 0) hx hb dX7_check_22 (by decide) ?_
  refine lv_istore_n (lv' := [(3, .int 0), (2, .int 0), (1, .int x_1), (0, .ref (o 0))]) hx hb dX7_check_23 rfl hl (by decide) rfl (fun ls hl => ?_)
  obtain ⟨J67, eJ67, h⟩ := jnA_s h
  have wJ67 : ∀ (v_d_4 : Nat → Int32) (v_names_5 : Nat → Int32) (v_pile_6 : Nat → Int32) (l2_7 : Int32), J67 v_d_4 v_names_5 v_pile_6 l2_7 = some (w_d, w_aside, w_names, w_pile, r_out) → ∀ (H : Heap) (locs : List Loc), va_P D vwCl (pcX7 o cI v_d_4 v_kept v_images v_found v_aside_3 v_base v_at v_size v_fault v_opened v_isCold v_names_5 v_code v_coded v_pile_6 v_horn v_brass v_coldAhead v_which v_whichMany v_bestPass v_bestLive v_bestCode v_traced v_traceMany v_who v_bitsOf v_sizeOf v_number v_lifted) H → va_D A (pcX7 o cI v_d_4 v_kept v_images v_found v_aside_3 v_base v_at v_size v_fault v_opened v_isCold v_names_5 v_code v_coded v_pile_6 v_horn v_brass v_coldAhead v_which v_whichMany v_bestPass v_bestLive v_bestCode v_traced v_traceMany v_who v_bitsOf v_sizeOf v_number v_lifted) → va_S A s.heap H locs → ∀ ls : Array Slot, lv_has ls 4 [(0, .ref (o 0)), (2, .int l2_7)] → WI p l e 5 119 s m args below meth c D (tysX cI cS) A r_out (pcX7 o cI w_d v_kept v_images v_found w_aside v_base v_at v_size v_fault v_opened v_isCold w_names v_code v_coded w_pile v_horn v_brass v_coldAhead v_which v_whichMany v_bestPass v_bestLive v_bestCode v_traced v_traceMany v_who v_bitsOf v_sizeOf v_number v_lifted) H locs (F0 m 67 ls []) := by
      intro v_d_4 v_names_5 v_pile_6 l2_7 h H locs hP hD hS ls hl
      subst eJ67
      dsimp only at h
      refine lv_aload_n hx hb dX7_check_67 rfl (lv_at hl 0 rfl) ?_
      obtain ⟨v_d_8, hc68, h⟩ := bd1_s h
      refine x_selfVv (As := []) (rest := []) St0_ok S (c_X7_putBack l D cI cS o hc68) yf_X7_putBack wd28_17 ⟨Nat.le_of_ble_eq_true rfl, Nat.le_of_ble_eq_true rfl⟩ hK hSt hA hP hD hS 0 rfl rfl rfl hl.1 rfl (Nat.le_of_ble_eq_true rfl) dX7_check_68 (Nat.zero_le _) (Nat.zero_le _) (fun H locs hP hD hS => ?_)
      refine lv_iload_n hx hb dX7_check_71 rfl (lv_at hl 1 rfl) ?_
      cases h
      exact x_iret hx hb hr hlocks hK hP hD hS rfl rfl dX7_check_72
  have wf_X7_check_L24 : ∀ (k_n : Nat) (v_d_9 : Nat → Int32) (v_names_10 : Nat → Int32) (v_pile_11 : Nat → Int32) (l2_12 : Int32) (l3_13 : Int32), f_X7_check_L24 x_1 J67 k_n v_d_9 v_names_10 v_pile_11 l2_12 l3_13 = some (w_d, w_aside, w_names, w_pile, r_out) → ∀ (H : Heap) (locs : List Loc), va_P D vwCl (pcX7 o cI v_d_9 v_kept v_images v_found v_aside_3 v_base v_at v_size v_fault v_opened v_isCold v_names_10 v_code v_coded v_pile_11 v_horn v_brass v_coldAhead v_which v_whichMany v_bestPass v_bestLive v_bestCode v_traced v_traceMany v_who v_bitsOf v_sizeOf v_number v_lifted) H → va_D A (pcX7 o cI v_d_9 v_kept v_images v_found v_aside_3 v_base v_at v_size v_fault v_opened v_isCold v_names_10 v_code v_coded v_pile_11 v_horn v_brass v_coldAhead v_which v_whichMany v_bestPass v_bestLive v_bestCode v_traced v_traceMany v_who v_bitsOf v_sizeOf v_number v_lifted) → va_S A s.heap H locs → ∀ ls : Array Slot, lv_has ls 4 [(0, .ref (o 0)), (1, .int x_1), (2, .int l2_12), (3, .int l3_13)] → WI p l e 5 119 s m args below meth c D (tysX cI cS) A r_out (pcX7 o cI w_d v_kept v_images v_found w_aside v_base v_at v_size v_fault v_opened v_isCold w_names v_code v_coded w_pile v_horn v_brass v_coldAhead v_which v_whichMany v_bestPass v_bestLive v_bestCode v_traced v_traceMany v_who v_bitsOf v_sizeOf v_number v_lifted) H locs (F0 m 24 ls []) := by
      intro k_n
      induction k_n with
      | zero => intro v_d_9 v_names_10 v_pile_11 l2_12 l3_13 h; rw [f_X7_check_L24] at h; cases h
      | succ k_n ih =>
        intro v_d_9 v_names_10 v_pile_11 l2_12 l3_13 h H locs hP hD hS ls hl
        rw [f_X7_check_L24] at h
        refine lv_iload_n hx hb dX7_check_24 rfl (lv_at hl 3 rfl) ?_
        refine lv_iload_n hx hb dX7_check_25 rfl (lv_at hl 1 rfl) ?_
        refine x_icmp_ge (tgt := 67) hx hb h dX7_check_26 (by decide) (fun c26 h => ?_) (fun c26 h => ?_)
        · exact wJ67 v_d_9 v_names_10 v_pile_11 l2_12 h _ _ hP hD hS _ (lv_sub hl [0, 2] rfl)
        · refine lv_iload_n hx hb dX7_check_29 rfl (lv_at hl 2 rfl) ?_
          refine x_if_ne (tgt := 67) hx hb h dX7_check_30 (by decide) (fun c30 h => ?_) (fun c30 h => ?_)
          · exact wJ67 v_d_9 v_names_10 v_pile_11 l2_12 h _ _ hP hD hS _ (lv_sub hl [0, 2] rfl)
          · refine lv_aload_n hx hb dX7_check_33 rfl (lv_at hl 0 rfl) ?_
            obtain ⟨v_d_14, v_names_15, v_pile_16, hc34, h⟩ := bd3_s h
            refine x_selfVv (As := []) (rest := []) St0_ok S (c_X7_dayGoes l D cI cS o hc34) yf_X7_dayGoes wd26_9 ⟨Nat.le_of_ble_eq_true rfl, Nat.le_of_ble_eq_true rfl⟩ hK hSt hA hP hD hS 0 rfl rfl rfl hl.1 rfl (Nat.le_of_ble_eq_true rfl) dX7_check_34 (Nat.zero_le _) (Nat.zero_le _) (fun H locs hP hD hS => ?_)
            refine lv_aload_n hx hb dX7_check_37 rfl (lv_at hl 0 rfl) ?_
            refine gt_X7_7 S hK hP 0 rfl rfl dX7_check_38 ?_
            refine lv_bipush (v := 78) hx hb dX7_check_41 (by decide) ?_
            refine lv_iload_n hx hb dX7_check_43 rfl (lv_at hl 3 rfl) ?_
            refine lv_iadd hx hb dX7_check_44 ?_
            refine x_ald hx hb hK hP 1 h rfl rfl dX7_check_45 (fun x_17 ex_17 h => ?_)
            refine lv_aload_n hx hb dX7_check_46 rfl (lv_at hl 0 rfl) ?_
            obtain ⟨r_18, hc47, h⟩ := bd1_s h
            refine x_selfVi (As := []) (rest := [.int x_17]) St0_ok S (c_X7_alive l D cI cS o hc47) yf_X7_alive wd26_13 ⟨Nat.le_of_ble_eq_true rfl, Nat.le_of_ble_eq_true rfl⟩ hK hSt hA hP hD hS 0 rfl rfl rfl hl.1 rfl (Nat.le_of_ble_eq_true rfl) dX7_check_47 (Nat.zero_le _) (Nat.zero_le _) (fun H locs hP hD hS => ?_)
            obtain ⟨J60, eJ60, h⟩ := jnA_s h
            have wJ60 : ∀ (t0_19 : Int32), J60 t0_19 = some (w_d, w_aside, w_names, w_pile, r_out) → ∀ (H : Heap) (locs : List Loc), va_P D vwCl (pcX7 o cI v_d_14 v_kept v_images v_found v_aside_3 v_base v_at v_size v_fault v_opened v_isCold v_names_15 v_code v_coded v_pile_16 v_horn v_brass v_coldAhead v_which v_whichMany v_bestPass v_bestLive v_bestCode v_traced v_traceMany v_who v_bitsOf v_sizeOf v_number v_lifted) H → va_D A (pcX7 o cI v_d_14 v_kept v_images v_found v_aside_3 v_base v_at v_size v_fault v_opened v_isCold v_names_15 v_code v_coded v_pile_16 v_horn v_brass v_coldAhead v_which v_whichMany v_bestPass v_bestLive v_bestCode v_traced v_traceMany v_who v_bitsOf v_sizeOf v_number v_lifted) → va_S A s.heap H locs → ∀ ls : Array Slot, lv_has ls 4 [(0, .ref (o 0)), (1, .int x_1), (3, .int l3_13)] → WI p l e 5 119 s m args below meth c D (tysX cI cS) A r_out (pcX7 o cI w_d v_kept v_images v_found w_aside v_base v_at v_size v_fault v_opened v_isCold w_names v_code v_coded w_pile v_horn v_brass v_coldAhead v_which v_whichMany v_bestPass v_bestLive v_bestCode v_traced v_traceMany v_who v_bitsOf v_sizeOf v_number v_lifted) H locs (F0 m 60 ls [.int t0_19]) := by
                intro t0_19 h H locs hP hD hS ls hl
                subst eJ60
                dsimp only at h
                refine lv_istore_n (lv' := [(2, .int t0_19), (0, .ref (o 0)), (1, .int x_1), (3, .int l3_13)]) hx hb dX7_check_60 rfl hl (by decide) rfl (fun ls hl => ?_)
                obtain ⟨l3_20, el3_20, h⟩ := nmA_s h
                refine lv_iinc (v := l3_20) (lv' := [(3, .int l3_20), (2, .int t0_19), (0, .ref (o 0)), (1, .int x_1)]) hx hb dX7_check_61 hl (k := 3) rfl (by rw [el3_20]; exact congrArg _ (by decide)) (by decide) rfl (fun ls hl => ?_)
                refine lv_goto (tgt := 24) hx hb dX7_check_64 (by decide) ?_
                exact ih v_d_14 v_names_15 v_pile_16 t0_19 l3_20 h _ _ hP hD hS _ (lv_sub hl [2, 3, 1, 0] rfl)
            refine x_icmp_ne (tgt := 57) hx hb h dX7_check_50 (by decide) (fun c50 h => ?_) (fun c50 h => ?_)
            · refine lv_iconst (v := 1) hx hb dX7_check_57 (by decide) ?_
              refine lv_iload_n hx hb dX7_check_58 rfl (lv_at hl 3 rfl) ?_
              refine lv_iadd hx hb dX7_check_59 ?_
              exact wJ60 (1 + l3_13) h _ _ hP hD hS _ (lv_sub hl [0, 1, 3] rfl)
            · refine lv_iconst (v := 0) hx hb dX7_check_53 (by decide) ?_
              refine lv_goto (tgt := 60) hx hb dX7_check_54 (by decide) ?_
              exact wJ60 0 h _ _ hP hD hS _ (lv_sub hl [0, 1, 3] rfl)
  exact wf_X7_check_L24 300 v_d_2 v_names v_pile 0 0 h _ _ hP hD hS _ (lv_sub hl [3, 2, 1, 0] rfl)

def f_X7_count_L101 (v_d : Nat → Int32) (v_found : Nat → Int32) (v_names : Nat → Int32) (v_pile : Nat → Int32) : Nat → Int32 → Int32 → Option ((Nat → Int32) × (Nat → Int32) × (Nat → Int32) × (Int32))
  | 0, _, _ => none
  | k_n + 1, l2_5, l3_6 => rdA 248 v_d 1 (fun x_7 => (if x_7 ≤ l3_6 then some (v_found, v_names, v_pile, l2_5) else bd1 (f_X7_its v_d l3_6 2) (fun r_8 => nmA (l2_5 ||| (r_8 <<< (l3_6 &&& 31))) (fun l2_9 => nmA (l3_6 + 1) (fun l3_10 => f_X7_count_L101 v_d v_found v_names v_pile k_n l2_9 l3_10)))))
def f_X7_count  (v_d : Nat → Int32) (v_found : Nat → Int32) (v_names : Nat → Int32) (v_pile : Nat → Int32) (v_traceMany : Int32) (p0 : Int32) : Option ((Nat → Int32) × (Nat → Int32) × (Nat → Int32) × (Int32)) :=
  (if p0 = 0 then rdA 248 v_d 0 (fun x_1 => some (v_found, v_names, v_pile, x_1)) else (if p0 = 1 then rdA 248 v_d 1 (fun x_2 => some (v_found, v_names, v_pile, x_2)) else (if p0 = 2 then rdA 248 v_d 6 (fun x_3 => some (v_found, v_names, v_pile, x_3)) else (if p0 = 3 then bd1 (f_X7_alive v_d) (fun r_4 => some (v_found, v_names, v_pile, r_4)) else (if p0 = 4 then f_X7_count_L101 v_d v_found v_names v_pile 300 0 0 else (if p0 = 5 then rdA 248 v_d 2 (fun x_11 => some (v_found, v_names, v_pile, x_11)) else (if p0 = 6 then rdA 248 v_d 3 (fun x_12 => some (v_found, v_names, v_pile, x_12)) else (if p0 = 7 then rdA 248 v_d 4 (fun x_13 => some (v_found, v_names, v_pile, x_13)) else (if p0 = 8 then rdA 248 v_d 5 (fun x_14 => some (v_found, v_names, v_pile, x_14)) else (if p0 = 9 then bd3 (f_X7_coldNow v_d v_names v_pile) (fun v_names_15 v_pile_16 r_17 => some (v_found, v_names_15, v_pile_16, r_17)) else (if p0 = 10 then rdA 248 v_d 8 (fun x_18 => some (v_found, v_names, v_pile, x_18)) else (if p0 = 11 then rdA 248 v_d 9 (fun x_19 => some (v_found, v_names, v_pile, x_19)) else (if p0 = 12 then some (v_found, v_names, v_pile, v_traceMany) else (if p0 = 13 then rdA 248 v_d 7 (fun x_20 => some (v_found, v_names, v_pile, x_20)) else bd2 (f_X7_finds v_found 1) (fun v_found_21 r_22 => some (v_found_21, v_names, v_pile, r_22))))))))))))))))
set_option maxHeartbeats 600000 in
set_option maxRecDepth 100000 in
theorem c_X7_count (l : Launch) (D : va_G) (cI cS : ClassId) (o : Nat → Nat) {v_d : Nat → Int32} {v_kept : Nat → Int32} {v_images : Int32} {v_found : Nat → Int32} {v_aside : Nat → Int32} {v_base : Int32} {v_at : Int32} {v_size : Int32} {v_fault : Int32} {v_opened : Int32} {v_isCold : Int32} {v_names : Nat → Int32} {v_code : Nat → Int32} {v_coded : Int32} {v_pile : Nat → Int32} {v_horn : Int32} {v_brass : Int32} {v_coldAhead : Nat → Int32} {v_which : Nat → Int32} {v_whichMany : Int32} {v_bestPass : Int32} {v_bestLive : Int32} {v_bestCode : Int32} {v_traced : Nat → Int32} {v_traceMany : Int32} {v_who : Int32} {v_bitsOf : Nat → Int32} {v_sizeOf : Nat → Int32} {v_number : Nat → Int32} {v_lifted : Nat → Int32} {p0 : Int32} {w_found : Nat → Int32} {w_names : Nat → Int32} {w_pile : Nat → Int32} {r_out : Int32} (h : f_X7_count  v_d v_found v_names v_pile v_traceMany p0 = some (w_found, w_names, w_pile, r_out)) : MetI l D (tysX cI cS) St0 yX7_count cX7_count 4 (some .int) 4 92 [.ref (o 0), .int p0] (pcX7 o cI v_d v_kept v_images v_found v_aside v_base v_at v_size v_fault v_opened v_isCold v_names v_code v_coded v_pile v_horn v_brass v_coldAhead v_which v_whichMany v_bestPass v_bestLive v_bestCode v_traced v_traceMany v_who v_bitsOf v_sizeOf v_number v_lifted) r_out (pcX7 o cI v_d v_kept v_images w_found v_aside v_base v_at v_size v_fault v_opened v_isCold w_names v_code v_coded w_pile v_horn v_brass v_coldAhead v_which v_whichMany v_bestPass v_bestLive v_bestCode v_traced v_traceMany v_who v_bitsOf v_sizeOf v_number v_lifted) := by
  refine Ent.metI (by decide +kernel) (Nat.le_of_ble_eq_true rfl) ?_
  intro p e s m args below meth c A ls hx hb hr hml hown hts hlocks hA hK hSt hP hD hS hl
  have hown : s.vm.findClass RX7 = some m.cls := hown
  have S : XFix p m c cX7_count 4 s args RX7 := ⟨hx, hb, hml, hown, hts⟩
  have hl : lv_has ls 4 [(0, .ref (o 0)), (1, .int p0)] := hl
  unfold f_X7_count at h
  obtain ⟨⟨n1, n2, n3, n4, n5, n6⟩, ⟨zZ0, zT0⟩, ⟨zZ1, zT1⟩, ⟨zZ2, zT2⟩, ⟨zZ3, zT3⟩⟩ := id hSt
  refine lv_iconst (v := 0) hx hb dX7_count_0 (by decide) ?_
  refine lv_istore_n (lv' := [(2, .int 0), (0, .ref (o 0)), (1, .int p0)]) hx hb dX7_count_1 rfl hl (by decide) rfl (fun ls hl => ?_)
  refine lv_iload_n hx hb dX7_count_2 rfl (lv_at hl 2 rfl) ?_
  by_cases c3_0 : p0 = 0
  · replace h := ite_t c3_0 h
    refine lv_tableIn (off := 69) (tgt := 72) hx hb dX7_count_3 (by rw [c3_0]; decide) (by rw [c3_0]; decide) (by rw [c3_0]; rfl) (by decide) ?_
    refine lv_aload_n hx hb dX7_count_72 rfl (lv_at hl 1 rfl) ?_
    refine gt_X7_7 S hK hP 0 rfl rfl dX7_count_73 ?_
    refine lv_iconst (v := 0) hx hb dX7_count_76 (by decide) ?_
    refine x_ald hx hb hK hP 1 h rfl rfl dX7_count_77 (fun x_1 ex_1 h => ?_)
    cases h
    exact x_iret hx hb hr hlocks hK hP hD hS rfl rfl dX7_count_78
  replace h := ite_f c3_0 h
  by_cases c3_1 : p0 = 1
  · replace h := ite_t c3_1 h
    refine lv_tableIn (off := 76) (tgt := 79) hx hb dX7_count_3 (by rw [c3_1]; decide) (by rw [c3_1]; decide) (by rw [c3_1]; rfl) (by decide) ?_
    refine lv_aload_n hx hb dX7_count_79 rfl (lv_at hl 1 rfl) ?_
    refine gt_X7_7 S hK hP 0 rfl rfl dX7_count_80 ?_
    refine lv_iconst (v := 1) hx hb dX7_count_83 (by decide) ?_
    refine x_ald hx hb hK hP 1 h rfl rfl dX7_count_84 (fun x_2 ex_2 h => ?_)
    cases h
    exact x_iret hx hb hr hlocks hK hP hD hS rfl rfl dX7_count_85
  replace h := ite_f c3_1 h
  by_cases c3_2 : p0 = 2
  · replace h := ite_t c3_2 h
    refine lv_tableIn (off := 83) (tgt := 86) hx hb dX7_count_3 (by rw [c3_2]; decide) (by rw [c3_2]; decide) (by rw [c3_2]; rfl) (by decide) ?_
    refine lv_aload_n hx hb dX7_count_86 rfl (lv_at hl 1 rfl) ?_
    refine gt_X7_7 S hK hP 0 rfl rfl dX7_count_87 ?_
    refine lv_bipush (v := 6) hx hb dX7_count_90 (by decide) ?_
    refine x_ald hx hb hK hP 1 h rfl rfl dX7_count_92 (fun x_3 ex_3 h => ?_)
    cases h
    exact x_iret hx hb hr hlocks hK hP hD hS rfl rfl dX7_count_93
  replace h := ite_f c3_2 h
  by_cases c3_3 : p0 = 3
  · replace h := ite_t c3_3 h
    refine lv_tableIn (off := 91) (tgt := 94) hx hb dX7_count_3 (by rw [c3_3]; decide) (by rw [c3_3]; decide) (by rw [c3_3]; rfl) (by decide) ?_
    refine lv_aload_n hx hb dX7_count_94 rfl (lv_at hl 1 rfl) ?_
    obtain ⟨r_4, hc95, h⟩ := bd1_s h
    refine x_selfVi (As := []) (rest := []) St0_ok S (c_X7_alive l D cI cS o hc95) yf_X7_alive wd26_13 ⟨Nat.le_of_ble_eq_true rfl, Nat.le_of_ble_eq_true rfl⟩ hK hSt hA hP hD hS 0 rfl rfl rfl hl.1 rfl (Nat.le_of_ble_eq_true rfl) dX7_count_95 (Nat.zero_le _) (Nat.zero_le _) (fun H locs hP hD hS => ?_)
    cases h
    exact x_iret hx hb hr hlocks hK hP hD hS rfl rfl dX7_count_98
  replace h := ite_f c3_3 h
  by_cases c3_4 : p0 = 4
  · replace h := ite_t c3_4 h
    refine lv_tableIn (off := 96) (tgt := 99) hx hb dX7_count_3 (by rw [c3_4]; decide) (by rw [c3_4]; decide) (by rw [c3_4]; rfl) (by decide) ?_
    refine lv_iconst (v := 0) hx hb dX7_count_99 (by decide) ?_
    refine lv_istore_n (lv' := [(3, .int 0), (2, .int 0), (0, .ref (o 0)), (1, .int p0)]) hx hb dX7_count_100 rfl hl (by decide) rfl (fun ls hl => ?_)
    have wf_X7_count_L101 : ∀ (k_n : Nat) (l2_5 : Int32) (l3_6 : Int32), f_X7_count_L101 v_d v_found v_names v_pile k_n l2_5 l3_6 = some (w_found, w_names, w_pile, r_out) → ∀ (H : Heap) (locs : List Loc), va_P D vwCl (pcX7 o cI v_d v_kept v_images v_found v_aside v_base v_at v_size v_fault v_opened v_isCold v_names v_code v_coded v_pile v_horn v_brass v_coldAhead v_which v_whichMany v_bestPass v_bestLive v_bestCode v_traced v_traceMany v_who v_bitsOf v_sizeOf v_number v_lifted) H → va_D A (pcX7 o cI v_d v_kept v_images v_found v_aside v_base v_at v_size v_fault v_opened v_isCold v_names v_code v_coded v_pile v_horn v_brass v_coldAhead v_which v_whichMany v_bestPass v_bestLive v_bestCode v_traced v_traceMany v_who v_bitsOf v_sizeOf v_number v_lifted) → va_S A s.heap H locs → ∀ ls : Array Slot, lv_has ls 4 [(0, .ref (o 0)), (2, .int l2_5), (3, .int l3_6)] → WI p l e 4 92 s m args below meth c D (tysX cI cS) A r_out (pcX7 o cI v_d v_kept v_images w_found v_aside v_base v_at v_size v_fault v_opened v_isCold w_names v_code v_coded w_pile v_horn v_brass v_coldAhead v_which v_whichMany v_bestPass v_bestLive v_bestCode v_traced v_traceMany v_who v_bitsOf v_sizeOf v_number v_lifted) H locs (F0 m 101 ls []) := by
        intro k_n
        induction k_n with
        | zero => intro l2_5 l3_6 h; rw [f_X7_count_L101] at h; cases h
        | succ k_n ih =>
          intro l2_5 l3_6 h H locs hP hD hS ls hl
          rw [f_X7_count_L101] at h
          refine lv_iload_n hx hb dX7_count_101 rfl (lv_at hl 2 rfl) ?_
          refine lv_aload_n hx hb dX7_count_102 rfl (lv_at hl 0 rfl) ?_
          refine gt_X7_7 S hK hP 0 rfl rfl dX7_count_103 ?_
          refine lv_iconst (v := 1) hx hb dX7_count_106 (by decide) ?_
          refine x_ald hx hb hK hP 1 h rfl rfl dX7_count_107 (fun x_7 ex_7 h => ?_)
          refine x_icmp_ge (tgt := 128) hx hb h dX7_count_108 (by decide) (fun c108 h => ?_) (fun c108 h => ?_)
          · refine lv_iload_n hx hb dX7_count_128 rfl (lv_at hl 1 rfl) ?_
            cases h
            exact x_iret hx hb hr hlocks hK hP hD hS rfl rfl dX7_count_129
          · refine lv_iload_n hx hb dX7_count_111 rfl (lv_at hl 1 rfl) ?_
            refine lv_aload_n hx hb dX7_count_112 rfl (lv_at hl 0 rfl) ?_
            refine lv_iload_n hx hb dX7_count_113 rfl (lv_at hl 2 rfl) ?_
            refine lv_iconst (v := 2) hx hb dX7_count_114 (by decide) ?_
            obtain ⟨r_8, hc115, h⟩ := bd1_s h
            refine x_selfVi (As := [.int l3_6, .int 2]) (rest := [.int l2_5]) St0_ok S (c_X7_its l D cI cS o hc115) yf_X7_its wd11_15 ⟨Nat.le_of_ble_eq_true rfl, Nat.le_of_ble_eq_true rfl⟩ hK hSt hA hP hD hS 0 rfl rfl rfl hl.1 rfl (Nat.le_of_ble_eq_true rfl) dX7_count_115 (Nat.zero_le _) (Nat.zero_le _) (fun H locs hP hD hS => ?_)
            refine lv_iload_n hx hb dX7_count_118 rfl (lv_at hl 2 rfl) ?_
            refine lv_ishl hx hb dX7_count_119 ?_
            refine lv_ior hx hb dX7_count_120 ?_
            refine x_nm h (fun l2_9 el2_9 h => ?_)
            refine lv_istore_n (lv' := [(2, .int l2_9), (0, .ref (o 0)), (3, .int l3_6)]) hx hb dX7_count_121 rfl hl (by decide) rfl (fun ls hl => ?_)
            obtain ⟨l3_10, el3_10, h⟩ := nmA_s h
            refine lv_iinc (v := l3_10) (lv' := [(3, .int l3_10), (2, .int l2_9), (0, .ref (o 0))]) hx hb dX7_count_122 hl (k := 2) rfl (by rw [el3_10]; exact congrArg _ (by decide)) (by decide) rfl (fun ls hl => ?_)
            refine lv_goto (tgt := 101) hx hb dX7_count_125 (by decide) ?_
            exact ih l2_9 l3_10 h _ _ hP hD hS _ (lv_sub hl [2, 1, 0] rfl)
    exact wf_X7_count_L101 300 0 0 h _ _ hP hD hS _ (lv_sub hl [2, 1, 0] rfl)
  replace h := ite_f c3_4 h
  by_cases c3_5 : p0 = 5
  · replace h := ite_t c3_5 h
    refine lv_tableIn (off := 127) (tgt := 130) hx hb dX7_count_3 (by rw [c3_5]; decide) (by rw [c3_5]; decide) (by rw [c3_5]; rfl) (by decide) ?_
    refine lv_aload_n hx hb dX7_count_130 rfl (lv_at hl 1 rfl) ?_
    refine gt_X7_7 S hK hP 0 rfl rfl dX7_count_131 ?_
    refine lv_iconst (v := 2) hx hb dX7_count_134 (by decide) ?_
    refine x_ald hx hb hK hP 1 h rfl rfl dX7_count_135 (fun x_11 ex_11 h => ?_)
    cases h
    exact x_iret hx hb hr hlocks hK hP hD hS rfl rfl dX7_count_136
  replace h := ite_f c3_5 h
  by_cases c3_6 : p0 = 6
  · replace h := ite_t c3_6 h
    refine lv_tableIn (off := 134) (tgt := 137) hx hb dX7_count_3 (by rw [c3_6]; decide) (by rw [c3_6]; decide) (by rw [c3_6]; rfl) (by decide) ?_
    refine lv_aload_n hx hb dX7_count_137 rfl (lv_at hl 1 rfl) ?_
    refine gt_X7_7 S hK hP 0 rfl rfl dX7_count_138 ?_
    refine lv_iconst (v := 3) hx hb dX7_count_141 (by decide) ?_
    refine x_ald hx hb hK hP 1 h rfl rfl dX7_count_142 (fun x_12 ex_12 h => ?_)
    cases h
    exact x_iret hx hb hr hlocks hK hP hD hS rfl rfl dX7_count_143
  replace h := ite_f c3_6 h
  by_cases c3_7 : p0 = 7
  · replace h := ite_t c3_7 h
    refine lv_tableIn (off := 141) (tgt := 144) hx hb dX7_count_3 (by rw [c3_7]; decide) (by rw [c3_7]; decide) (by rw [c3_7]; rfl) (by decide) ?_
    refine lv_aload_n hx hb dX7_count_144 rfl (lv_at hl 1 rfl) ?_
    refine gt_X7_7 S hK hP 0 rfl rfl dX7_count_145 ?_
    refine lv_iconst (v := 4) hx hb dX7_count_148 (by decide) ?_
    refine x_ald hx hb hK hP 1 h rfl rfl dX7_count_149 (fun x_13 ex_13 h => ?_)
    cases h
    exact x_iret hx hb hr hlocks hK hP hD hS rfl rfl dX7_count_150
  replace h := ite_f c3_7 h
  by_cases c3_8 : p0 = 8
  · replace h := ite_t c3_8 h
    refine lv_tableIn (off := 148) (tgt := 151) hx hb dX7_count_3 (by rw [c3_8]; decide) (by rw [c3_8]; decide) (by rw [c3_8]; rfl) (by decide) ?_
    refine lv_aload_n hx hb dX7_count_151 rfl (lv_at hl 1 rfl) ?_
    refine gt_X7_7 S hK hP 0 rfl rfl dX7_count_152 ?_
    refine lv_iconst (v := 5) hx hb dX7_count_155 (by decide) ?_
    refine x_ald hx hb hK hP 1 h rfl rfl dX7_count_156 (fun x_14 ex_14 h => ?_)
    cases h
    exact x_iret hx hb hr hlocks hK hP hD hS rfl rfl dX7_count_157
  replace h := ite_f c3_8 h
  by_cases c3_9 : p0 = 9
  · replace h := ite_t c3_9 h
    refine lv_tableIn (off := 155) (tgt := 158) hx hb dX7_count_3 (by rw [c3_9]; decide) (by rw [c3_9]; decide) (by rw [c3_9]; rfl) (by decide) ?_
    refine lv_aload_n hx hb dX7_count_158 rfl (lv_at hl 1 rfl) ?_
    obtain ⟨v_names_15, v_pile_16, r_17, hc159, h⟩ := bd3_s h
    refine x_selfVi (As := []) (rest := []) St0_ok S (c_X7_coldNow l D cI cS o hc159) yf_X7_coldNow wd11_7 ⟨Nat.le_of_ble_eq_true rfl, Nat.le_of_ble_eq_true rfl⟩ hK hSt hA hP hD hS 0 rfl rfl rfl hl.1 rfl (Nat.le_of_ble_eq_true rfl) dX7_count_159 (Nat.zero_le _) (Nat.zero_le _) (fun H locs hP hD hS => ?_)
    cases h
    exact x_iret hx hb hr hlocks hK hP hD hS rfl rfl dX7_count_162
  replace h := ite_f c3_9 h
  by_cases c3_10 : p0 = 10
  · replace h := ite_t c3_10 h
    refine lv_tableIn (off := 160) (tgt := 163) hx hb dX7_count_3 (by rw [c3_10]; decide) (by rw [c3_10]; decide) (by rw [c3_10]; rfl) (by decide) ?_
    refine lv_aload_n hx hb dX7_count_163 rfl (lv_at hl 1 rfl) ?_
    refine gt_X7_7 S hK hP 0 rfl rfl dX7_count_164 ?_
    refine lv_bipush (v := 8) hx hb dX7_count_167 (by decide) ?_
    refine x_ald hx hb hK hP 1 h rfl rfl dX7_count_169 (fun x_18 ex_18 h => ?_)
    cases h
    exact x_iret hx hb hr hlocks hK hP hD hS rfl rfl dX7_count_170
  replace h := ite_f c3_10 h
  by_cases c3_11 : p0 = 11
  · replace h := ite_t c3_11 h
    refine lv_tableIn (off := 168) (tgt := 171) hx hb dX7_count_3 (by rw [c3_11]; decide) (by rw [c3_11]; decide) (by rw [c3_11]; rfl) (by decide) ?_
    refine lv_aload_n hx hb dX7_count_171 rfl (lv_at hl 1 rfl) ?_
    refine gt_X7_7 S hK hP 0 rfl rfl dX7_count_172 ?_
    refine lv_bipush (v := 9) hx hb dX7_count_175 (by decide) ?_
    refine x_ald hx hb hK hP 1 h rfl rfl dX7_count_177 (fun x_19 ex_19 h => ?_)
    cases h
    exact x_iret hx hb hr hlocks hK hP hD hS rfl rfl dX7_count_178
  replace h := ite_f c3_11 h
  by_cases c3_12 : p0 = 12
  · replace h := ite_t c3_12 h
    refine lv_tableIn (off := 176) (tgt := 179) hx hb dX7_count_3 (by rw [c3_12]; decide) (by rw [c3_12]; decide) (by rw [c3_12]; rfl) (by decide) ?_
    refine lv_aload_n hx hb dX7_count_179 rfl (lv_at hl 1 rfl) ?_
    refine gt_X7_276 S hK hP 0 rfl rfl dX7_count_180 ?_
    cases h
    exact x_iret hx hb hr hlocks hK hP hD hS rfl rfl dX7_count_183
  replace h := ite_f c3_12 h
  by_cases c3_13 : p0 = 13
  · replace h := ite_t c3_13 h
    refine lv_tableIn (off := 181) (tgt := 184) hx hb dX7_count_3 (by rw [c3_13]; decide) (by rw [c3_13]; decide) (by rw [c3_13]; rfl) (by decide) ?_
    refine lv_aload_n hx hb dX7_count_184 rfl (lv_at hl 1 rfl) ?_
    refine gt_X7_7 S hK hP 0 rfl rfl dX7_count_185 ?_
    refine lv_bipush (v := 7) hx hb dX7_count_188 (by decide) ?_
    refine x_ald hx hb hK hP 1 h rfl rfl dX7_count_190 (fun x_20 ex_20 h => ?_)
    cases h
    exact x_iret hx hb hr hlocks hK hP hD hS rfl rfl dX7_count_191
  replace h := ite_f c3_13 h
  refine lv_tableOut (tgt := 192) hx hb dX7_count_3 (by have n0 := lv_neT c3_0 (show ((0) : Int32).toInt = 0 by decide); have n1 := lv_neT c3_1 (show ((1) : Int32).toInt = 1 by decide); have n2 := lv_neT c3_2 (show ((2) : Int32).toInt = 2 by decide); have n3 := lv_neT c3_3 (show ((3) : Int32).toInt = 3 by decide); have n4 := lv_neT c3_4 (show ((4) : Int32).toInt = 4 by decide); have n5 := lv_neT c3_5 (show ((5) : Int32).toInt = 5 by decide); have n6 := lv_neT c3_6 (show ((6) : Int32).toInt = 6 by decide); have n7 := lv_neT c3_7 (show ((7) : Int32).toInt = 7 by decide); have n8 := lv_neT c3_8 (show ((8) : Int32).toInt = 8 by decide); have n9 := lv_neT c3_9 (show ((9) : Int32).toInt = 9 by decide); have n10 := lv_neT c3_10 (show ((10) : Int32).toInt = 10 by decide); have n11 := lv_neT c3_11 (show ((11) : Int32).toInt = 11 by decide); have n12 := lv_neT c3_12 (show ((12) : Int32).toInt = 12 by decide); have n13 := lv_neT c3_13 (show ((13) : Int32).toInt = 13 by decide); omega) (by decide) ?_
  refine lv_aload_n hx hb dX7_count_192 rfl (lv_at hl 1 rfl) ?_
  refine lv_iconst (v := 1) hx hb dX7_count_193 (by decide) ?_
  obtain ⟨v_found_21, r_22, hc194, h⟩ := bd2_s h
  refine x_selfVi (As := [.int 1]) (rest := []) St0_ok S (c_X7_finds l D cI cS o hc194) yf_X7_finds wd6_10 ⟨Nat.le_of_ble_eq_true rfl, Nat.le_of_ble_eq_true rfl⟩ hK hSt hA hP hD hS 0 rfl rfl rfl hl.1 rfl (Nat.le_of_ble_eq_true rfl) dX7_count_194 (Nat.zero_le _) (Nat.zero_le _) (fun H locs hP hD hS => ?_)
  cases h
  exact x_iret hx hb hr hlocks hK hP hD hS rfl rfl dX7_count_197

def f_X7_told  (v_found : Nat → Int32) (p0 : Int32) : Option ((Nat → Int32) × (Int32)) :=
  bd1 (f_X7_in (p0.toInt64) 1 5) (fun r_1 => (if r_1 = 0 then bd2 (f_X7_finds v_found 1) (fun v_found_2 r_3 => some (v_found_2, r_3)) else rdA 6 v_found p0 (fun x_4 => some (v_found, x_4))))
set_option maxHeartbeats 600000 in
set_option maxRecDepth 100000 in
theorem c_X7_told (l : Launch) (D : va_G) (cI cS : ClassId) (o : Nat → Nat) {v_d : Nat → Int32} {v_kept : Nat → Int32} {v_images : Int32} {v_found : Nat → Int32} {v_aside : Nat → Int32} {v_base : Int32} {v_at : Int32} {v_size : Int32} {v_fault : Int32} {v_opened : Int32} {v_isCold : Int32} {v_names : Nat → Int32} {v_code : Nat → Int32} {v_coded : Int32} {v_pile : Nat → Int32} {v_horn : Int32} {v_brass : Int32} {v_coldAhead : Nat → Int32} {v_which : Nat → Int32} {v_whichMany : Int32} {v_bestPass : Int32} {v_bestLive : Int32} {v_bestCode : Int32} {v_traced : Nat → Int32} {v_traceMany : Int32} {v_who : Int32} {v_bitsOf : Nat → Int32} {v_sizeOf : Nat → Int32} {v_number : Nat → Int32} {v_lifted : Nat → Int32} {p0 : Int32} {w_found : Nat → Int32} {r_out : Int32} (h : f_X7_told  v_found p0 = some (w_found, r_out)) : MetI l D (tysX cI cS) St0 yX7_told cX7_told 2 (some .int) 1 25 [.ref (o 0), .int p0] (pcX7 o cI v_d v_kept v_images v_found v_aside v_base v_at v_size v_fault v_opened v_isCold v_names v_code v_coded v_pile v_horn v_brass v_coldAhead v_which v_whichMany v_bestPass v_bestLive v_bestCode v_traced v_traceMany v_who v_bitsOf v_sizeOf v_number v_lifted) r_out (pcX7 o cI v_d v_kept v_images w_found v_aside v_base v_at v_size v_fault v_opened v_isCold v_names v_code v_coded v_pile v_horn v_brass v_coldAhead v_which v_whichMany v_bestPass v_bestLive v_bestCode v_traced v_traceMany v_who v_bitsOf v_sizeOf v_number v_lifted) := by
  refine Ent.metI (by decide +kernel) (Nat.le_of_ble_eq_true rfl) ?_
  intro p e s m args below meth c A ls hx hb hr hml hown hts hlocks hA hK hSt hP hD hS hl
  have hown : s.vm.findClass RX7 = some m.cls := hown
  have S : XFix p m c cX7_told 2 s args RX7 := ⟨hx, hb, hml, hown, hts⟩
  have hl : lv_has ls 2 [(0, .ref (o 0)), (1, .int p0)] := hl
  unfold f_X7_told at h
  refine lv_iload_n hx hb dX7_told_0 rfl (lv_at hl 1 rfl) ?_
  refine lv_i2l (v := (p0.toInt64)) hx hb dX7_told_1 rfl ?_
  refine lv_lconst (v := 1) hx hb dX7_told_2 (by decide) ?_
  refine lv_ldc2 (v := 5) hx hb hown (hts _ wd15_21) dX7_told_3 ?_
  obtain ⟨r_1, hc6, h⟩ := bd1_s h
  refine x_statI (As := [.long (p0.toInt64), .long 1, .long 5]) (rest := []) St0_ok S (c_X7_in l D cI cS o hc6) ys_X7_in wd6_7 ⟨Nat.le_of_ble_eq_true rfl, Nat.le_of_ble_eq_true rfl⟩ hK hSt hA hP hD hS rfl hl.1 rfl (Nat.le_of_ble_eq_true rfl) dX7_told_6 (Nat.zero_le _) (Nat.zero_le _) (fun H locs hP hD hS => ?_)
  refine x_if_eq (tgt := 21) hx hb h dX7_told_9 (by decide) (fun c9 h => ?_) (fun c9 h => ?_)
  · refine lv_aload_n hx hb dX7_told_21 rfl (lv_at hl 0 rfl) ?_
    refine lv_iconst (v := 1) hx hb dX7_told_22 (by decide) ?_
    obtain ⟨v_found_2, r_3, hc23, h⟩ := bd2_s h
    refine x_selfVi (As := [.int 1]) (rest := []) St0_ok S (c_X7_finds l D cI cS o hc23) yf_X7_finds wd6_10 ⟨Nat.le_of_ble_eq_true rfl, Nat.le_of_ble_eq_true rfl⟩ hK hSt hA hP hD hS 0 rfl rfl rfl hl.1 rfl (Nat.le_of_ble_eq_true rfl) dX7_told_23 (Nat.zero_le _) (Nat.zero_le _) (fun H locs hP hD hS => ?_)
    cases h
    exact x_iret hx hb hr hlocks hK hP hD hS rfl rfl dX7_told_26
  · refine lv_aload_n hx hb dX7_told_12 rfl (lv_at hl 0 rfl) ?_
    refine gt_X7_16 S hK hP 0 rfl rfl dX7_told_13 ?_
    refine lv_iload_n hx hb dX7_told_16 rfl (lv_at hl 1 rfl) ?_
    refine x_ald hx hb hK hP 3 h rfl rfl dX7_told_17 (fun x_4 ex_4 h => ?_)
    refine lv_goto (tgt := 26) hx hb dX7_told_18 (by decide) ?_
    cases h
    exact x_iret hx hb hr hlocks hK hP hD hS rfl rfl dX7_told_26
