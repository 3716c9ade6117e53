def f_X7_spends_L45 (v_found : Nat → Int32) (p0 : Int32) (p1 : Int32) (v_coldAhead_7 : Nat → Int32) : Nat → (Nat → Int32) → (Nat → Int32) → (Nat → Int32) → Int32 → Option ((Nat → Int32) × (Nat → Int32) × (Nat → Int32) × (Nat → Int32) × (Nat → Int32) × (Int32))
  | 0, _, _, _, _ => none
  | k_n + 1, v_d_11, v_names_12, v_pile_13, l3_14 => (if l3_14 ≤ 0 then some (v_d_11, v_found, v_names_12, v_pile_13, v_coldAhead_7, l3_14) else bd1 (f_X7_of v_d_11 p0 4) (fun r_15 => bd1 (f_X7_held (r_15 + l3_14) 0 99) (fun r_16 => bd4 (f_X7_livesWith v_d_11 v_names_12 v_pile_13 v_coldAhead_7 p0 r_16 p1) (fun v_d_17 v_names_18 v_pile_19 r_20 => (if r_20 = 0 then nmA (l3_14 + (-1)) (fun l3_21 => f_X7_spends_L45 v_found p0 p1 v_coldAhead_7 k_n v_d_17 v_names_18 v_pile_19 l3_21) else some (v_d_17, v_found, v_names_18, v_pile_19, v_coldAhead_7, l3_14))))))
def f_X7_spends  (v_d : Nat → Int32) (v_found : Nat → Int32) (v_names : Nat → Int32) (v_pile : Nat → Int32) (v_coldAhead : Nat → Int32) (p0 : Int32) (p1 : Int32) : Option ((Nat → Int32) × (Nat → Int32) × (Nat → Int32) × (Nat → Int32) × (Nat → Int32) × (Int32)) :=
  bd1 (f_X7_isPerson v_d p0) (fun r_1 => jnA (bd2 (f_X7_finds v_found 1) (fun v_found_2 r_3 => some (v_d, v_found_2, v_names, v_pile, v_coldAhead, r_3))) (fun J20 => (if r_1 = 0 then J20 else bd1 (f_X7_in (p1.toInt64) 0 60) (fun r_4 => (if r_4 = 0 then J20 else bd3 (f_X7_findsCold v_d v_names v_pile v_coldAhead p1) (fun v_names_5 v_pile_6 v_coldAhead_7 => bd1 (f_X7_of v_d p0 2) (fun r_8 => bd1 (f_X7_of v_d p0 3) (fun r_9 => nmA (r_8 + r_9) (fun l3_10 => f_X7_spends_L45 v_found p0 p1 v_coldAhead_7 300 v_d v_names_5 v_pile_6 l3_10)))))))))
set_option maxHeartbeats 600000 in
set_option maxRecDepth 100000 in
theorem c_X7_spends (l : Launch) (D : va_G) (cI cS : ClassId) (o : Nat → Nat) {v_d : Nat → Int32} {v_kept : Nat → Int32} {v_images : Int32} {v_found : Nat → Int32} {v_aside : Nat → Int32} {v_base : Int32} {v_at : Int32} {v_size : Int32} {v_fault : Int32} {v_opened : Int32} {v_isCold : Int32} {v_names : Nat → Int32} {v_code : Nat → Int32} {v_coded : Int32} {v_pile : Nat → Int32} {v_horn : Int32} {v_brass : Int32} {v_coldAhead : Nat → Int32} {v_which : Nat → Int32} {v_whichMany : Int32} {v_bestPass : Int32} {v_bestLive : Int32} {v_bestCode : Int32} {v_traced : Nat → Int32} {v_traceMany : Int32} {v_who : Int32} {v_bitsOf : Nat → Int32} {v_sizeOf : Nat → Int32} {v_number : Nat → Int32} {v_lifted : Nat → Int32} {p0 : Int32} {p1 : Int32} {w_d : Nat → Int32} {w_found : Nat → Int32} {w_names : Nat → Int32} {w_pile : Nat → Int32} {w_coldAhead : Nat → Int32} {r_out : Int32} (h : f_X7_spends  v_d v_found v_names v_pile v_coldAhead p0 p1 = some (w_d, w_found, w_names, w_pile, w_coldAhead, r_out)) : MetI l D (tysX cI cS) St0 yX7_spends cX7_spends 4 (some .int) 5 123 [.ref (o 0), .int p0, .int p1] (pcX7 o cI v_d v_kept v_images v_found v_aside v_base v_at v_size v_fault v_opened v_isCold v_names v_code v_coded v_pile v_horn v_brass v_coldAhead v_which v_whichMany v_bestPass v_bestLive v_bestCode v_traced v_traceMany v_who v_bitsOf v_sizeOf v_number v_lifted) r_out (pcX7 o cI w_d v_kept v_images w_found v_aside v_base v_at v_size v_fault v_opened v_isCold w_names v_code v_coded w_pile v_horn v_brass w_coldAhead v_which v_whichMany v_bestPass v_bestLive v_bestCode v_traced v_traceMany v_who v_bitsOf v_sizeOf v_number v_lifted) := by
  refine Ent.metI (by decide +kernel) (Nat.le_of_ble_eq_true rfl) ?_
  intro p e s m args below meth c A ls hx hb hr hml hown hts hlocks hA hK hSt hP hD hS hl
  have hown : s.vm.findClass RX7 = some m.cls := hown
  have S : XFix p m c cX7_spends 4 s args RX7 := ⟨hx, hb, hml, hown, hts⟩
  have hl : lv_has ls 4 [(0, .ref (o 0)), (1, .int p0), (2, .int p1)] := hl
  unfold f_X7_spends at h
  refine lv_aload_n hx hb dX7_spends_0 rfl (lv_at hl 0 rfl) ?_
  refine lv_iload_n hx hb dX7_spends_1 rfl (lv_at hl 1 rfl) ?_
  obtain ⟨r_1, hc2, h⟩ := bd1_s h
  refine x_selfVi (As := [.int p0]) (rest := []) St0_ok S (c_X7_isPerson l D cI cS o hc2) yf_X7_isPerson wd10_3 ⟨Nat.le_of_ble_eq_true rfl, Nat.le_of_ble_eq_true rfl⟩ hK hSt hA hP hD hS 0 rfl rfl rfl hl.1 rfl (Nat.le_of_ble_eq_true rfl) dX7_spends_2 (Nat.zero_le _) (Nat.zero_le _) (fun H locs hP hD hS => ?_)
  obtain ⟨J20, eJ20, h⟩ := jnA_s h
  have wJ20 : J20  = some (w_d, w_found, w_names, w_pile, w_coldAhead, r_out) → ∀ (H : Heap) (locs : List Loc), va_P D vwCl (pcX7 o cI v_d v_kept v_images v_found v_aside v_base v_at v_size v_fault v_opened v_isCold v_names v_code v_coded v_pile v_horn v_brass v_coldAhead v_which v_whichMany v_bestPass v_bestLive v_bestCode v_traced v_traceMany v_who v_bitsOf v_sizeOf v_number v_lifted) H → va_D A (pcX7 o cI v_d v_kept v_images v_found v_aside v_base v_at v_size v_fault v_opened v_isCold v_names v_code v_coded v_pile v_horn v_brass v_coldAhead v_which v_whichMany v_bestPass v_bestLive v_bestCode v_traced v_traceMany v_who v_bitsOf v_sizeOf v_number v_lifted) → va_S A s.heap H locs → ∀ ls : Array Slot, lv_has ls 4 [(0, .ref (o 0))] → WI p l e 5 123 s m args below meth c D (tysX cI cS) A r_out (pcX7 o cI w_d v_kept v_images w_found v_aside v_base v_at v_size v_fault v_opened v_isCold w_names v_code v_coded w_pile v_horn v_brass w_coldAhead v_which v_whichMany v_bestPass v_bestLive v_bestCode v_traced v_traceMany v_who v_bitsOf v_sizeOf v_number v_lifted) H locs (F0 m 20 ls []) := by
      intro h H locs hP hD hS ls hl
      subst eJ20
      refine lv_aload_n hx hb dX7_spends_20 rfl (lv_at hl 0 rfl) ?_
      refine lv_iconst (v := 1) hx hb dX7_spends_21 (by decide) ?_
      obtain ⟨v_found_2, r_3, hc22, h⟩ := bd2_s h
      refine x_selfVi (As := [.int 1]) (rest := []) St0_ok S (c_X7_finds l D cI cS o hc22) yf_X7_finds wd6_10 ⟨Nat.le_of_ble_eq_true rfl, Nat.le_of_ble_eq_true rfl⟩ hK hSt hA hP hD hS 0 rfl rfl rfl hl.1 rfl (Nat.le_of_ble_eq_true rfl) dX7_spends_22 (Nat.zero_le _) (Nat.zero_le _) (fun H locs hP hD hS => ?_)
      cases h
      exact x_iret hx hb hr hlocks hK hP hD hS rfl rfl dX7_spends_25
  refine x_if_eq (tgt := 20) hx hb h dX7_spends_5 (by decide) (fun c5 h => ?_) (fun c5 h => ?_)
  · exact wJ20 h _ _ hP hD hS _ (lv_sub hl [0] rfl)
  · refine lv_iload_n hx hb dX7_spends_8 rfl (lv_at hl 2 rfl) ?_
    refine lv_i2l (v := (p1.toInt64)) hx hb dX7_spends_9 rfl ?_
    refine lv_lconst (v := 0) hx hb dX7_spends_10 (by decide) ?_
    refine lv_ldc2 (v := 60) hx hb hown (hts _ wd26_4) dX7_spends_11 ?_
    obtain ⟨r_4, hc14, h⟩ := bd1_s h
    refine x_statI (As := [.long (p1.toInt64), .long 0, .long 60]) (rest := []) St0_ok S (c_X7_in l D cI cS o hc14) ys_X7_in wd6_7 ⟨Nat.le_of_ble_eq_true rfl, Nat.le_of_ble_eq_true rfl⟩ hK hSt hA hP hD hS rfl hl.1 rfl (Nat.le_of_ble_eq_true rfl) dX7_spends_14 (Nat.zero_le _) (Nat.zero_le _) (fun H locs hP hD hS => ?_)
    refine x_if_ne (tgt := 26) hx hb h dX7_spends_17 (by decide) (fun c17 h => ?_) (fun c17 h => ?_)
    · refine lv_aload_n hx hb dX7_spends_26 rfl (lv_at hl 0 rfl) ?_
      refine lv_iload_n hx hb dX7_spends_27 rfl (lv_at hl 2 rfl) ?_
      obtain ⟨v_names_5, v_pile_6, v_coldAhead_7, hc28, h⟩ := bd3_s h
      refine x_selfVv (As := [.int p1]) (rest := []) St0_ok S (c_X7_findsCold l D cI cS o hc28) yf_X7_findsCold wd30_11 ⟨Nat.le_of_ble_eq_true rfl, Nat.le_of_ble_eq_true rfl⟩ hK hSt hA hP hD hS 0 rfl rfl rfl hl.1 rfl (Nat.le_of_ble_eq_true rfl) dX7_spends_28 (Nat.zero_le _) (Nat.zero_le _) (fun H locs hP hD hS => ?_)
      refine lv_aload_n hx hb dX7_spends_31 rfl (lv_at hl 0 rfl) ?_
      refine lv_iload_n hx hb dX7_spends_32 rfl (lv_at hl 1 rfl) ?_
      refine lv_iconst (v := 2) hx hb dX7_spends_33 (by decide) ?_
      obtain ⟨r_8, hc34, h⟩ := bd1_s h
      refine x_selfVi (As := [.int p0, .int 2]) (rest := []) St0_ok S (c_X7_of l D cI cS o hc34) yf_X7_of wd10_11 ⟨Nat.le_of_ble_eq_true rfl, Nat.le_of_ble_eq_true rfl⟩ hK hSt hA hP hD hS 0 rfl rfl rfl hl.1 rfl (Nat.le_of_ble_eq_true rfl) dX7_spends_34 (Nat.zero_le _) (Nat.zero_le _) (fun H locs hP hD hS => ?_)
      refine lv_aload_n hx hb dX7_spends_37 rfl (lv_at hl 0 rfl) ?_
      refine lv_iload_n hx hb dX7_spends_38 rfl (lv_at hl 1 rfl) ?_
      refine lv_iconst (v := 3) hx hb dX7_spends_39 (by decide) ?_
      obtain ⟨r_9, hc40, h⟩ := bd1_s h
      refine x_selfVi (As := [.int p0, .int 3]) (rest := [.int r_8]) St0_ok S (c_X7_of l D cI cS o hc40) yf_X7_of wd10_11 ⟨Nat.le_of_ble_eq_true rfl, Nat.le_of_ble_eq_true rfl⟩ hK hSt hA hP hD hS 0 rfl rfl rfl hl.1 rfl (Nat.le_of_ble_eq_true rfl) dX7_spends_40 (Nat.zero_le _) (Nat.zero_le _) (fun H locs hP hD hS => ?_)
      refine lv_iadd hx hb dX7_spends_43 ?_
      refine x_nm h (fun l3_10 el3_10 h => ?_)
      refine lv_istore_n (lv' := [(3, .int l3_10), (0, .ref (o 0)), (1, .int p0), (2, .int p1)]) hx hb dX7_spends_44 rfl hl (by decide) rfl (fun ls hl => ?_)
      have wf_X7_spends_L45 : ∀ (k_n : Nat) (v_d_11 : Nat → Int32) (v_names_12 : Nat → Int32) (v_pile_13 : Nat → Int32) (l3_14 : Int32), f_X7_spends_L45 v_found p0 p1 v_coldAhead_7 k_n v_d_11 v_names_12 v_pile_13 l3_14 = some (w_d, w_found, w_names, w_pile, w_coldAhead, r_out) → ∀ (H : Heap) (locs : List Loc), va_P D vwCl (pcX7 o cI v_d_11 v_kept v_images v_found v_aside v_base v_at v_size v_fault v_opened v_isCold v_names_12 v_code v_coded v_pile_13 v_horn v_brass v_coldAhead_7 v_which v_whichMany v_bestPass v_bestLive v_bestCode v_traced v_traceMany v_who v_bitsOf v_sizeOf v_number v_lifted) H → va_D A (pcX7 o cI v_d_11 v_kept v_images v_found v_aside v_base v_at v_size v_fault v_opened v_isCold v_names_12 v_code v_coded v_pile_13 v_horn v_brass v_coldAhead_7 v_which v_whichMany v_bestPass v_bestLive v_bestCode v_traced v_traceMany v_who v_bitsOf v_sizeOf v_number v_lifted) → va_S A s.heap H locs → ∀ ls : Array Slot, lv_has ls 4 [(0, .ref (o 0)), (1, .int p0), (2, .int p1), (3, .int l3_14)] → WI p l e 5 123 s m args below meth c D (tysX cI cS) A r_out (pcX7 o cI w_d v_kept v_images w_found v_aside v_base v_at v_size v_fault v_opened v_isCold w_names v_code v_coded w_pile v_horn v_brass w_coldAhead v_which v_whichMany v_bestPass v_bestLive v_bestCode v_traced v_traceMany v_who v_bitsOf v_sizeOf v_number v_lifted) H locs (F0 m 45 ls []) := by
          intro k_n
          induction k_n with
          | zero => intro v_d_11 v_names_12 v_pile_13 l3_14 h; rw [f_X7_spends_L45] at h; cases h
          | succ k_n ih =>
            intro v_d_11 v_names_12 v_pile_13 l3_14 h H locs hP hD hS ls hl
            rw [f_X7_spends_L45] at h
            refine lv_iload_n hx hb dX7_spends_45 rfl (lv_at hl 3 rfl) ?_
            refine x_if_le (tgt := 78) hx hb h dX7_spends_46 (by decide) (fun c46 h => ?_) (fun c46 h => ?_)
            · refine lv_iload_n hx hb dX7_spends_78 rfl (lv_at hl 3 rfl) ?_
              cases h
              exact x_iret hx hb hr hlocks hK hP hD hS rfl rfl dX7_spends_79
            · refine lv_aload_n hx hb dX7_spends_49 rfl (lv_at hl 0 rfl) ?_
              refine lv_iload_n hx hb dX7_spends_50 rfl (lv_at hl 1 rfl) ?_
              refine lv_aload_n hx hb dX7_spends_51 rfl (lv_at hl 0 rfl) ?_
              refine lv_iload_n hx hb dX7_spends_52 rfl (lv_at hl 1 rfl) ?_
              refine lv_iconst (v := 4) hx hb dX7_spends_53 (by decide) ?_
              obtain ⟨r_15, hc54, h⟩ := bd1_s h
              refine x_selfVi (As := [.int p0, .int 4]) (rest := [.int p0, .ref (o 0)]) St0_ok S (c_X7_of l D cI cS o hc54) yf_X7_of wd10_11 ⟨Nat.le_of_ble_eq_true rfl, Nat.le_of_ble_eq_true rfl⟩ hK hSt hA hP hD hS 0 rfl rfl rfl hl.1 rfl (Nat.le_of_ble_eq_true rfl) dX7_spends_54 (Nat.zero_le _) (Nat.zero_le _) (fun H locs hP hD hS => ?_)
              refine lv_iload_n hx hb dX7_spends_57 rfl (lv_at hl 3 rfl) ?_
              refine lv_iadd hx hb dX7_spends_58 ?_
              refine lv_iconst (v := 0) hx hb dX7_spends_59 (by decide) ?_
              refine lv_bipush (v := 99) hx hb dX7_spends_60 (by decide) ?_
              obtain ⟨r_16, hc62, h⟩ := bd1_s h
              refine x_statI (As := [.int (r_15 + l3_14), .int 0, .int 99]) (rest := [.int p0, .ref (o 0)]) St0_ok S (c_X7_held l D cI cS o hc62) ys_X7_held wd12_6 ⟨Nat.le_of_ble_eq_true rfl, Nat.le_of_ble_eq_true rfl⟩ hK hSt hA hP hD hS rfl hl.1 rfl (Nat.le_of_ble_eq_true rfl) dX7_spends_62 (Nat.zero_le _) (Nat.zero_le _) (fun H locs hP hD hS => ?_)
              refine lv_iload_n hx hb dX7_spends_65 rfl (lv_at hl 2 rfl) ?_
              obtain ⟨v_d_17, v_names_18, v_pile_19, r_20, hc66, h⟩ := bd4_s h
              refine x_selfVi (As := [.int p0, .int r_16, .int p1]) (rest := []) St0_ok S (c_X7_livesWith l D cI cS o hc66) yf_X7_livesWith wd30_15 ⟨Nat.le_of_ble_eq_true rfl, Nat.le_of_ble_eq_true rfl⟩ hK hSt hA hP hD hS 0 rfl rfl rfl hl.1 rfl (Nat.le_of_ble_eq_true rfl) dX7_spends_66 (Nat.zero_le _) (Nat.zero_le _) (fun H locs hP hD hS => ?_)
              refine x_if_ne (tgt := 78) hx hb h dX7_spends_69 (by decide) (fun c69 h => ?_) (fun c69 h => ?_)
              · refine lv_iload_n hx hb dX7_spends_78 rfl (lv_at hl 3 rfl) ?_
                cases h
                exact x_iret hx hb hr hlocks hK hP hD hS rfl rfl dX7_spends_79
              · obtain ⟨l3_21, el3_21, h⟩ := nmA_s h
                refine lv_iinc (v := l3_21) (lv' := [(3, .int l3_21), (0, .ref (o 0)), (1, .int p0), (2, .int p1)]) hx hb dX7_spends_72 hl (k := 3) rfl (by rw [el3_21]; exact congrArg _ (by decide)) (by decide) rfl (fun ls hl => ?_)
                refine lv_goto (tgt := 45) hx hb dX7_spends_75 (by decide) ?_
                exact ih v_d_17 v_names_18 v_pile_19 l3_21 h _ _ hP hD hS _ (lv_sub hl [1, 2, 3, 0] rfl)
      exact wf_X7_spends_L45 300 v_d v_names_5 v_pile_6 l3_10 h _ _ hP hD hS _ (lv_sub hl [1, 2, 3, 0] rfl)
    · exact wJ20 h _ _ hP hD hS _ (lv_sub hl [0] rfl)

def f_X7_tries_L48 (v_which : Nat → Int32) (v_whichMany : Int32) (p1 : Int32) (l4_16 : Int32) (J119 : (Nat → Int32) → Int32 → Int32 → Int32 → Option ((Nat → Int32) × (Nat → Int32) × (Nat → Int32) × (Nat → Int32) × (Int32) × (Int32) × (Int32) × (Int32) × (Int32))) : Nat → (Nat → Int32) → Int32 → Int32 → Int32 → Int32 → Int32 → Int32 → Option ((Nat → Int32) × (Nat → Int32) × (Nat → Int32) × (Nat → Int32) × (Int32) × (Int32) × (Int32) × (Int32) × (Int32))
  | 0, _, _, _, _, _, _, _ => none
  | k_n + 1, v_d_26, v_horn_27, v_brass_28, l3_29, l5_30, l6_31, l7_32 => (if v_whichMany ≤ l7_32 then J119 v_d_26 v_horn_27 v_brass_28 l3_29 else nzA l6_31 (nzA p1 (jnA (fun (v_d_33 : Nat → Int32) (v_horn_34 : Int32) (v_brass_35 : Int32) (t0_36 : Int32) => nmA (l3_29 + t0_36) (fun l3_37 => nzA l6_31 (nmA (rmI l5_30 l6_31) (fun l5_38 => jnA (fun (t0_39 : Int32) => nzA t0_39 (nmA (l6_31 / t0_39) (fun l6_40 => nmA (l7_32 + 1) (fun l7_41 => f_X7_tries_L48 v_which v_whichMany p1 l4_16 J119 k_n v_d_33 v_horn_34 v_brass_35 l3_37 l5_38 l6_40 l7_41)))) (fun J110 => (if p1 ≤ 1 then J110 1 else J110 p1)))))) (fun J89 => jnA (fun (v_d_42 : Nat → Int32) (v_horn_43 : Int32) (v_brass_44 : Int32) => J89 v_d_42 v_horn_43 v_brass_44 0) (fun J88 => (if (rmI (l5_30 / l6_31) p1) = l4_16 then rdA 3 v_which l7_32 (fun x_45 => bd4 (f_X7_votes v_d_26 v_horn_27 v_brass_28 x_45) (fun v_d_46 v_horn_47 v_brass_48 r_49 => (if r_49 = 0 then J88 v_d_46 v_horn_47 v_brass_48 else J89 v_d_46 v_horn_47 v_brass_48 1))) else J88 v_d_26 v_horn_27 v_brass_28))))))
def f_X7_tries_L24 (v_whichMany : Int32) (p1 : Int32) (J45 : Int32 → Option ((Nat → Int32) × (Nat → Int32) × (Nat → Int32) × (Nat → Int32) × (Int32) × (Int32) × (Int32) × (Int32) × (Int32))) : Nat → Int32 → Int32 → Option ((Nat → Int32) × (Nat → Int32) × (Nat → Int32) × (Nat → Int32) × (Int32) × (Int32) × (Int32) × (Int32) × (Int32))
  | 0, _, _ => none
  | k_n + 1, l6_50, l7_51 => (if v_whichMany ≤ l7_51 then J45 l6_50 else nmA (l6_50 * p1) (fun l6_52 => nmA (l7_51 + 1) (fun l7_53 => f_X7_tries_L24 v_whichMany p1 J45 k_n l6_52 l7_53)))
def f_X7_tries_L9 (v_which : Nat → Int32) (v_whichMany : Int32) (p0 : Int32) (p1 : Int32) (J129 : (Nat → Int32) → (Nat → Int32) → (Nat → Int32) → Int32 → Int32 → Int32 → Option ((Nat → Int32) × (Nat → Int32) × (Nat → Int32) × (Nat → Int32) × (Int32) × (Int32) × (Int32) × (Int32) × (Int32))) : Nat → (Nat → Int32) → (Nat → Int32) → (Nat → Int32) → Int32 → Int32 → Int32 → Int32 → Option ((Nat → Int32) × (Nat → Int32) × (Nat → Int32) × (Nat → Int32) × (Int32) × (Int32) × (Int32) × (Int32) × (Int32))
  | 0, _, _, _, _, _, _, _ => none
  | k_n + 1, v_d_10, v_names_11, v_pile_12, v_horn_13, v_brass_14, l3_15, l4_16 => (if p1 ≤ l4_16 then J129 v_d_10 v_names_11 v_pile_12 v_horn_13 v_brass_14 l3_15 else jnA (fun (l6_17 : Int32) => jnA (fun (v_d_18 : Nat → Int32) (v_horn_19 : Int32) (v_brass_20 : Int32) (l3_21 : Int32) => bd3 (f_X7_dayGoes v_d_18 v_names_11 v_pile_12) (fun v_d_22 v_names_23 v_pile_24 => nmA (l4_16 + 1) (fun l4_25 => f_X7_tries_L9 v_which v_whichMany p0 p1 J129 k_n v_d_22 v_names_23 v_pile_24 v_horn_19 v_brass_20 l3_21 l4_25))) (fun J119 => f_X7_tries_L48 v_which v_whichMany p1 l4_16 J119 300 v_d_10 v_horn_13 v_brass_14 l3_15 p0 l6_17 0)) (fun J45 => f_X7_tries_L24 v_whichMany p1 J45 300 1 1))
def f_X7_tries  (v_d : Nat → Int32) (v_aside : Nat → Int32) (v_names : Nat → Int32) (v_pile : Nat → Int32) (v_horn : Int32) (v_brass : Int32) (v_which : Nat → Int32) (v_whichMany : Int32) (v_bestPass : Int32) (v_bestLive : Int32) (v_bestCode : Int32) (p0 : Int32) (p1 : Int32) : Option ((Nat → Int32) × (Nat → Int32) × (Nat → Int32) × (Nat → Int32) × (Int32) × (Int32) × (Int32) × (Int32) × (Int32)) :=
  bd1 (f_X7_keepAside v_d v_aside) (fun v_aside_1 => jnA (fun (v_d_2 : Nat → Int32) (v_names_3 : Nat → Int32) (v_pile_4 : Nat → Int32) (v_horn_5 : Int32) (v_brass_6 : Int32) (l3_7 : Int32) => bd1 (f_X7_alive v_d_2) (fun r_8 => bd1 (f_X7_putBack v_d_2 v_aside_1) (fun v_d_9 => jnA (some (v_d_9, v_aside_1, v_names_3, v_pile_4, v_horn_5, v_brass_6, l3_7, r_8, p0)) (fun J171 => (if v_bestCode < 0 then J171 else (if v_bestPass < l3_7 then J171 else (if l3_7 = v_bestPass then (if r_8 ≤ v_bestLive then some (v_d_9, v_aside_1, v_names_3, v_pile_4, v_horn_5, v_brass_6, v_bestPass, v_bestLive, v_bestCode) else J171) else some (v_d_9, v_aside_1, v_names_3, v_pile_4, v_horn_5, v_brass_6, v_bestPass, v_bestLive, v_bestCode)))))))) (fun J129 => f_X7_tries_L9 v_which v_whichMany p0 p1 J129 300 v_d v_names v_pile v_horn v_brass 0 0))
set_option maxHeartbeats 600000 in
set_option maxRecDepth 100000 in
theorem c_X7_tries (l : Launch) (D : va_G) (cI cS : ClassId) (o : Nat → Nat) {v_d : Nat → Int32} {v_kept : Nat → Int32} {v_images : Int32} {v_found : Nat → Int32} {v_aside : Nat → Int32} {v_base : Int32} {v_at : Int32} {v_size : Int32} {v_fault : Int32} {v_opened : Int32} {v_isCold : Int32} {v_names : Nat → Int32} {v_code : Nat → Int32} {v_coded : Int32} {v_pile : Nat → Int32} {v_horn : Int32} {v_brass : Int32} {v_coldAhead : Nat → Int32} {v_which : Nat → Int32} {v_whichMany : Int32} {v_bestPass : Int32} {v_bestLive : Int32} {v_bestCode : Int32} {v_traced : Nat → Int32} {v_traceMany : Int32} {v_who : Int32} {v_bitsOf : Nat → Int32} {v_sizeOf : Nat → Int32} {v_number : Nat → Int32} {v_lifted : Nat → Int32} {p0 : Int32} {p1 : Int32} {w_d : Nat → Int32} {w_aside : Nat → Int32} {w_names : Nat → Int32} {w_pile : Nat → Int32} {w_horn : Int32} {w_brass : Int32} {w_bestPass : Int32} {w_bestLive : Int32} {w_bestCode : Int32} (h : f_X7_tries  v_d v_aside v_names v_pile v_horn v_brass v_which v_whichMany v_bestPass v_bestLive v_bestCode p0 p1 = some (w_d, w_aside, w_names, w_pile, w_horn, w_brass, w_bestPass, w_bestLive, w_bestCode)) : MetV l D (tysX cI cS) St0 yX7_tries cX7_tries 8 none 8 179 [.ref (o 0), .int p0, .int p1] (pcX7 o cI v_d v_kept v_images v_found v_aside v_base v_at v_size v_fault v_opened v_isCold v_names v_code v_coded v_pile v_horn v_brass v_coldAhead v_which v_whichMany v_bestPass v_bestLive v_bestCode v_traced v_traceMany v_who v_bitsOf v_sizeOf v_number v_lifted) (pcX7 o cI w_d v_kept v_images v_found w_aside v_base v_at v_size v_fault v_opened v_isCold w_names v_code v_coded w_pile w_horn w_brass v_coldAhead v_which v_whichMany w_bestPass w_bestLive w_bestCode v_traced v_traceMany v_who v_bitsOf v_sizeOf v_number v_lifted) := by
  refine Ent.metV (by decide +kernel) (Nat.le_of_ble_eq_true rfl) ?_
  intro p e s m args below meth c A ls hx hb hr hml hown hts hlocks hA hK hSt hP hD hS hl
  have hown : s.vm.findClass RX7 = some m.cls := hown
  have S : XFix p m c cX7_tries 8 s args RX7 := ⟨hx, hb, hml, hown, hts⟩
  have hl : lv_has ls 8 [(0, .ref (o 0)), (1, .int p0), (2, .int p1)] := hl
  unfold f_X7_tries at h
  refine lv_aload_n hx hb dX7_tries_0 rfl (lv_at hl 0 rfl) ?_
  obtain ⟨v_aside_1, hc1, h⟩ := bd1_s h
  refine x_selfVv (As := []) (rest := []) St0_ok S (c_X7_keepAside l D cI cS o hc1) yf_X7_keepAside wd28_9 ⟨Nat.le_of_ble_eq_true rfl, Nat.le_of_ble_eq_true rfl⟩ hK hSt hA hP hD hS 0 rfl rfl rfl hl.1 rfl (Nat.le_of_ble_eq_true rfl) dX7_tries_1 (Nat.zero_le _) (Nat.zero_le _) (fun H locs hP hD hS => ?_)
  refine lv_iconst (v := 0) hx hb dX7_tries_4 (by decide) ?_
  refine lv_istore_n (lv' := [(3, .int 0), (0, .ref (o 0)), (1, .int p0), (2, .int p1)]) hx hb dX7_tries_5 rfl hl (by decide) rfl (fun ls hl => ?_)
  refine lv_iconst (v := 0) hx hb dX7_tries_6 (by decide) ?_
  refine lv_istore (lv' := [(4, .int 0), (3, .int 0), (0, .ref (o 0)), (1, .int p0), (2, .int p1)]) hx hb dX7_tries_7 hl (by decide) rfl (fun ls hl => ?_)
  obtain ⟨J129, eJ129, h⟩ := jnA_s h
  have wJ129 : ∀ (v_d_2 : Nat → Int32) (v_names_3 : Nat → Int32) (v_pile_4 : Nat → Int32) (v_horn_5 : Int32) (v_brass_6 : Int32) (l3_7 : Int32), J129 v_d_2 v_names_3 v_pile_4 v_horn_5 v_brass_6 l3_7 = some (w_d, w_aside, w_names, w_pile, w_horn, w_brass, w_bestPass, w_bestLive, w_bestCode) → ∀ (H : Heap) (locs : List Loc), va_P D vwCl (pcX7 o cI v_d_2 v_kept v_images v_found v_aside_1 v_base v_at v_size v_fault v_opened v_isCold v_names_3 v_code v_coded v_pile_4 v_horn_5 v_brass_6 v_coldAhead v_which v_whichMany v_bestPass v_bestLive v_bestCode v_traced v_traceMany v_who v_bitsOf v_sizeOf v_number v_lifted) H → va_D A (pcX7 o cI v_d_2 v_kept v_images v_found v_aside_1 v_base v_at v_size v_fault v_opened v_isCold v_names_3 v_code v_coded v_pile_4 v_horn_5 v_brass_6 v_coldAhead v_which v_whichMany v_bestPass v_bestLive v_bestCode v_traced v_traceMany v_who v_bitsOf v_sizeOf v_number v_lifted) → va_S A s.heap H locs → ∀ ls : Array Slot, lv_has ls 8 [(0, .ref (o 0)), (1, .int p0), (3, .int l3_7)] → WV p l e 8 179 s m args below meth c D (tysX cI cS) A (pcX7 o cI w_d v_kept v_images v_found w_aside v_base v_at v_size v_fault v_opened v_isCold w_names v_code v_coded w_pile w_horn w_brass v_coldAhead v_which v_whichMany w_bestPass w_bestLive w_bestCode v_traced v_traceMany v_who v_bitsOf v_sizeOf v_number v_lifted) H locs (F0 m 129 ls []) := by
      intro v_d_2 v_names_3 v_pile_4 v_horn_5 v_brass_6 l3_7 h H locs hP hD hS ls hl
      subst eJ129
      dsimp only at h
      refine lv_aload_n hx hb dX7_tries_129 rfl (lv_at hl 0 rfl) ?_
      obtain ⟨r_8, hc130, h⟩ := bd1_s h
      refine x_selfVi (As := []) (rest := []) St0_ok S (c_X7_alive l D cI cS o hc130) yf_X7_alive wd26_13 ⟨Nat.le_of_ble_eq_true rfl, Nat.le_of_ble_eq_true rfl⟩ hK hSt hA hP hD hS 0 rfl rfl rfl hl.1 rfl (Nat.le_of_ble_eq_true rfl) dX7_tries_130 (Nat.zero_le _) (Nat.zero_le _) (fun H locs hP hD hS => ?_)
      refine lv_istore (lv' := [(4, .int r_8), (0, .ref (o 0)), (1, .int p0), (3, .int l3_7)]) hx hb dX7_tries_133 hl (by decide) rfl (fun ls hl => ?_)
      refine lv_aload_n hx hb dX7_tries_135 rfl (lv_at hl 1 rfl) ?_
      obtain ⟨v_d_9, hc136, h⟩ := bd1_s h
      refine x_selfVv (As := []) (rest := []) St0_ok S (c_X7_putBack l D cI cS o hc136) yf_X7_putBack wd28_17 ⟨Nat.le_of_ble_eq_true rfl, Nat.le_of_ble_eq_true rfl⟩ hK hSt hA hP hD hS 0 rfl rfl rfl hl.1 rfl (Nat.le_of_ble_eq_true rfl) dX7_tries_136 (Nat.zero_le _) (Nat.zero_le _) (fun H locs hP hD hS => ?_)
      refine lv_aload_n hx hb dX7_tries_139 rfl (lv_at hl 1 rfl) ?_
      refine gt_X7_256 S hK hP 0 rfl rfl dX7_tries_140 ?_
      obtain ⟨J171, eJ171, h⟩ := jnA_s h
      have wJ171 : J171  = some (w_d, w_aside, w_names, w_pile, w_horn, w_brass, w_bestPass, w_bestLive, w_bestCode) → ∀ (H : Heap) (locs : List Loc), va_P D vwCl (pcX7 o cI v_d_9 v_kept v_images v_found v_aside_1 v_base v_at v_size v_fault v_opened v_isCold v_names_3 v_code v_coded v_pile_4 v_horn_5 v_brass_6 v_coldAhead v_which v_whichMany v_bestPass v_bestLive v_bestCode v_traced v_traceMany v_who v_bitsOf v_sizeOf v_number v_lifted) H → va_D A (pcX7 o cI v_d_9 v_kept v_images v_found v_aside_1 v_base v_at v_size v_fault v_opened v_isCold v_names_3 v_code v_coded v_pile_4 v_horn_5 v_brass_6 v_coldAhead v_which v_whichMany v_bestPass v_bestLive v_bestCode v_traced v_traceMany v_who v_bitsOf v_sizeOf v_number v_lifted) → va_S A s.heap H locs → ∀ ls : Array Slot, lv_has ls 8 [(0, .ref (o 0)), (1, .int p0), (3, .int l3_7), (4, .int r_8)] → WV p l e 8 179 s m args below meth c D (tysX cI cS) A (pcX7 o cI w_d v_kept v_images v_found w_aside v_base v_at v_size v_fault v_opened v_isCold w_names v_code v_coded w_pile w_horn w_brass v_coldAhead v_which v_whichMany w_bestPass w_bestLive w_bestCode v_traced v_traceMany v_who v_bitsOf v_sizeOf v_number v_lifted) H locs (F0 m 171 ls []) := by
          intro h H locs hP hD hS ls hl
          subst eJ171
          refine lv_aload_n hx hb dX7_tries_171 rfl (lv_at hl 0 rfl) ?_
          refine lv_iload_n hx hb dX7_tries_172 rfl (lv_at hl 2 rfl) ?_
          refine pt_X7_259 S hK hP hD hS 0 rfl (Nat.le_of_ble_eq_true rfl) dX7_tries_173 (fun H locs hP hD hS => ?_)
          have hP : va_P D vwCl (pcX7 o cI v_d_9 v_kept v_images v_found v_aside_1 v_base v_at v_size v_fault v_opened v_isCold v_names_3 v_code v_coded v_pile_4 v_horn_5 v_brass_6 v_coldAhead v_which v_whichMany l3_7 v_bestLive v_bestCode v_traced v_traceMany v_who v_bitsOf v_sizeOf v_number v_lifted) H := hP
          have hD : va_D A (pcX7 o cI v_d_9 v_kept v_images v_found v_aside_1 v_base v_at v_size v_fault v_opened v_isCold v_names_3 v_code v_coded v_pile_4 v_horn_5 v_brass_6 v_coldAhead v_which v_whichMany l3_7 v_bestLive v_bestCode v_traced v_traceMany v_who v_bitsOf v_sizeOf v_number v_lifted) := hD
          refine lv_aload_n hx hb dX7_tries_176 rfl (lv_at hl 0 rfl) ?_
          refine lv_iload hx hb dX7_tries_177 (lv_at hl 3 rfl) ?_
          refine pt_X7_262 S hK hP hD hS 0 rfl (Nat.le_of_ble_eq_true rfl) dX7_tries_179 (fun H locs hP hD hS => ?_)
          have hP : va_P D vwCl (pcX7 o cI v_d_9 v_kept v_images v_found v_aside_1 v_base v_at v_size v_fault v_opened v_isCold v_names_3 v_code v_coded v_pile_4 v_horn_5 v_brass_6 v_coldAhead v_which v_whichMany l3_7 r_8 v_bestCode v_traced v_traceMany v_who v_bitsOf v_sizeOf v_number v_lifted) H := hP
          have hD : va_D A (pcX7 o cI v_d_9 v_kept v_images v_found v_aside_1 v_base v_at v_size v_fault v_opened v_isCold v_names_3 v_code v_coded v_pile_4 v_horn_5 v_brass_6 v_coldAhead v_which v_whichMany l3_7 r_8 v_bestCode v_traced v_traceMany v_who v_bitsOf v_sizeOf v_number v_lifted) := hD
          refine lv_aload_n hx hb dX7_tries_182 rfl (lv_at hl 0 rfl) ?_
          refine lv_iload_n hx hb dX7_tries_183 rfl (lv_at hl 1 rfl) ?_
          refine pt_X7_256 S hK hP hD hS 0 rfl (Nat.le_of_ble_eq_true rfl) dX7_tries_184 (fun H locs hP hD hS => ?_)
          have hP : va_P D vwCl (pcX7 o cI v_d_9 v_kept v_images v_found v_aside_1 v_base v_at v_size v_fault v_opened v_isCold v_names_3 v_code v_coded v_pile_4 v_horn_5 v_brass_6 v_coldAhead v_which v_whichMany l3_7 r_8 p0 v_traced v_traceMany v_who v_bitsOf v_sizeOf v_number v_lifted) H := hP
          have hD : va_D A (pcX7 o cI v_d_9 v_kept v_images v_found v_aside_1 v_base v_at v_size v_fault v_opened v_isCold v_names_3 v_code v_coded v_pile_4 v_horn_5 v_brass_6 v_coldAhead v_which v_whichMany l3_7 r_8 p0 v_traced v_traceMany v_who v_bitsOf v_sizeOf v_number v_lifted) := hD
          cases h
          exact x_vret hx hb hr hlocks hK hP hD hS rfl dX7_tries_187
      refine x_if_lt (tgt := 171) hx hb h dX7_tries_143 (by decide) (fun c143 h => ?_) (fun c143 h => ?_)
      · exact wJ171 h _ _ hP hD hS _ (lv_sub hl [1, 2, 3, 0] rfl)
      · refine lv_iload_n hx hb dX7_tries_146 rfl (lv_at hl 3 rfl) ?_
        refine lv_aload_n hx hb dX7_tries_147 rfl (lv_at hl 1 rfl) ?_
        refine gt_X7_259 S hK hP 0 rfl rfl dX7_tries_148 ?_
        refine x_icmp_gt (tgt := 171) hx hb h dX7_tries_151 (by decide) (fun c151 h => ?_) (fun c151 h => ?_)
        · exact wJ171 h _ _ hP hD hS _ (lv_sub hl [1, 2, 3, 0] rfl)
        · refine lv_iload_n hx hb dX7_tries_154 rfl (lv_at hl 3 rfl) ?_
          refine lv_aload_n hx hb dX7_tries_155 rfl (lv_at hl 1 rfl) ?_
          refine gt_X7_259 S hK hP 0 rfl rfl dX7_tries_156 ?_
          refine x_icmp_ne (tgt := 187) hx hb h dX7_tries_159 (by decide) (fun c159 h => ?_) (fun c159 h => ?_)
          · cases h
            exact x_vret hx hb hr hlocks hK hP hD hS rfl dX7_tries_187
          · refine lv_iload hx hb dX7_tries_162 (lv_at hl 0 rfl) ?_
            refine lv_aload_n hx hb dX7_tries_164 rfl (lv_at hl 1 rfl) ?_
            refine gt_X7_262 S hK hP 0 rfl rfl dX7_tries_165 ?_
            refine x_icmp_le (tgt := 187) hx hb h dX7_tries_168 (by decide) (fun c168 h => ?_) (fun c168 h => ?_)
            · cases h
              exact x_vret hx hb hr hlocks hK hP hD hS rfl dX7_tries_187
            · exact wJ171 h _ _ hP hD hS _ (lv_sub hl [1, 2, 3, 0] rfl)
  have wf_X7_tries_L9 : ∀ (k_n : Nat) (v_d_10 : Nat → Int32) (v_names_11 : Nat → Int32) (v_pile_12 : Nat → Int32) (v_horn_13 : Int32) (v_brass_14 : Int32) (l3_15 : Int32) (l4_16 : Int32), f_X7_tries_L9 v_which v_whichMany p0 p1 J129 k_n v_d_10 v_names_11 v_pile_12 v_horn_13 v_brass_14 l3_15 l4_16 = some (w_d, w_aside, w_names, w_pile, w_horn, w_brass, w_bestPass, w_bestLive, w_bestCode) → ∀ (H : Heap) (locs : List Loc), va_P D vwCl (pcX7 o cI v_d_10 v_kept v_images v_found v_aside_1 v_base v_at v_size v_fault v_opened v_isCold v_names_11 v_code v_coded v_pile_12 v_horn_13 v_brass_14 v_coldAhead v_which v_whichMany v_bestPass v_bestLive v_bestCode v_traced v_traceMany v_who v_bitsOf v_sizeOf v_number v_lifted) H → va_D A (pcX7 o cI v_d_10 v_kept v_images v_found v_aside_1 v_base v_at v_size v_fault v_opened v_isCold v_names_11 v_code v_coded v_pile_12 v_horn_13 v_brass_14 v_coldAhead v_which v_whichMany v_bestPass v_bestLive v_bestCode v_traced v_traceMany v_who v_bitsOf v_sizeOf v_number v_lifted) → va_S A s.heap H locs → ∀ ls : Array Slot, lv_has ls 8 [(0, .ref (o 0)), (1, .int p0), (2, .int p1), (3, .int l3_15), (4, .int l4_16)] → WV p l e 8 179 s m args below meth c D (tysX cI cS) A (pcX7 o cI w_d v_kept v_images v_found w_aside v_base v_at v_size v_fault v_opened v_isCold w_names v_code v_coded w_pile w_horn w_brass v_coldAhead v_which v_whichMany w_bestPass w_bestLive w_bestCode v_traced v_traceMany v_who v_bitsOf v_sizeOf v_number v_lifted) H locs (F0 m 9 ls []) := by
      intro k_n
      induction k_n with
      | zero => intro v_d_10 v_names_11 v_pile_12 v_horn_13 v_brass_14 l3_15 l4_16 h; rw [f_X7_tries_L9] at h; cases h
      | succ k_n ih =>
        intro v_d_10 v_names_11 v_pile_12 v_horn_13 v_brass_14 l3_15 l4_16 h H locs hP hD hS ls hl
        rw [f_X7_tries_L9] at h
        refine lv_iload hx hb dX7_tries_9 (lv_at hl 4 rfl) ?_
        refine lv_iload_n hx hb dX7_tries_11 rfl (lv_at hl 2 rfl) ?_
        refine x_icmp_ge (tgt := 129) hx hb h dX7_tries_12 (by decide) (fun c12 h => ?_) (fun c12 h => ?_)
        · exact wJ129 v_d_10 v_names_11 v_pile_12 v_horn_13 v_brass_14 l3_15 h _ _ hP hD hS _ (lv_sub hl [0, 1, 3] rfl)
        · refine lv_iload_n hx hb dX7_tries_15 rfl (lv_at hl 1 rfl) ?_
          refine lv_istore (lv' := [(5, .int p0), (0, .ref (o 0)), (1, .int p0), (2, .int p1), (3, .int l3_15), (4, .int l4_16)]) hx hb dX7_tries_16 hl (by decide) rfl (fun ls hl => ?_)
          refine lv_iconst (v := 1) hx hb dX7_tries_18 (by decide) ?_
          refine lv_istore (lv' := [(6, .int 1), (5, .int p0), (0, .ref (o 0)), (1, .int p0), (2, .int p1), (3, .int l3_15), (4, .int l4_16)]) hx hb dX7_tries_19 hl (by decide) rfl (fun ls hl => ?_)
          refine lv_iconst (v := 1) hx hb dX7_tries_21 (by decide) ?_
          refine lv_istore (lv' := [(7, .int 1), (6, .int 1), (5, .int p0), (0, .ref (o 0)), (1, .int p0), (2, .int p1), (3, .int l3_15), (4, .int l4_16)]) hx hb dX7_tries_22 hl (by decide) rfl (fun ls hl => ?_)
          obtain ⟨J45, eJ45, h⟩ := jnA_s h
          have wJ45 : ∀ (l6_17 : Int32), J45 l6_17 = some (w_d, w_aside, w_names, w_pile, w_horn, w_brass, w_bestPass, w_bestLive, w_bestCode) → ∀ (H : Heap) (locs : List Loc), va_P D vwCl (pcX7 o cI v_d_10 v_kept v_images v_found v_aside_1 v_base v_at v_size v_fault v_opened v_isCold v_names_11 v_code v_coded v_pile_12 v_horn_13 v_brass_14 v_coldAhead v_which v_whichMany v_bestPass v_bestLive v_bestCode v_traced v_traceMany v_who v_bitsOf v_sizeOf v_number v_lifted) H → va_D A (pcX7 o cI v_d_10 v_kept v_images v_found v_aside_1 v_base v_at v_size v_fault v_opened v_isCold v_names_11 v_code v_coded v_pile_12 v_horn_13 v_brass_14 v_coldAhead v_which v_whichMany v_bestPass v_bestLive v_bestCode v_traced v_traceMany v_who v_bitsOf v_sizeOf v_number v_lifted) → va_S A s.heap H locs → ∀ ls : Array Slot, lv_has ls 8 [(0, .ref (o 0)), (1, .int p0), (2, .int p1), (3, .int l3_15), (4, .int l4_16), (5, .int p0), (6, .int l6_17)] → WV p l e 8 179 s m args below meth c D (tysX cI cS) A (pcX7 o cI w_d v_kept v_images v_found w_aside v_base v_at v_size v_fault v_opened v_isCold w_names v_code v_coded w_pile w_horn w_brass v_coldAhead v_which v_whichMany w_bestPass w_bestLive w_bestCode v_traced v_traceMany v_who v_bitsOf v_sizeOf v_number v_lifted) H locs (F0 m 45 ls []) := by
              intro l6_17 h H locs hP hD hS ls hl
              subst eJ45
              dsimp only at h
              refine lv_iconst (v := 0) hx hb dX7_tries_45 (by decide) ?_
              refine lv_istore (lv' := [(7, .int 0), (0, .ref (o 0)), (1, .int p0), (2, .int p1), (3, .int l3_15), (4, .int l4_16), (5, .int p0), (6, .int l6_17)]) hx hb dX7_tries_46 hl (by decide) rfl (fun ls hl => ?_)
              obtain ⟨J119, eJ119, h⟩ := jnA_s h
              have wJ119 : ∀ (v_d_18 : Nat → Int32) (v_horn_19 : Int32) (v_brass_20 : Int32) (l3_21 : Int32), J119 v_d_18 v_horn_19 v_brass_20 l3_21 = some (w_d, w_aside, w_names, w_pile, w_horn, w_brass, w_bestPass, w_bestLive, w_bestCode) → ∀ (H : Heap) (locs : List Loc), va_P D vwCl (pcX7 o cI v_d_18 v_kept v_images v_found v_aside_1 v_base v_at v_size v_fault v_opened v_isCold v_names_11 v_code v_coded v_pile_12 v_horn_19 v_brass_20 v_coldAhead v_which v_whichMany v_bestPass v_bestLive v_bestCode v_traced v_traceMany v_who v_bitsOf v_sizeOf v_number v_lifted) H → va_D A (pcX7 o cI v_d_18 v_kept v_images v_found v_aside_1 v_base v_at v_size v_fault v_opened v_isCold v_names_11 v_code v_coded v_pile_12 v_horn_19 v_brass_20 v_coldAhead v_which v_whichMany v_bestPass v_bestLive v_bestCode v_traced v_traceMany v_who v_bitsOf v_sizeOf v_number v_lifted) → va_S A s.heap H locs → ∀ ls : Array Slot, lv_has ls 8 [(0, .ref (o 0)), (1, .int p0), (2, .int p1), (3, .int l3_21), (4, .int l4_16)] → WV p l e 8 179 s m args below meth c D (tysX cI cS) A (pcX7 o cI w_d v_kept v_images v_found w_aside v_base v_at v_size v_fault v_opened v_isCold w_names v_code v_coded w_pile w_horn w_brass v_coldAhead v_which v_whichMany w_bestPass w_bestLive w_bestCode v_traced v_traceMany v_who v_bitsOf v_sizeOf v_number v_lifted) H locs (F0 m 119 ls []) := by
                  intro v_d_18 v_horn_19 v_brass_20 l3_21 h H locs hP hD hS ls hl
                  subst eJ119
                  dsimp only at h
                  refine lv_aload_n hx hb dX7_tries_119 rfl (lv_at hl 0 rfl) ?_
                  obtain ⟨v_d_22, v_names_23, v_pile_24, hc120, h⟩ := bd3_s h
                  refine x_selfVv (As := []) (rest := []) St0_ok S (c_X7_dayGoes l D cI cS o hc120) yf_X7_dayGoes wd26_9 ⟨Nat.le_of_ble_eq_true rfl, Nat.le_of_ble_eq_true rfl⟩ hK hSt hA hP hD hS 0 rfl rfl rfl hl.1 rfl (Nat.le_of_ble_eq_true rfl) dX7_tries_120 (Nat.zero_le _) (Nat.zero_le _) (fun H locs hP hD hS => ?_)
                  obtain ⟨l4_25, el4_25, h⟩ := nmA_s h
                  refine lv_iinc (v := l4_25) (lv' := [(4, .int l4_25), (0, .ref (o 0)), (1, .int p0), (2, .int p1), (3, .int l3_21)]) hx hb dX7_tries_123 hl (k := 4) rfl (by rw [el4_25]; exact congrArg _ (by decide)) (by decide) rfl (fun ls hl => ?_)
                  refine lv_goto (tgt := 9) hx hb dX7_tries_126 (by decide) ?_
                  exact ih v_d_22 v_names_23 v_pile_24 v_horn_19 v_brass_20 l3_21 l4_25 h _ _ hP hD hS _ (lv_sub hl [1, 2, 3, 4, 0] rfl)
              have wf_X7_tries_L48 : ∀ (k_n : Nat) (v_d_26 : Nat → Int32) (v_horn_27 : Int32) (v_brass_28 : Int32) (l3_29 : Int32) (l5_30 : Int32) (l6_31 : Int32) (l7_32 : Int32), f_X7_tries_L48 v_which v_whichMany p1 l4_16 J119 k_n v_d_26 v_horn_27 v_brass_28 l3_29 l5_30 l6_31 l7_32 = some (w_d, w_aside, w_names, w_pile, w_horn, w_brass, w_bestPass, w_bestLive, w_bestCode) → ∀ (H : Heap) (locs : List Loc), va_P D vwCl (pcX7 o cI v_d_26 v_kept v_images v_found v_aside_1 v_base v_at v_size v_fault v_opened v_isCold v_names_11 v_code v_coded v_pile_12 v_horn_27 v_brass_28 v_coldAhead v_which v_whichMany v_bestPass v_bestLive v_bestCode v_traced v_traceMany v_who v_bitsOf v_sizeOf v_number v_lifted) H → va_D A (pcX7 o cI v_d_26 v_kept v_images v_found v_aside_1 v_base v_at v_size v_fault v_opened v_isCold v_names_11 v_code v_coded v_pile_12 v_horn_27 v_brass_28 v_coldAhead v_which v_whichMany v_bestPass v_bestLive v_bestCode v_traced v_traceMany v_who v_bitsOf v_sizeOf v_number v_lifted) → va_S A s.heap H locs → ∀ ls : Array Slot, lv_has ls 8 [(0, .ref (o 0)), (1, .int p0), (2, .int p1), (3, .int l3_29), (4, .int l4_16), (5, .int l5_30), (6, .int l6_31), (7, .int l7_32)] → WV p l e 8 179 s m args below meth c D (tysX cI cS) A (pcX7 o cI w_d v_kept v_images v_found w_aside v_base v_at v_size v_fault v_opened v_isCold w_names v_code v_coded w_pile w_horn w_brass v_coldAhead v_which v_whichMany w_bestPass w_bestLive w_bestCode v_traced v_traceMany v_who v_bitsOf v_sizeOf v_number v_lifted) H locs (F0 m 48 ls []) := by
                  intro k_n
                  induction k_n with
                  | zero => intro v_d_26 v_horn_27 v_brass_28 l3_29 l5_30 l6_31 l7_32 h; rw [f_X7_tries_L48] at h; cases h
                  | succ k_n ih =>
                    intro v_d_26 v_horn_27 v_brass_28 l3_29 l5_30 l6_31 l7_32 h H locs hP hD hS ls hl
                    rw [f_X7_tries_L48] at h
                    refine lv_iload hx hb dX7_tries_48 (lv_at hl 7 rfl) ?_
                    refine lv_aload_n hx hb dX7_tries_50 rfl (lv_at hl 0 rfl) ?_
                    refine gt_X7_253 S hK hP 0 rfl rfl dX7_tries_51 ?_
                    refine x_icmp_ge (tgt := 119) hx hb h dX7_tries_54 (by decide) (fun c54 h => ?_) (fun c54 h => ?_)
                    · exact wJ119 v_d_26 v_horn_27 v_brass_28 l3_29 h _ _ hP hD hS _ (lv_sub hl [0, 1, 2, 3, 4] rfl)
                    · refine lv_iload_n hx hb dX7_tries_57 rfl (lv_at hl 3 rfl) ?_
                      refine lv_iload hx hb dX7_tries_58 (lv_at hl 5 rfl) ?_
                      refine lv_iload hx hb dX7_tries_60 (lv_at hl 6 rfl) ?_
                      refine x_idiv hx hb h dX7_tries_62 (fun h => ?_)
                      refine lv_iload_n hx hb dX7_tries_63 rfl (lv_at hl 2 rfl) ?_
                      refine x_irem hx hb h dX7_tries_64 (fun h => ?_)
                      refine lv_iload hx hb dX7_tries_65 (lv_at hl 4 rfl) ?_
                      obtain ⟨J89, eJ89, h⟩ := jnA_s h
                      have wJ89 : ∀ (v_d_33 : Nat → Int32) (v_horn_34 : Int32) (v_brass_35 : Int32) (t0_36 : Int32), J89 v_d_33 v_horn_34 v_brass_35 t0_36 = some (w_d, w_aside, w_names, w_pile, w_horn, w_brass, w_bestPass, w_bestLive, w_bestCode) → ∀ (H : Heap) (locs : List Loc), va_P D vwCl (pcX7 o cI v_d_33 v_kept v_images v_found v_aside_1 v_base v_at v_size v_fault v_opened v_isCold v_names_11 v_code v_coded v_pile_12 v_horn_34 v_brass_35 v_coldAhead v_which v_whichMany v_bestPass v_bestLive v_bestCode v_traced v_traceMany v_who v_bitsOf v_sizeOf v_number v_lifted) H → va_D A (pcX7 o cI v_d_33 v_kept v_images v_found v_aside_1 v_base v_at v_size v_fault v_opened v_isCold v_names_11 v_code v_coded v_pile_12 v_horn_34 v_brass_35 v_coldAhead v_which v_whichMany v_bestPass v_bestLive v_bestCode v_traced v_traceMany v_who v_bitsOf v_sizeOf v_number v_lifted) → va_S A s.heap H locs → ∀ ls : Array Slot, lv_has ls 8 [(0, .ref (o 0)), (1, .int p0), (2, .int p1), (4, .int l4_16), (5, .int l5_30), (6, .int l6_31), (7, .int l7_32)] → WV p l e 8 179 s m args below meth c D (tysX cI cS) A (pcX7 o cI w_d v_kept v_images v_found w_aside v_base v_at v_size v_fault v_opened v_isCold w_names v_code v_coded w_pile w_horn w_brass v_coldAhead v_which v_whichMany w_bestPass w_bestLive w_bestCode v_traced v_traceMany v_who v_bitsOf v_sizeOf v_number v_lifted) H locs (F0 m 89 ls [.int t0_36, .int l3_29]) := by
                          intro v_d_33 v_horn_34 v_brass_35 t0_36 h H locs hP hD hS ls hl
                          subst eJ89
                          dsimp only at h
                          refine lv_iadd hx hb dX7_tries_89 ?_
                          refine x_nm h (fun l3_37 el3_37 h => ?_)
                          refine lv_istore_n (lv' := [(3, .int l3_37), (0, .ref (o 0)), (1, .int p0), (2, .int p1), (4, .int l4_16), (5, .int l5_30), (6, .int l6_31), (7, .int l7_32)]) hx hb dX7_tries_90 rfl hl (by decide) rfl (fun ls hl => ?_)
                          refine lv_iload hx hb dX7_tries_91 (lv_at hl 5 rfl) ?_
                          refine lv_iload hx hb dX7_tries_93 (lv_at hl 6 rfl) ?_
                          refine x_irem hx hb h dX7_tries_95 (fun h => ?_)
                          refine x_nm h (fun l5_38 el5_38 h => ?_)
                          refine lv_istore (lv' := [(5, .int l5_38), (3, .int l3_37), (0, .ref (o 0)), (1, .int p0), (2, .int p1), (4, .int l4_16), (6, .int l6_31), (7, .int l7_32)]) hx hb dX7_tries_96 hl (by decide) rfl (fun ls hl => ?_)
                          refine lv_iload hx hb dX7_tries_98 (lv_at hl 6 rfl) ?_
                          refine lv_iload_n hx hb dX7_tries_100 rfl (lv_at hl 4 rfl) ?_
                          refine lv_iconst (v := 1) hx hb dX7_tries_101 (by decide) ?_
                          obtain ⟨J110, eJ110, h⟩ := jnA_s h
                          have wJ110 : ∀ (t0_39 : Int32), J110 t0_39 = some (w_d, w_aside, w_names, w_pile, w_horn, w_brass, w_bestPass, w_bestLive, w_bestCode) → ∀ (H : Heap) (locs : List Loc), va_P D vwCl (pcX7 o cI v_d_33 v_kept v_images v_found v_aside_1 v_base v_at v_size v_fault v_opened v_isCold v_names_11 v_code v_coded v_pile_12 v_horn_34 v_brass_35 v_coldAhead v_which v_whichMany v_bestPass v_bestLive v_bestCode v_traced v_traceMany v_who v_bitsOf v_sizeOf v_number v_lifted) H → va_D A (pcX7 o cI v_d_33 v_kept v_images v_found v_aside_1 v_base v_at v_size v_fault v_opened v_isCold v_names_11 v_code v_coded v_pile_12 v_horn_34 v_brass_35 v_coldAhead v_which v_whichMany v_bestPass v_bestLive v_bestCode v_traced v_traceMany v_who v_bitsOf v_sizeOf v_number v_lifted) → va_S A s.heap H locs → ∀ ls : Array Slot, lv_has ls 8 [(0, .ref (o 0)), (1, .int p0), (2, .int p1), (3, .int l3_37), (4, .int l4_16), (5, .int l5_38), (7, .int l7_32)] → WV p l e 8 179 s m args below meth c D (tysX cI cS) A (pcX7 o cI w_d v_kept v_images v_found w_aside v_base v_at v_size v_fault v_opened v_isCold w_names v_code v_coded w_pile w_horn w_brass v_coldAhead v_which v_whichMany w_bestPass w_bestLive w_bestCode v_traced v_traceMany v_who v_bitsOf v_sizeOf v_number v_lifted) H locs (F0 m 110 ls [.int t0_39, .int l6_31]) := by
                              intro t0_39 h H locs hP hD hS ls hl
                              subst eJ110
                              dsimp only at h
                              refine x_idiv hx hb h dX7_tries_110 (fun h => ?_)
                              refine x_nm h (fun l6_40 el6_40 h => ?_)
                              refine lv_istore (lv' := [(6, .int l6_40), (0, .ref (o 0)), (1, .int p0), (2, .int p1), (3, .int l3_37), (4, .int l4_16), (5, .int l5_38), (7, .int l7_32)]) hx hb dX7_tries_111 hl (by decide) rfl (fun ls hl => ?_)
                              obtain ⟨l7_41, el7_41, h⟩ := nmA_s h
                              refine lv_iinc (v := l7_41) (lv' := [(7, .int l7_41), (6, .int l6_40), (0, .ref (o 0)), (1, .int p0), (2, .int p1), (3, .int l3_37), (4, .int l4_16), (5, .int l5_38)]) hx hb dX7_tries_113 hl (k := 7) rfl (by rw [el7_41]; exact congrArg _ (by decide)) (by decide) rfl (fun ls hl => ?_)
                              refine lv_goto (tgt := 48) hx hb dX7_tries_116 (by decide) ?_
                              exact ih v_d_33 v_horn_34 v_brass_35 l3_37 l5_38 l6_40 l7_41 h _ _ hP hD hS _ (lv_sub hl [2, 3, 4, 5, 6, 7, 1, 0] rfl)
                          refine x_icmp_le (tgt := 109) hx hb h dX7_tries_102 (by decide) (fun c102 h => ?_) (fun c102 h => ?_)
                          · refine lv_iconst (v := 1) hx hb dX7_tries_109 (by decide) ?_
                            exact wJ110 1 h _ _ hP hD hS _ (lv_sub hl [2, 3, 4, 1, 5, 0, 7] rfl)
                          · refine lv_iload_n hx hb dX7_tries_105 rfl (lv_at hl 4 rfl) ?_
                            refine lv_goto (tgt := 110) hx hb dX7_tries_106 (by decide) ?_
                            exact wJ110 p1 h _ _ hP hD hS _ (lv_sub hl [2, 3, 4, 1, 5, 0, 7] rfl)
                      obtain ⟨J88, eJ88, h⟩ := jnA_s h
                      have wJ88 : ∀ (v_d_42 : Nat → Int32) (v_horn_43 : Int32) (v_brass_44 : Int32), J88 v_d_42 v_horn_43 v_brass_44 = some (w_d, w_aside, w_names, w_pile, w_horn, w_brass, w_bestPass, w_bestLive, w_bestCode) → ∀ (H : Heap) (locs : List Loc), va_P D vwCl (pcX7 o cI v_d_42 v_kept v_images v_found v_aside_1 v_base v_at v_size v_fault v_opened v_isCold v_names_11 v_code v_coded v_pile_12 v_horn_43 v_brass_44 v_coldAhead v_which v_whichMany v_bestPass v_bestLive v_bestCode v_traced v_traceMany v_who v_bitsOf v_sizeOf v_number v_lifted) H → va_D A (pcX7 o cI v_d_42 v_kept v_images v_found v_aside_1 v_base v_at v_size v_fault v_opened v_isCold v_names_11 v_code v_coded v_pile_12 v_horn_43 v_brass_44 v_coldAhead v_which v_whichMany v_bestPass v_bestLive v_bestCode v_traced v_traceMany v_who v_bitsOf v_sizeOf v_number v_lifted) → va_S A s.heap H locs → ∀ ls : Array Slot, lv_has ls 8 [(0, .ref (o 0)), (1, .int p0), (2, .int p1), (4, .int l4_16), (5, .int l5_30), (6, .int l6_31), (7, .int l7_32)] → WV p l e 8 179 s m args below meth c D (tysX cI cS) A (pcX7 o cI w_d v_kept v_images v_found w_aside v_base v_at v_size v_fault v_opened v_isCold w_names v_code v_coded w_pile w_horn w_brass v_coldAhead v_which v_whichMany w_bestPass w_bestLive w_bestCode v_traced v_traceMany v_who v_bitsOf v_sizeOf v_number v_lifted) H locs (F0 m 88 ls [.int l3_29]) := by
                          intro v_d_42 v_horn_43 v_brass_44 h H locs hP hD hS ls hl
                          subst eJ88
                          dsimp only at h
                          refine lv_iconst (v := 0) hx hb dX7_tries_88 (by decide) ?_
                          exact wJ89 v_d_42 v_horn_43 v_brass_44 0 h _ _ hP hD hS _ (lv_sub hl [0, 1, 2, 3, 4, 5, 6] rfl)
                      refine x_icmp_ne (tgt := 88) hx hb h dX7_tries_67 (by decide) (fun c67 h => ?_) (fun c67 h => ?_)
                      · exact wJ88 v_d_26 v_horn_27 v_brass_28 h _ _ hP hD hS _ (lv_sub hl [0, 1, 2, 4, 5, 6, 7] rfl)
                      · refine lv_aload_n hx hb dX7_tries_70 rfl (lv_at hl 0 rfl) ?_
                        refine lv_aload_n hx hb dX7_tries_71 rfl (lv_at hl 0 rfl) ?_
                        refine gt_X7_34 S hK hP 0 rfl rfl dX7_tries_72 ?_
                        refine lv_iload hx hb dX7_tries_75 (lv_at hl 7 rfl) ?_
                        refine x_ald hx hb hK hP 9 h rfl rfl dX7_tries_77 (fun x_45 ex_45 h => ?_)
                        obtain ⟨v_d_46, v_horn_47, v_brass_48, r_49, hc78, h⟩ := bd4_s h
                        refine x_selfVi (As := [.int x_45]) (rest := [.int l3_29]) St0_ok S (c_X7_votes l D cI cS o hc78) yf_X7_votes wd24_9 ⟨Nat.le_of_ble_eq_true rfl, Nat.le_of_ble_eq_true rfl⟩ hK hSt hA hP hD hS 0 rfl rfl rfl hl.1 rfl (Nat.le_of_ble_eq_true rfl) dX7_tries_78 (Nat.zero_le _) (Nat.zero_le _) (fun H locs hP hD hS => ?_)
                        refine x_if_eq (tgt := 88) hx hb h dX7_tries_81 (by decide) (fun c81 h => ?_) (fun c81 h => ?_)
                        · exact wJ88 v_d_46 v_horn_47 v_brass_48 h _ _ hP hD hS _ (lv_sub hl [0, 1, 2, 4, 5, 6, 7] rfl)
                        · refine lv_iconst (v := 1) hx hb dX7_tries_84 (by decide) ?_
                          refine lv_goto (tgt := 89) hx hb dX7_tries_85 (by decide) ?_
                          exact wJ89 v_d_46 v_horn_47 v_brass_48 1 h _ _ hP hD hS _ (lv_sub hl [0, 1, 2, 4, 5, 6, 7] rfl)
              exact wf_X7_tries_L48 300 v_d_10 v_horn_13 v_brass_14 l3_15 p0 l6_17 0 h _ _ hP hD hS _ (lv_sub hl [1, 2, 3, 4, 5, 6, 7, 0] rfl)
          have wf_X7_tries_L24 : ∀ (k_n : Nat) (l6_50 : Int32) (l7_51 : Int32), f_X7_tries_L24 v_whichMany p1 J45 k_n l6_50 l7_51 = some (w_d, w_aside, w_names, w_pile, w_horn, w_brass, w_bestPass, w_bestLive, w_bestCode) → ∀ (H : Heap) (locs : List Loc), va_P D vwCl (pcX7 o cI v_d_10 v_kept v_images v_found v_aside_1 v_base v_at v_size v_fault v_opened v_isCold v_names_11 v_code v_coded v_pile_12 v_horn_13 v_brass_14 v_coldAhead v_which v_whichMany v_bestPass v_bestLive v_bestCode v_traced v_traceMany v_who v_bitsOf v_sizeOf v_number v_lifted) H → va_D A (pcX7 o cI v_d_10 v_kept v_images v_found v_aside_1 v_base v_at v_size v_fault v_opened v_isCold v_names_11 v_code v_coded v_pile_12 v_horn_13 v_brass_14 v_coldAhead v_which v_whichMany v_bestPass v_bestLive v_bestCode v_traced v_traceMany v_who v_bitsOf v_sizeOf v_number v_lifted) → va_S A s.heap H locs → ∀ ls : Array Slot, lv_has ls 8 [(0, .ref (o 0)), (1, .int p0), (2, .int p1), (3, .int l3_15), (4, .int l4_16), (5, .int p0), (6, .int l6_50), (7, .int l7_51)] → WV p l e 8 179 s m args below meth c D (tysX cI cS) A (pcX7 o cI w_d v_kept v_images v_found w_aside v_base v_at v_size v_fault v_opened v_isCold w_names v_code v_coded w_pile w_horn w_brass v_coldAhead v_which v_whichMany w_bestPass w_bestLive w_bestCode v_traced v_traceMany v_who v_bitsOf v_sizeOf v_number v_lifted) H locs (F0 m 24 ls []) := by
              intro k_n
              induction k_n with
              | zero => intro l6_50 l7_51 h; rw [f_X7_tries_L24] at h; cases h
              | succ k_n ih =>
                intro l6_50 l7_51 h H locs hP hD hS ls hl
                rw [f_X7_tries_L24] at h
                refine lv_iload hx hb dX7_tries_24 (lv_at hl 7 rfl) ?_
                refine lv_aload_n hx hb dX7_tries_26 rfl (lv_at hl 0 rfl) ?_
                refine gt_X7_253 S hK hP 0 rfl rfl dX7_tries_27 ?_
                refine x_icmp_ge (tgt := 45) hx hb h dX7_tries_30 (by decide) (fun c30 h => ?_) (fun c30 h => ?_)
                · exact wJ45 l6_50 h _ _ hP hD hS _ (lv_sub hl [0, 1, 2, 3, 4, 5, 6] rfl)
                · refine lv_iload hx hb dX7_tries_33 (lv_at hl 6 rfl) ?_
                  refine lv_iload_n hx hb dX7_tries_35 rfl (lv_at hl 2 rfl) ?_
                  refine lv_imul hx hb dX7_tries_36 ?_
                  refine x_nm h (fun l6_52 el6_52 h => ?_)
                  refine lv_istore (lv' := [(6, .int l6_52), (0, .ref (o 0)), (1, .int p0), (2, .int p1), (3, .int l3_15), (4, .int l4_16), (5, .int p0), (7, .int l7_51)]) hx hb dX7_tries_37 hl (by decide) rfl (fun ls hl => ?_)
                  obtain ⟨l7_53, el7_53, h⟩ := nmA_s h
                  refine lv_iinc (v := l7_53) (lv' := [(7, .int l7_53), (6, .int l6_52), (0, .ref (o 0)), (1, .int p0), (2, .int p1), (3, .int l3_15), (4, .int l4_16), (5, .int p0)]) hx hb dX7_tries_39 hl (k := 7) rfl (by rw [el7_53]; exact congrArg _ (by decide)) (by decide) rfl (fun ls hl => ?_)
                  refine lv_goto (tgt := 24) hx hb dX7_tries_42 (by decide) ?_
                  exact ih l6_52 l7_53 h _ _ hP hD hS _ (lv_sub hl [2, 3, 4, 5, 6, 7, 1, 0] rfl)
          exact wf_X7_tries_L24 300 1 1 h _ _ hP hD hS _ (lv_sub hl [3, 4, 5, 6, 7, 2, 1, 0] rfl)
  exact wf_X7_tries_L9 300 v_d v_names v_pile v_horn v_brass 0 0 h _ _ hP hD hS _ (lv_sub hl [2, 3, 4, 1, 0] rfl)

def f_X7_plan_L228 (p1 : Int32) (p2 : Int32) (J246 : Int32 → Option ((Nat → Int32) × (Nat → Int32) × (Nat → Int32) × (Nat → Int32) × (Nat → Int32) × (Int32) × (Int32) × (Nat → Int32) × (Int32) × (Int32) × (Int32) × (Int32) × (Int32))) : Nat → Int32 → Int32 → Option ((Nat → Int32) × (Nat → Int32) × (Nat → Int32) × (Nat → Int32) × (Nat → Int32) × (Int32) × (Int32) × (Nat → Int32) × (Int32) × (Int32) × (Int32) × (Int32) × (Int32))
  | 0, _, _ => none
  | k_n + 1, l7_21, l8_22 => (if p2 < l8_22 then J246 l7_21 else nzA p1 (nmA (l7_21 / p1) (fun l7_23 => nmA (l8_22 + 1) (fun l8_24 => f_X7_plan_L228 p1 p2 J246 k_n l7_23 l8_24))))
def f_X7_plan_L201 (p1 : Int32) (v_which_4 : Nat → Int32) (v_whichMany_5 : Int32) (l6_10 : Int32) (J221 : (Nat → Int32) → (Nat → Int32) → (Nat → Int32) → (Nat → Int32) → Int32 → Int32 → Int32 → Int32 → Int32 → Option ((Nat → Int32) × (Nat → Int32) × (Nat → Int32) × (Nat → Int32) × (Nat → Int32) × (Int32) × (Int32) × (Nat → Int32) × (Int32) × (Int32) × (Int32) × (Int32) × (Int32))) : Nat → (Nat → Int32) → (Nat → Int32) → (Nat → Int32) → (Nat → Int32) → Int32 → Int32 → Int32 → Int32 → Int32 → Int32 → Option ((Nat → Int32) × (Nat → Int32) × (Nat → Int32) × (Nat → Int32) × (Nat → Int32) × (Int32) × (Int32) × (Nat → Int32) × (Int32) × (Int32) × (Int32) × (Int32) × (Int32))
  | 0, _, _, _, _, _, _, _, _, _, _ => none
  | k_n + 1, v_d_25, v_aside_26, v_names_27, v_pile_28, v_horn_29, v_brass_30, v_bestPass_31, v_bestLive_32, v_bestCode_33, l7_34 => (if l6_10 ≤ l7_34 then J221 v_d_25 v_aside_26 v_names_27 v_pile_28 v_horn_29 v_brass_30 v_bestPass_31 v_bestLive_32 v_bestCode_33 else bd9 (f_X7_tries v_d_25 v_aside_26 v_names_27 v_pile_28 v_horn_29 v_brass_30 v_which_4 v_whichMany_5 v_bestPass_31 v_bestLive_32 v_bestCode_33 l7_34 p1) (fun v_d_35 v_aside_36 v_names_37 v_pile_38 v_horn_39 v_brass_40 v_bestPass_41 v_bestLive_42 v_bestCode_43 => nmA (l7_34 + 1) (fun l7_44 => f_X7_plan_L201 p1 v_which_4 v_whichMany_5 l6_10 J221 k_n v_d_35 v_aside_36 v_names_37 v_pile_38 v_horn_39 v_brass_40 v_bestPass_41 v_bestLive_42 v_bestCode_43 l7_44)))
def f_X7_plan_L172 (p1 : Int32) (v_whichMany_5 : Int32) (J193 : Int32 → Option ((Nat → Int32) × (Nat → Int32) × (Nat → Int32) × (Nat → Int32) × (Nat → Int32) × (Int32) × (Int32) × (Nat → Int32) × (Int32) × (Int32) × (Int32) × (Int32) × (Int32))) : Nat → Int32 → Int32 → Option ((Nat → Int32) × (Nat → Int32) × (Nat → Int32) × (Nat → Int32) × (Nat → Int32) × (Int32) × (Int32) × (Nat → Int32) × (Int32) × (Int32) × (Int32) × (Int32) × (Int32))
  | 0, _, _ => none
  | k_n + 1, l6_45, l7_46 => (if v_whichMany_5 ≤ l7_46 then J193 l6_45 else nmA (l6_45 * p1) (fun l6_47 => nmA (l7_46 + 1) (fun l7_48 => f_X7_plan_L172 p1 v_whichMany_5 J193 k_n l6_47 l7_48)))
def f_X7_plan_L63 (t0_2 : Int32) (J137 : (Nat → Int32) → Int32 → Int32 → Option ((Nat → Int32) × (Nat → Int32) × (Nat → Int32) × (Nat → Int32) × (Nat → Int32) × (Int32) × (Int32) × (Nat → Int32) × (Int32) × (Int32) × (Int32) × (Int32) × (Int32))) : Nat → (Nat → Int32) → Int32 → Int32 → Int32 → Option ((Nat → Int32) × (Nat → Int32) × (Nat → Int32) × (Nat → Int32) × (Nat → Int32) × (Int32) × (Int32) × (Nat → Int32) × (Int32) × (Int32) × (Int32) × (Int32) × (Int32))
  | 0, _, _, _, _ => none
  | k_n + 1, v_which_49, v_whichMany_50, l5_51, l6_52 => (if 6 ≤ l6_52 then J137 v_which_49 v_whichMany_50 l5_51 else (if l5_51 = 0 then J137 v_which_49 v_whichMany_50 l5_51 else jnA (fun (v_which_53 : Nat → Int32) (v_whichMany_54 : Int32) (l5_55 : Int32) => nmA (l6_52 + 1) (fun l6_56 => f_X7_plan_L63 t0_2 J137 k_n v_which_53 v_whichMany_54 l5_55 l6_56)) (fun J131 => (if ((t0_2 >>> (l6_52 &&& 31)) &&& 1) = 1 then jnA (fun (t0_57 : Int32) => jnA (fun (t0_58 : Int32) => wrA 3 v_which_49 t0_58 l6_52 (fun v_which_59 => nmA (v_whichMany_50 + 1) (fun v_whichMany_60 => J131 v_which_59 v_whichMany_60 t0_57))) (fun J118 => (if t0_57 = 0 then J118 0 else J118 v_whichMany_50))) (fun J99 => (if 3 ≤ v_whichMany_50 then J99 0 else J99 1)) else J131 v_which_49 v_whichMany_50 l5_51))))
def f_X7_plan  (v_d : Nat → Int32) (v_found : Nat → Int32) (v_aside : Nat → Int32) (v_names : Nat → Int32) (v_pile : Nat → Int32) (v_horn : Int32) (v_brass : Int32) (v_which : Nat → Int32) (v_whichMany : Int32) (v_bestPass : Int32) (v_bestLive : Int32) (v_bestCode : Int32) (p0 : Int32) (p1 : Int32) (p2 : Int32) : Option ((Nat → Int32) × (Nat → Int32) × (Nat → Int32) × (Nat → Int32) × (Nat → Int32) × (Int32) × (Int32) × (Nat → Int32) × (Int32) × (Int32) × (Int32) × (Int32) × (Int32)) :=
  bd1 (f_X7_in (p0.toInt64) 1 63) (fun r_1 => jnA (fun (t0_2 : Int32) => jnA (fun (t0_3 : Int32) => jnA (fun (v_which_4 : Nat → Int32) (v_whichMany_5 : Int32) (l5_6 : Int32) => jnA (bd2 (f_X7_finds v_found 1) (fun v_found_7 r_8 => some (v_d, v_found_7, v_aside, v_names, v_pile, v_horn, v_brass, v_which_4, v_whichMany_5, v_bestPass, v_bestLive, v_bestCode, r_8))) (fun J160 => (if l5_6 = 0 then J160 else bd1 (f_X7_in (p2.toInt64) (-2) ((v_whichMany_5 - 1).toInt64)) (fun r_9 => (if r_9 = 0 then J160 else jnA (fun (l6_10 : Int32) => jnA (fun (v_d_11 : Nat → Int32) (v_aside_12 : Nat → Int32) (v_names_13 : Nat → Int32) (v_pile_14 : Nat → Int32) (v_horn_15 : Int32) (v_brass_16 : Int32) (v_bestPass_17 : Int32) (v_bestLive_18 : Int32) (v_bestCode_19 : Int32) => jnA (fun (l7_20 : Int32) => (if p2 = (-1) then some (v_d_11, v_found, v_aside_12, v_names_13, v_pile_14, v_horn_15, v_brass_16, v_which_4, v_whichMany_5, v_bestPass_17, v_bestLive_18, v_bestCode_19, v_bestPass_17) else (if p2 = (-2) then some (v_d_11, v_found, v_aside_12, v_names_13, v_pile_14, v_horn_15, v_brass_16, v_which_4, v_whichMany_5, v_bestPass_17, v_bestLive_18, v_bestCode_19, v_bestLive_18) else nzA l7_20 (nzA p1 (some (v_d_11, v_found, v_aside_12, v_names_13, v_pile_14, v_horn_15, v_brass_16, v_which_4, v_whichMany_5, v_bestPass_17, v_bestLive_18, v_bestCode_19, (rmI (v_bestCode_19 / l7_20) p1))))))) (fun J246 => f_X7_plan_L228 p1 p2 J246 300 l6_10 0)) (fun J221 => f_X7_plan_L201 p1 v_which_4 v_whichMany_5 l6_10 J221 300 v_d v_aside v_names v_pile v_horn v_brass v_bestPass v_bestLive (-1) 0)) (fun J193 => f_X7_plan_L172 p1 v_whichMany_5 J193 300 1 0)))))) (fun J137 => f_X7_plan_L63 t0_2 J137 300 v_which 0 t0_3 0)) (fun J58 => jnA (J58 0) (fun J57 => (if t0_2 ≤ 0 then J57 else bd1 (f_X7_in (p1.toInt64) 1 5) (fun r_61 => (if r_61 = 0 then J57 else rdA 248 v_d 1 (fun x_62 => (if (t0_2 >>> (x_62 &&& 31)) = 0 then J58 1 else J57)))))))) (fun J22 => (if r_1 = 0 then J22 0 else J22 p0)))
set_option maxHeartbeats 600000 in
set_option maxRecDepth 100000 in
theorem c_X7_plan (l : Launch) (D : va_G) (cI cS : ClassId) (o : Nat → Nat) {v_d : Nat → Int32} {v_kept : Nat → Int32} {v_images : Int32} {v_found : Nat → Int32} {v_aside : Nat → Int32} {v_base : Int32} {v_at : Int32} {v_size : Int32} {v_fault : Int32} {v_opened : Int32} {v_isCold : Int32} {v_names : Nat → Int32} {v_code : Nat → Int32} {v_coded : Int32} {v_pile : Nat → Int32} {v_horn : Int32} {v_brass : Int32} {v_coldAhead : Nat → Int32} {v_which : Nat → Int32} {v_whichMany : Int32} {v_bestPass : Int32} {v_bestLive : Int32} {v_bestCode : Int32} {v_traced : Nat → Int32} {v_traceMany : Int32} {v_who : Int32} {v_bitsOf : Nat → Int32} {v_sizeOf : Nat → Int32} {v_number : Nat → Int32} {v_lifted : Nat → Int32} {p0 : Int32} {p1 : Int32} {p2 : Int32} {w_d : Nat → Int32} {w_found : Nat → Int32} {w_aside : Nat → Int32} {w_names : Nat → Int32} {w_pile : Nat → Int32} {w_horn : Int32} {w_brass : Int32} {w_which : Nat → Int32} {w_whichMany : Int32} {w_bestPass : Int32} {w_bestLive : Int32} {w_bestCode : Int32} {r_out : Int32} (h : f_X7_plan  v_d v_found v_aside v_names v_pile v_horn v_brass v_which v_whichMany v_bestPass v_bestLive v_bestCode p0 p1 p2 = some (w_d, w_found, w_aside, w_names, w_pile, w_horn, w_brass, w_which, w_whichMany, w_bestPass, w_bestLive, w_bestCode, r_out)) : MetI l D (tysX cI cS) St0 yX7_plan cX7_plan 9 (some .int) 9 206 [.ref (o 0), .int p0, .int p1, .int p2] (pcX7 o cI v_d v_kept v_images v_found v_aside v_base v_at v_size v_fault v_opened v_isCold v_names v_code v_coded v_pile v_horn v_brass v_coldAhead v_which v_whichMany v_bestPass v_bestLive v_bestCode v_traced v_traceMany v_who v_bitsOf v_sizeOf v_number v_lifted) r_out (pcX7 o cI w_d v_kept v_images w_found w_aside v_base v_at v_size v_fault v_opened v_isCold w_names v_code v_coded w_pile w_horn w_brass v_coldAhead w_which w_whichMany w_bestPass w_bestLive w_bestCode v_traced v_traceMany v_who v_bitsOf v_sizeOf v_number v_lifted) := by
  refine Ent.metI (by decide +kernel) (Nat.le_of_ble_eq_true rfl) ?_
  intro p e s m args below meth c A ls hx hb hr hml hown hts hlocks hA hK hSt hP hD hS hl
  have hown : s.vm.findClass RX7 = some m.cls := hown
  have S : XFix p m c cX7_plan 9 s args RX7 := ⟨hx, hb, hml, hown, hts⟩
  have hl : lv_has ls 9 [(0, .ref (o 0)), (1, .int p0), (2, .int p1), (3, .int p2)] := hl
  unfold f_X7_plan at h
  refine lv_aload_n hx hb dX7_plan_0 rfl (lv_at hl 0 rfl) ?_
  refine lv_iconst (v := 0) hx hb dX7_plan_1 (by decide) ?_
  refine pt_X7_253 S hK hP hD hS 0 rfl (Nat.le_of_ble_eq_true rfl) dX7_plan_2 (fun H locs hP hD hS => ?_)
  have hP : va_P D vwCl (pcX7 o cI v_d v_kept v_images v_found v_aside v_base v_at v_size v_fault v_opened v_isCold v_names v_code v_coded v_pile v_horn v_brass v_coldAhead v_which 0 v_bestPass v_bestLive v_bestCode v_traced v_traceMany v_who v_bitsOf v_sizeOf v_number v_lifted) H := hP
  have hD : va_D A (pcX7 o cI v_d v_kept v_images v_found v_aside v_base v_at v_size v_fault v_opened v_isCold v_names v_code v_coded v_pile v_horn v_brass v_coldAhead v_which 0 v_bestPass v_bestLive v_bestCode v_traced v_traceMany v_who v_bitsOf v_sizeOf v_number v_lifted) := hD
  refine lv_iload_n hx hb dX7_plan_5 rfl (lv_at hl 1 rfl) ?_
  refine lv_i2l (v := (p0.toInt64)) hx hb dX7_plan_6 rfl ?_
  refine lv_lconst (v := 1) hx hb dX7_plan_7 (by decide) ?_
  refine lv_ldc2 (v := 63) hx hb hown (hts _ wd31_13) dX7_plan_8 ?_
  obtain ⟨r_1, hc11, h⟩ := bd1_s h
  refine x_statI (As := [.long (p0.toInt64), .long 1, .long 63]) (rest := []) St0_ok S (c_X7_in l D cI cS o hc11) ys_X7_in wd6_7 ⟨Nat.le_of_ble_eq_true rfl, Nat.le_of_ble_eq_true rfl⟩ hK hSt hA hP hD hS rfl hl.1 rfl (Nat.le_of_ble_eq_true rfl) dX7_plan_11 (Nat.zero_le _) (Nat.zero_le _) (fun H locs hP hD hS => ?_)
  obtain ⟨J22, eJ22, h⟩ := jnA_s h
  have wJ22 : ∀ (t0_2 : Int32), J22 t0_2 = some (w_d, w_found, w_aside, w_names, w_pile, w_horn, w_brass, w_which, w_whichMany, w_bestPass, w_bestLive, w_bestCode, r_out) → ∀ (H : Heap) (locs : List Loc), va_P D vwCl (pcX7 o cI v_d v_kept v_images v_found v_aside v_base v_at v_size v_fault v_opened v_isCold v_names v_code v_coded v_pile v_horn v_brass v_coldAhead v_which 0 v_bestPass v_bestLive v_bestCode v_traced v_traceMany v_who v_bitsOf v_sizeOf v_number v_lifted) H → va_D A (pcX7 o cI v_d v_kept v_images v_found v_aside v_base v_at v_size v_fault v_opened v_isCold v_names v_code v_coded v_pile v_horn v_brass v_coldAhead v_which 0 v_bestPass v_bestLive v_bestCode v_traced v_traceMany v_who v_bitsOf v_sizeOf v_number v_lifted) → va_S A s.heap H locs → ∀ ls : Array Slot, lv_has ls 9 [(0, .ref (o 0)), (2, .int p1), (3, .int p2)] → WI p l e 9 206 s m args below meth c D (tysX cI cS) A r_out (pcX7 o cI w_d v_kept v_images w_found w_aside v_base v_at v_size v_fault v_opened v_isCold w_names v_code v_coded w_pile w_horn w_brass v_coldAhead w_which w_whichMany w_bestPass w_bestLive w_bestCode v_traced v_traceMany v_who v_bitsOf v_sizeOf v_number v_lifted) H locs (F0 m 22 ls [.int t0_2]) := by
      intro t0_2 h H locs hP hD hS ls hl
      subst eJ22
      dsimp only at h
      refine lv_istore (lv' := [(4, .int t0_2), (0, .ref (o 0)), (2, .int p1), (3, .int p2)]) hx hb dX7_plan_22 hl (by decide) rfl (fun ls hl => ?_)
      refine lv_iload hx hb dX7_plan_24 (lv_at hl 0 rfl) ?_
      obtain ⟨J58, eJ58, h⟩ := jnA_s h
      have wJ58 : ∀ (t0_3 : Int32), J58 t0_3 = some (w_d, w_found, w_aside, w_names, w_pile, w_horn, w_brass, w_which, w_whichMany, w_bestPass, w_bestLive, w_bestCode, r_out) → ∀ (H : Heap) (locs : List Loc), va_P D vwCl (pcX7 o cI v_d v_kept v_images v_found v_aside v_base v_at v_size v_fault v_opened v_isCold v_names v_code v_coded v_pile v_horn v_brass v_coldAhead v_which 0 v_bestPass v_bestLive v_bestCode v_traced v_traceMany v_who v_bitsOf v_sizeOf v_number v_lifted) H → va_D A (pcX7 o cI v_d v_kept v_images v_found v_aside v_base v_at v_size v_fault v_opened v_isCold v_names v_code v_coded v_pile v_horn v_brass v_coldAhead v_which 0 v_bestPass v_bestLive v_bestCode v_traced v_traceMany v_who v_bitsOf v_sizeOf v_number v_lifted) → va_S A s.heap H locs → ∀ ls : Array Slot, lv_has ls 9 [(0, .ref (o 0)), (2, .int p1), (3, .int p2), (4, .int t0_2)] → WI p l e 9 206 s m args below meth c D (tysX cI cS) A r_out (pcX7 o cI w_d v_kept v_images w_found w_aside v_base v_at v_size v_fault v_opened v_isCold w_names v_code v_coded w_pile w_horn w_brass v_coldAhead w_which w_whichMany w_bestPass w_bestLive w_bestCode v_traced v_traceMany v_who v_bitsOf v_sizeOf v_number v_lifted) H locs (F0 m 58 ls [.int t0_3]) := by
          intro t0_3 h H locs hP hD hS ls hl
          subst eJ58
          dsimp only at h
          refine lv_istore (lv' := [(5, .int t0_3), (0, .ref (o 0)), (2, .int p1), (3, .int p2), (4, .int t0_2)]) hx hb dX7_plan_58 hl (by decide) rfl (fun ls hl => ?_)
          refine lv_iconst (v := 0) hx hb dX7_plan_60 (by decide) ?_
          refine lv_istore (lv' := [(6, .int 0), (5, .int t0_3), (0, .ref (o 0)), (2, .int p1), (3, .int p2), (4, .int t0_2)]) hx hb dX7_plan_61 hl (by decide) rfl (fun ls hl => ?_)
          obtain ⟨J137, eJ137, h⟩ := jnA_s h
          have wJ137 : ∀ (v_which_4 : Nat → Int32) (v_whichMany_5 : Int32) (l5_6 : Int32), J137 v_which_4 v_whichMany_5 l5_6 = some (w_d, w_found, w_aside, w_names, w_pile, w_horn, w_brass, w_which, w_whichMany, w_bestPass, w_bestLive, w_bestCode, r_out) → ∀ (H : Heap) (locs : List Loc), va_P D vwCl (pcX7 o cI v_d v_kept v_images v_found v_aside v_base v_at v_size v_fault v_opened v_isCold v_names v_code v_coded v_pile v_horn v_brass v_coldAhead v_which_4 v_whichMany_5 v_bestPass v_bestLive v_bestCode v_traced v_traceMany v_who v_bitsOf v_sizeOf v_number v_lifted) H → va_D A (pcX7 o cI v_d v_kept v_images v_found v_aside v_base v_at v_size v_fault v_opened v_isCold v_names v_code v_coded v_pile v_horn v_brass v_coldAhead v_which_4 v_whichMany_5 v_bestPass v_bestLive v_bestCode v_traced v_traceMany v_who v_bitsOf v_sizeOf v_number v_lifted) → va_S A s.heap H locs → ∀ ls : Array Slot, lv_has ls 9 [(0, .ref (o 0)), (2, .int p1), (3, .int p2), (5, .int l5_6)] → WI p l e 9 206 s m args below meth c D (tysX cI cS) A r_out (pcX7 o cI w_d v_kept v_images w_found w_aside v_base v_at v_size v_fault v_opened v_isCold w_names v_code v_coded w_pile w_horn w_brass v_coldAhead w_which w_whichMany w_bestPass w_bestLive w_bestCode v_traced v_traceMany v_who v_bitsOf v_sizeOf v_number v_lifted) H locs (F0 m 137 ls []) := by
              intro v_which_4 v_whichMany_5 l5_6 h H locs hP hD hS ls hl
              subst eJ137
              dsimp only at h
              refine lv_iload hx hb dX7_plan_137 (lv_at hl 3 rfl) ?_
              obtain ⟨J160, eJ160, h⟩ := jnA_s h
              have wJ160 : J160  = some (w_d, w_found, w_aside, w_names, w_pile, w_horn, w_brass, w_which, w_whichMany, w_bestPass, w_bestLive, w_bestCode, r_out) → ∀ (H : Heap) (locs : List Loc), va_P D vwCl (pcX7 o cI v_d v_kept v_images v_found v_aside v_base v_at v_size v_fault v_opened v_isCold v_names v_code v_coded v_pile v_horn v_brass v_coldAhead v_which_4 v_whichMany_5 v_bestPass v_bestLive v_bestCode v_traced v_traceMany v_who v_bitsOf v_sizeOf v_number v_lifted) H → va_D A (pcX7 o cI v_d v_kept v_images v_found v_aside v_base v_at v_size v_fault v_opened v_isCold v_names v_code v_coded v_pile v_horn v_brass v_coldAhead v_which_4 v_whichMany_5 v_bestPass v_bestLive v_bestCode v_traced v_traceMany v_who v_bitsOf v_sizeOf v_number v_lifted) → va_S A s.heap H locs → ∀ ls : Array Slot, lv_has ls 9 [(0, .ref (o 0))] → WI p l e 9 206 s m args below meth c D (tysX cI cS) A r_out (pcX7 o cI w_d v_kept v_images w_found w_aside v_base v_at v_size v_fault v_opened v_isCold w_names v_code v_coded w_pile w_horn w_brass v_coldAhead w_which w_whichMany w_bestPass w_bestLive w_bestCode v_traced v_traceMany v_who v_bitsOf v_sizeOf v_number v_lifted) H locs (F0 m 160 ls []) := by
                  intro h H locs hP hD hS ls hl
                  subst eJ160
                  refine lv_aload_n hx hb dX7_plan_160 rfl (lv_at hl 0 rfl) ?_
                  refine lv_iconst (v := 1) hx hb dX7_plan_161 (by decide) ?_
                  obtain ⟨v_found_7, r_8, hc162, h⟩ := bd2_s h
                  refine x_selfVi (As := [.int 1]) (rest := []) St0_ok S (c_X7_finds l D cI cS o hc162) yf_X7_finds wd6_10 ⟨Nat.le_of_ble_eq_true rfl, Nat.le_of_ble_eq_true rfl⟩ hK hSt hA hP hD hS 0 rfl rfl rfl hl.1 rfl (Nat.le_of_ble_eq_true rfl) dX7_plan_162 (Nat.zero_le _) (Nat.zero_le _) (fun H locs hP hD hS => ?_)
                  cases h
                  exact x_iret hx hb hr hlocks hK hP hD hS rfl rfl dX7_plan_165
              refine x_if_eq (tgt := 160) hx hb h dX7_plan_139 (by decide) (fun c139 h => ?_) (fun c139 h => ?_)
              · exact wJ160 h _ _ hP hD hS _ (lv_sub hl [0] rfl)
              · refine lv_iload_n hx hb dX7_plan_142 rfl (lv_at hl 2 rfl) ?_
                refine lv_i2l (v := (p2.toInt64)) hx hb dX7_plan_143 rfl ?_
                refine lv_ldc2 (v := (-2)) hx hb hown (hts _ wd31_14) dX7_plan_144 ?_
                refine lv_aload_n hx hb dX7_plan_147 rfl (lv_at hl 0 rfl) ?_
                refine gt_X7_253 S hK hP 0 rfl rfl dX7_plan_148 ?_
                refine lv_iconst (v := 1) hx hb dX7_plan_151 (by decide) ?_
                refine lv_isub hx hb dX7_plan_152 ?_
                refine lv_i2l (v := ((v_whichMany_5 - 1).toInt64)) hx hb dX7_plan_153 rfl ?_
                obtain ⟨r_9, hc154, h⟩ := bd1_s h
                refine x_statI (As := [.long (p2.toInt64), .long (-2), .long ((v_whichMany_5 - 1).toInt64)]) (rest := []) St0_ok S (c_X7_in l D cI cS o hc154) ys_X7_in wd6_7 ⟨Nat.le_of_ble_eq_true rfl, Nat.le_of_ble_eq_true rfl⟩ hK hSt hA hP hD hS rfl hl.1 rfl (Nat.le_of_ble_eq_true rfl) dX7_plan_154 (Nat.zero_le _) (Nat.zero_le _) (fun H locs hP hD hS => ?_)
                refine x_if_ne (tgt := 166) hx hb h dX7_plan_157 (by decide) (fun c157 h => ?_) (fun c157 h => ?_)
                · refine lv_iconst (v := 1) hx hb dX7_plan_166 (by decide) ?_
                  refine lv_istore (lv' := [(6, .int 1), (0, .ref (o 0)), (2, .int p1), (3, .int p2), (5, .int l5_6)]) hx hb dX7_plan_167 hl (by decide) rfl (fun ls hl => ?_)
                  refine lv_iconst (v := 0) hx hb dX7_plan_169 (by decide) ?_
                  refine lv_istore (lv' := [(7, .int 0), (6, .int 1), (0, .ref (o 0)), (2, .int p1), (3, .int p2), (5, .int l5_6)]) hx hb dX7_plan_170 hl (by decide) rfl (fun ls hl => ?_)
                  obtain ⟨J193, eJ193, h⟩ := jnA_s h
                  have wJ193 : ∀ (l6_10 : Int32), J193 l6_10 = some (w_d, w_found, w_aside, w_names, w_pile, w_horn, w_brass, w_which, w_whichMany, w_bestPass, w_bestLive, w_bestCode, r_out) → ∀ (H : Heap) (locs : List Loc), va_P D vwCl (pcX7 o cI v_d v_kept v_images v_found v_aside v_base v_at v_size v_fault v_opened v_isCold v_names v_code v_coded v_pile v_horn v_brass v_coldAhead v_which_4 v_whichMany_5 v_bestPass v_bestLive v_bestCode v_traced v_traceMany v_who v_bitsOf v_sizeOf v_number v_lifted) H → va_D A (pcX7 o cI v_d v_kept v_images v_found v_aside v_base v_at v_size v_fault v_opened v_isCold v_names v_code v_coded v_pile v_horn v_brass v_coldAhead v_which_4 v_whichMany_5 v_bestPass v_bestLive v_bestCode v_traced v_traceMany v_who v_bitsOf v_sizeOf v_number v_lifted) → va_S A s.heap H locs → ∀ ls : Array Slot, lv_has ls 9 [(0, .ref (o 0)), (2, .int p1), (3, .int p2), (6, .int l6_10)] → WI p l e 9 206 s m args below meth c D (tysX cI cS) A r_out (pcX7 o cI w_d v_kept v_images w_found w_aside v_base v_at v_size v_fault v_opened v_isCold w_names v_code v_coded w_pile w_horn w_brass v_coldAhead w_which w_whichMany w_bestPass w_bestLive w_bestCode v_traced v_traceMany v_who v_bitsOf v_sizeOf v_number v_lifted) H locs (F0 m 193 ls []) := by
                      intro l6_10 h H locs hP hD hS ls hl
                      subst eJ193
                      dsimp only at h
                      refine lv_aload_n hx hb dX7_plan_193 rfl (lv_at hl 0 rfl) ?_
                      refine lv_iconst (v := (-1)) hx hb dX7_plan_194 (by decide) ?_
                      refine pt_X7_256 S hK hP hD hS 0 rfl (Nat.le_of_ble_eq_true rfl) dX7_plan_195 (fun H locs hP hD hS => ?_)
                      have hP : va_P D vwCl (pcX7 o cI v_d v_kept v_images v_found v_aside v_base v_at v_size v_fault v_opened v_isCold v_names v_code v_coded v_pile v_horn v_brass v_coldAhead v_which_4 v_whichMany_5 v_bestPass v_bestLive (-1) v_traced v_traceMany v_who v_bitsOf v_sizeOf v_number v_lifted) H := hP
                      have hD : va_D A (pcX7 o cI v_d v_kept v_images v_found v_aside v_base v_at v_size v_fault v_opened v_isCold v_names v_code v_coded v_pile v_horn v_brass v_coldAhead v_which_4 v_whichMany_5 v_bestPass v_bestLive (-1) v_traced v_traceMany v_who v_bitsOf v_sizeOf v_number v_lifted) := hD
                      refine lv_iconst (v := 0) hx hb dX7_plan_198 (by decide) ?_
                      refine lv_istore (lv' := [(7, .int 0), (0, .ref (o 0)), (2, .int p1), (3, .int p2), (6, .int l6_10)]) hx hb dX7_plan_199 hl (by decide) rfl (fun ls hl => ?_)
                      obtain ⟨J221, eJ221, h⟩ := jnA_s h
                      have wJ221 : ∀ (v_d_11 : Nat → Int32) (v_aside_12 : Nat → Int32) (v_names_13 : Nat → Int32) (v_pile_14 : Nat → Int32) (v_horn_15 : Int32) (v_brass_16 : Int32) (v_bestPass_17 : Int32) (v_bestLive_18 : Int32) (v_bestCode_19 : Int32), J221 v_d_11 v_aside_12 v_names_13 v_pile_14 v_horn_15 v_brass_16 v_bestPass_17 v_bestLive_18 v_bestCode_19 = some (w_d, w_found, w_aside, w_names, w_pile, w_horn, w_brass, w_which, w_whichMany, w_bestPass, w_bestLive, w_bestCode, r_out) → ∀ (H : Heap) (locs : List Loc), va_P D vwCl (pcX7 o cI v_d_11 v_kept v_images v_found v_aside_12 v_base v_at v_size v_fault v_opened v_isCold v_names_13 v_code v_coded v_pile_14 v_horn_15 v_brass_16 v_coldAhead v_which_4 v_whichMany_5 v_bestPass_17 v_bestLive_18 v_bestCode_19 v_traced v_traceMany v_who v_bitsOf v_sizeOf v_number v_lifted) H → va_D A (pcX7 o cI v_d_11 v_kept v_images v_found v_aside_12 v_base v_at v_size v_fault v_opened v_isCold v_names_13 v_code v_coded v_pile_14 v_horn_15 v_brass_16 v_coldAhead v_which_4 v_whichMany_5 v_bestPass_17 v_bestLive_18 v_bestCode_19 v_traced v_traceMany v_who v_bitsOf v_sizeOf v_number v_lifted) → va_S A s.heap H locs → ∀ ls : Array Slot, lv_has ls 9 [(0, .ref (o 0)), (2, .int p1), (3, .int p2), (6, .int l6_10)] → WI p l e 9 206 s m args below meth c D (tysX cI cS) A r_out (pcX7 o cI w_d v_kept v_images w_found w_aside v_base v_at v_size v_fault v_opened v_isCold w_names v_code v_coded w_pile w_horn w_brass v_coldAhead w_which w_whichMany w_bestPass w_bestLive w_bestCode v_traced v_traceMany v_who v_bitsOf v_sizeOf v_number v_lifted) H locs (F0 m 221 ls []) := by
                          intro v_d_11 v_aside_12 v_names_13 v_pile_14 v_horn_15 v_brass_16 v_bestPass_17 v_bestLive_18 v_bestCode_19 h H locs hP hD hS ls hl
                          subst eJ221
                          dsimp only at h
                          refine lv_iload hx hb dX7_plan_221 (lv_at hl 3 rfl) ?_
                          refine lv_istore (lv' := [(7, .int l6_10), (0, .ref (o 0)), (2, .int p1), (3, .int p2), (6, .int l6_10)]) hx hb dX7_plan_223 hl (by decide) rfl (fun ls hl => ?_)
                          refine lv_iconst (v := 0) hx hb dX7_plan_225 (by decide) ?_
                          refine lv_istore (lv' := [(8, .int 0), (7, .int l6_10), (0, .ref (o 0)), (2, .int p1), (3, .int p2), (6, .int l6_10)]) hx hb dX7_plan_226 hl (by decide) rfl (fun ls hl => ?_)
                          obtain ⟨J246, eJ246, h⟩ := jnA_s h
                          have wJ246 : ∀ (l7_20 : Int32), J246 l7_20 = some (w_d, w_found, w_aside, w_names, w_pile, w_horn, w_brass, w_which, w_whichMany, w_bestPass, w_bestLive, w_bestCode, r_out) → ∀ (H : Heap) (locs : List Loc), va_P D vwCl (pcX7 o cI v_d_11 v_kept v_images v_found v_aside_12 v_base v_at v_size v_fault v_opened v_isCold v_names_13 v_code v_coded v_pile_14 v_horn_15 v_brass_16 v_coldAhead v_which_4 v_whichMany_5 v_bestPass_17 v_bestLive_18 v_bestCode_19 v_traced v_traceMany v_who v_bitsOf v_sizeOf v_number v_lifted) H → va_D A (pcX7 o cI v_d_11 v_kept v_images v_found v_aside_12 v_base v_at v_size v_fault v_opened v_isCold v_names_13 v_code v_coded v_pile_14 v_horn_15 v_brass_16 v_coldAhead v_which_4 v_whichMany_5 v_bestPass_17 v_bestLive_18 v_bestCode_19 v_traced v_traceMany v_who v_bitsOf v_sizeOf v_number v_lifted) → va_S A s.heap H locs → ∀ ls : Array Slot, lv_has ls 9 [(0, .ref (o 0)), (2, .int p1), (3, .int p2), (7, .int l7_20)] → WI p l e 9 206 s m args below meth c D (tysX cI cS) A r_out (pcX7 o cI w_d v_kept v_images w_found w_aside v_base v_at v_size v_fault v_opened v_isCold w_names v_code v_coded w_pile w_horn w_brass v_coldAhead w_which w_whichMany w_bestPass w_bestLive w_bestCode v_traced v_traceMany v_who v_bitsOf v_sizeOf v_number v_lifted) H locs (F0 m 246 ls []) := by
                              intro l7_20 h H locs hP hD hS ls hl
                              subst eJ246
                              dsimp only at h
                              refine lv_iload_n hx hb dX7_plan_246 rfl (lv_at hl 2 rfl) ?_
                              refine lv_iconst (v := (-1)) hx hb dX7_plan_247 (by decide) ?_
                              refine x_icmp_ne (tgt := 258) hx hb h dX7_plan_248 (by decide) (fun c248 h => ?_) (fun c248 h => ?_)
                              · refine lv_iload_n hx hb dX7_plan_258 rfl (lv_at hl 2 rfl) ?_
                                refine lv_bipush (v := (-2)) hx hb dX7_plan_259 (by decide) ?_
                                refine x_icmp_ne (tgt := 271) hx hb h dX7_plan_261 (by decide) (fun c261 h => ?_) (fun c261 h => ?_)
                                · refine lv_aload_n hx hb dX7_plan_271 rfl (lv_at hl 0 rfl) ?_
                                  refine gt_X7_256 S hK hP 0 rfl rfl dX7_plan_272 ?_
                                  refine lv_iload hx hb dX7_plan_275 (lv_at hl 3 rfl) ?_
                                  refine x_idiv hx hb h dX7_plan_277 (fun h => ?_)
                                  refine lv_iload_n hx hb dX7_plan_278 rfl (lv_at hl 1 rfl) ?_
                                  refine x_irem hx hb h dX7_plan_279 (fun h => ?_)
                                  cases h
                                  exact x_iret hx hb hr hlocks hK hP hD hS rfl rfl dX7_plan_280
                                · refine lv_aload_n hx hb dX7_plan_264 rfl (lv_at hl 0 rfl) ?_
                                  refine gt_X7_262 S hK hP 0 rfl rfl dX7_plan_265 ?_
                                  refine lv_goto (tgt := 280) hx hb dX7_plan_268 (by decide) ?_
                                  cases h
                                  exact x_iret hx hb hr hlocks hK hP hD hS rfl rfl dX7_plan_280
                              · refine lv_aload_n hx hb dX7_plan_251 rfl (lv_at hl 0 rfl) ?_
                                refine gt_X7_259 S hK hP 0 rfl rfl dX7_plan_252 ?_
                                refine lv_goto (tgt := 280) hx hb dX7_plan_255 (by decide) ?_
                                cases h
                                exact x_iret hx hb hr hlocks hK hP hD hS rfl rfl dX7_plan_280
                          have wf_X7_plan_L228 : ∀ (k_n : Nat) (l7_21 : Int32) (l8_22 : Int32), f_X7_plan_L228 p1 p2 J246 k_n l7_21 l8_22 = some (w_d, w_found, w_aside, w_names, w_pile, w_horn, w_brass, w_which, w_whichMany, w_bestPass, w_bestLive, w_bestCode, r_out) → ∀ (H : Heap) (locs : List Loc), va_P D vwCl (pcX7 o cI v_d_11 v_kept v_images v_found v_aside_12 v_base v_at v_size v_fault v_opened v_isCold v_names_13 v_code v_coded v_pile_14 v_horn_15 v_brass_16 v_coldAhead v_which_4 v_whichMany_5 v_bestPass_17 v_bestLive_18 v_bestCode_19 v_traced v_traceMany v_who v_bitsOf v_sizeOf v_number v_lifted) H → va_D A (pcX7 o cI v_d_11 v_kept v_images v_found v_aside_12 v_base v_at v_size v_fault v_opened v_isCold v_names_13 v_code v_coded v_pile_14 v_horn_15 v_brass_16 v_coldAhead v_which_4 v_whichMany_5 v_bestPass_17 v_bestLive_18 v_bestCode_19 v_traced v_traceMany v_who v_bitsOf v_sizeOf v_number v_lifted) → va_S A s.heap H locs → ∀ ls : Array Slot, lv_has ls 9 [(0, .ref (o 0)), (2, .int p1), (3, .int p2), (7, .int l7_21), (8, .int l8_22)] → WI p l e 9 206 s m args below meth c D (tysX cI cS) A r_out (pcX7 o cI w_d v_kept v_images w_found w_aside v_base v_at v_size v_fault v_opened v_isCold w_names v_code v_coded w_pile w_horn w_brass v_coldAhead w_which w_whichMany w_bestPass w_bestLive w_bestCode v_traced v_traceMany v_who v_bitsOf v_sizeOf v_number v_lifted) H locs (F0 m 228 ls []) := by
                              intro k_n
                              induction k_n with
                              | zero => intro l7_21 l8_22 h; rw [f_X7_plan_L228] at h; cases h
                              | succ k_n ih =>
                                intro l7_21 l8_22 h H locs hP hD hS ls hl
                                rw [f_X7_plan_L228] at h
                                refine lv_iload hx hb dX7_plan_228 (lv_at hl 4 rfl) ?_
                                refine lv_iload_n hx hb dX7_plan_230 rfl (lv_at hl 2 rfl) ?_
                                refine x_icmp_gt (tgt := 246) hx hb h dX7_plan_231 (by decide) (fun c231 h => ?_) (fun c231 h => ?_)
                                · exact wJ246 l7_21 h _ _ hP hD hS _ (lv_sub hl [0, 1, 2, 3] rfl)
                                · refine lv_iload hx hb dX7_plan_234 (lv_at hl 3 rfl) ?_
                                  refine lv_iload_n hx hb dX7_plan_236 rfl (lv_at hl 1 rfl) ?_
                                  refine x_idiv hx hb h dX7_plan_237 (fun h => ?_)
                                  refine x_nm h (fun l7_23 el7_23 h => ?_)
                                  refine lv_istore (lv' := [(7, .int l7_23), (0, .ref (o 0)), (2, .int p1), (3, .int p2), (8, .int l8_22)]) hx hb dX7_plan_238 hl (by decide) rfl (fun ls hl => ?_)
                                  obtain ⟨l8_24, el8_24, h⟩ := nmA_s h
                                  refine lv_iinc (v := l8_24) (lv' := [(8, .int l8_24), (7, .int l7_23), (0, .ref (o 0)), (2, .int p1), (3, .int p2)]) hx hb dX7_plan_240 hl (k := 4) rfl (by rw [el8_24]; exact congrArg _ (by decide)) (by decide) rfl (fun ls hl => ?_)
                                  refine lv_goto (tgt := 228) hx hb dX7_plan_243 (by decide) ?_
                                  exact ih l7_23 l8_24 h _ _ hP hD hS _ (lv_sub hl [2, 3, 4, 1, 0] rfl)
                          exact wf_X7_plan_L228 300 l6_10 0 h _ _ hP hD hS _ (lv_sub hl [2, 3, 4, 1, 0] rfl)
                      have wf_X7_plan_L201 : ∀ (k_n : Nat) (v_d_25 : Nat → Int32) (v_aside_26 : Nat → Int32) (v_names_27 : Nat → Int32) (v_pile_28 : Nat → Int32) (v_horn_29 : Int32) (v_brass_30 : Int32) (v_bestPass_31 : Int32) (v_bestLive_32 : Int32) (v_bestCode_33 : Int32) (l7_34 : Int32), f_X7_plan_L201 p1 v_which_4 v_whichMany_5 l6_10 J221 k_n v_d_25 v_aside_26 v_names_27 v_pile_28 v_horn_29 v_brass_30 v_bestPass_31 v_bestLive_32 v_bestCode_33 l7_34 = some (w_d, w_found, w_aside, w_names, w_pile, w_horn, w_brass, w_which, w_whichMany, w_bestPass, w_bestLive, w_bestCode, r_out) → ∀ (H : Heap) (locs : List Loc), va_P D vwCl (pcX7 o cI v_d_25 v_kept v_images v_found v_aside_26 v_base v_at v_size v_fault v_opened v_isCold v_names_27 v_code v_coded v_pile_28 v_horn_29 v_brass_30 v_coldAhead v_which_4 v_whichMany_5 v_bestPass_31 v_bestLive_32 v_bestCode_33 v_traced v_traceMany v_who v_bitsOf v_sizeOf v_number v_lifted) H → va_D A (pcX7 o cI v_d_25 v_kept v_images v_found v_aside_26 v_base v_at v_size v_fault v_opened v_isCold v_names_27 v_code v_coded v_pile_28 v_horn_29 v_brass_30 v_coldAhead v_which_4 v_whichMany_5 v_bestPass_31 v_bestLive_32 v_bestCode_33 v_traced v_traceMany v_who v_bitsOf v_sizeOf v_number v_lifted) → va_S A s.heap H locs → ∀ ls : Array Slot, lv_has ls 9 [(0, .ref (o 0)), (2, .int p1), (3, .int p2), (6, .int l6_10), (7, .int l7_34)] → WI p l e 9 206 s m args below meth c D (tysX cI cS) A r_out (pcX7 o cI w_d v_kept v_images w_found w_aside v_base v_at v_size v_fault v_opened v_isCold w_names v_code v_coded w_pile w_horn w_brass v_coldAhead w_which w_whichMany w_bestPass w_bestLive w_bestCode v_traced v_traceMany v_who v_bitsOf v_sizeOf v_number v_lifted) H locs (F0 m 201 ls []) := by
                          intro k_n
                          induction k_n with
                          | zero => intro v_d_25 v_aside_26 v_names_27 v_pile_28 v_horn_29 v_brass_30 v_bestPass_31 v_bestLive_32 v_bestCode_33 l7_34 h; rw [f_X7_plan_L201] at h; cases h
                          | succ k_n ih =>
                            intro v_d_25 v_aside_26 v_names_27 v_pile_28 v_horn_29 v_brass_30 v_bestPass_31 v_bestLive_32 v_bestCode_33 l7_34 h H locs hP hD hS ls hl
                            rw [f_X7_plan_L201] at h
                            refine lv_iload hx hb dX7_plan_201 (lv_at hl 4 rfl) ?_
                            refine lv_iload hx hb dX7_plan_203 (lv_at hl 3 rfl) ?_
                            refine x_icmp_ge (tgt := 221) hx hb h dX7_plan_205 (by decide) (fun c205 h => ?_) (fun c205 h => ?_)
                            · exact wJ221 v_d_25 v_aside_26 v_names_27 v_pile_28 v_horn_29 v_brass_30 v_bestPass_31 v_bestLive_32 v_bestCode_33 h _ _ hP hD hS _ (lv_sub hl [0, 1, 2, 3] rfl)
                            · refine lv_aload_n hx hb dX7_plan_208 rfl (lv_at hl 0 rfl) ?_
                              refine lv_iload hx hb dX7_plan_209 (lv_at hl 4 rfl) ?_
                              refine lv_iload_n hx hb dX7_plan_211 rfl (lv_at hl 1 rfl) ?_
                              obtain ⟨v_d_35, v_aside_36, v_names_37, v_pile_38, v_horn_39, v_brass_40, v_bestPass_41, v_bestLive_42, v_bestCode_43, hc212, h⟩ := bd9_s h
                              refine x_selfVv (As := [.int l7_34, .int p1]) (rest := []) St0_ok S (c_X7_tries l D cI cS o hc212) yf_X7_tries wd31_18 ⟨Nat.le_of_ble_eq_true rfl, Nat.le_of_ble_eq_true rfl⟩ hK hSt hA hP hD hS 0 rfl rfl rfl hl.1 rfl (Nat.le_of_ble_eq_true rfl) dX7_plan_212 (Nat.zero_le _) (Nat.zero_le _) (fun H locs hP hD hS => ?_)
                              obtain ⟨l7_44, el7_44, h⟩ := nmA_s h
                              refine lv_iinc (v := l7_44) (lv' := [(7, .int l7_44), (0, .ref (o 0)), (2, .int p1), (3, .int p2), (6, .int l6_10)]) hx hb dX7_plan_215 hl (k := 4) rfl (by rw [el7_44]; exact congrArg _ (by decide)) (by decide) rfl (fun ls hl => ?_)
                              refine lv_goto (tgt := 201) hx hb dX7_plan_218 (by decide) ?_
                              exact ih v_d_35 v_aside_36 v_names_37 v_pile_38 v_horn_39 v_brass_40 v_bestPass_41 v_bestLive_42 v_bestCode_43 l7_44 h _ _ hP hD hS _ (lv_sub hl [1, 2, 3, 4, 0] rfl)
                      exact wf_X7_plan_L201 300 v_d v_aside v_names v_pile v_horn v_brass v_bestPass v_bestLive (-1) 0 h _ _ hP hD hS _ (lv_sub hl [1, 2, 3, 4, 0] rfl)
                  have wf_X7_plan_L172 : ∀ (k_n : Nat) (l6_45 : Int32) (l7_46 : Int32), f_X7_plan_L172 p1 v_whichMany_5 J193 k_n l6_45 l7_46 = some (w_d, w_found, w_aside, w_names, w_pile, w_horn, w_brass, w_which, w_whichMany, w_bestPass, w_bestLive, w_bestCode, r_out) → ∀ (H : Heap) (locs : List Loc), va_P D vwCl (pcX7 o cI v_d v_kept v_images v_found v_aside v_base v_at v_size v_fault v_opened v_isCold v_names v_code v_coded v_pile v_horn v_brass v_coldAhead v_which_4 v_whichMany_5 v_bestPass v_bestLive v_bestCode v_traced v_traceMany v_who v_bitsOf v_sizeOf v_number v_lifted) H → va_D A (pcX7 o cI v_d v_kept v_images v_found v_aside v_base v_at v_size v_fault v_opened v_isCold v_names v_code v_coded v_pile v_horn v_brass v_coldAhead v_which_4 v_whichMany_5 v_bestPass v_bestLive v_bestCode v_traced v_traceMany v_who v_bitsOf v_sizeOf v_number v_lifted) → va_S A s.heap H locs → ∀ ls : Array Slot, lv_has ls 9 [(0, .ref (o 0)), (2, .int p1), (3, .int p2), (6, .int l6_45), (7, .int l7_46)] → WI p l e 9 206 s m args below meth c D (tysX cI cS) A r_out (pcX7 o cI w_d v_kept v_images w_found w_aside v_base v_at v_size v_fault v_opened v_isCold w_names v_code v_coded w_pile w_horn w_brass v_coldAhead w_which w_whichMany w_bestPass w_bestLive w_bestCode v_traced v_traceMany v_who v_bitsOf v_sizeOf v_number v_lifted) H locs (F0 m 172 ls []) := by
                      intro k_n
                      induction k_n with
                      | zero => intro l6_45 l7_46 h; rw [f_X7_plan_L172] at h; cases h
                      | succ k_n ih =>
                        intro l6_45 l7_46 h H locs hP hD hS ls hl
                        rw [f_X7_plan_L172] at h
                        refine lv_iload hx hb dX7_plan_172 (lv_at hl 4 rfl) ?_
                        refine lv_aload_n hx hb dX7_plan_174 rfl (lv_at hl 0 rfl) ?_
                        refine gt_X7_253 S hK hP 0 rfl rfl dX7_plan_175 ?_
                        refine x_icmp_ge (tgt := 193) hx hb h dX7_plan_178 (by decide) (fun c178 h => ?_) (fun c178 h => ?_)
                        · exact wJ193 l6_45 h _ _ hP hD hS _ (lv_sub hl [0, 1, 2, 3] rfl)
                        · refine lv_iload hx hb dX7_plan_181 (lv_at hl 3 rfl) ?_
                          refine lv_iload_n hx hb dX7_plan_183 rfl (lv_at hl 1 rfl) ?_
                          refine lv_imul hx hb dX7_plan_184 ?_
                          refine x_nm h (fun l6_47 el6_47 h => ?_)
                          refine lv_istore (lv' := [(6, .int l6_47), (0, .ref (o 0)), (2, .int p1), (3, .int p2), (7, .int l7_46)]) hx hb dX7_plan_185 hl (by decide) rfl (fun ls hl => ?_)
                          obtain ⟨l7_48, el7_48, h⟩ := nmA_s h
                          refine lv_iinc (v := l7_48) (lv' := [(7, .int l7_48), (6, .int l6_47), (0, .ref (o 0)), (2, .int p1), (3, .int p2)]) hx hb dX7_plan_187 hl (k := 4) rfl (by rw [el7_48]; exact congrArg _ (by decide)) (by decide) rfl (fun ls hl => ?_)
                          refine lv_goto (tgt := 172) hx hb dX7_plan_190 (by decide) ?_
                          exact ih l6_47 l7_48 h _ _ hP hD hS _ (lv_sub hl [2, 3, 4, 1, 0] rfl)
                  exact wf_X7_plan_L172 300 1 0 h _ _ hP hD hS _ (lv_sub hl [2, 3, 4, 1, 0] rfl)
                · exact wJ160 h _ _ hP hD hS _ (lv_sub hl [0] rfl)
          have wf_X7_plan_L63 : ∀ (k_n : Nat) (v_which_49 : Nat → Int32) (v_whichMany_50 : Int32) (l5_51 : Int32) (l6_52 : Int32), f_X7_plan_L63 t0_2 J137 k_n v_which_49 v_whichMany_50 l5_51 l6_52 = some (w_d, w_found, w_aside, w_names, w_pile, w_horn, w_brass, w_which, w_whichMany, w_bestPass, w_bestLive, w_bestCode, r_out) → ∀ (H : Heap) (locs : List Loc), va_P D vwCl (pcX7 o cI v_d v_kept v_images v_found v_aside v_base v_at v_size v_fault v_opened v_isCold v_names v_code v_coded v_pile v_horn v_brass v_coldAhead v_which_49 v_whichMany_50 v_bestPass v_bestLive v_bestCode v_traced v_traceMany v_who v_bitsOf v_sizeOf v_number v_lifted) H → va_D A (pcX7 o cI v_d v_kept v_images v_found v_aside v_base v_at v_size v_fault v_opened v_isCold v_names v_code v_coded v_pile v_horn v_brass v_coldAhead v_which_49 v_whichMany_50 v_bestPass v_bestLive v_bestCode v_traced v_traceMany v_who v_bitsOf v_sizeOf v_number v_lifted) → va_S A s.heap H locs → ∀ ls : Array Slot, lv_has ls 9 [(0, .ref (o 0)), (2, .int p1), (3, .int p2), (4, .int t0_2), (5, .int l5_51), (6, .int l6_52)] → WI p l e 9 206 s m args below meth c D (tysX cI cS) A r_out (pcX7 o cI w_d v_kept v_images w_found w_aside v_base v_at v_size v_fault v_opened v_isCold w_names v_code v_coded w_pile w_horn w_brass v_coldAhead w_which w_whichMany w_bestPass w_bestLive w_bestCode v_traced v_traceMany v_who v_bitsOf v_sizeOf v_number v_lifted) H locs (F0 m 63 ls []) := by
              intro k_n
              induction k_n with
              | zero => intro v_which_49 v_whichMany_50 l5_51 l6_52 h; rw [f_X7_plan_L63] at h; cases h
              | succ k_n ih =>
                intro v_which_49 v_whichMany_50 l5_51 l6_52 h H locs hP hD hS ls hl
                rw [f_X7_plan_L63] at h
                refine lv_iload hx hb dX7_plan_63 (lv_at hl 5 rfl) ?_
                refine lv_bipush (v := 6) hx hb dX7_plan_65 (by decide) ?_
                refine x_icmp_ge (tgt := 137) hx hb h dX7_plan_67 (by decide) (fun c67 h => ?_) (fun c67 h => ?_)
                · exact wJ137 v_which_49 v_whichMany_50 l5_51 h _ _ hP hD hS _ (lv_sub hl [0, 1, 2, 4] rfl)
                · refine lv_iload hx hb dX7_plan_70 (lv_at hl 4 rfl) ?_
                  refine x_if_eq (tgt := 137) hx hb h dX7_plan_72 (by decide) (fun c72 h => ?_) (fun c72 h => ?_)
                  · exact wJ137 v_which_49 v_whichMany_50 l5_51 h _ _ hP hD hS _ (lv_sub hl [0, 1, 2, 4] rfl)
                  · refine lv_iload hx hb dX7_plan_75 (lv_at hl 3 rfl) ?_
                    refine lv_iload hx hb dX7_plan_77 (lv_at hl 5 rfl) ?_
                    refine lv_ishr hx hb dX7_plan_79 ?_
                    refine lv_iconst (v := 1) hx hb dX7_plan_80 (by decide) ?_
                    refine lv_iand hx hb dX7_plan_81 ?_
                    refine lv_iconst (v := 1) hx hb dX7_plan_82 (by decide) ?_
                    obtain ⟨J131, eJ131, h⟩ := jnA_s h
                    have wJ131 : ∀ (v_which_53 : Nat → Int32) (v_whichMany_54 : Int32) (l5_55 : Int32), J131 v_which_53 v_whichMany_54 l5_55 = some (w_d, w_found, w_aside, w_names, w_pile, w_horn, w_brass, w_which, w_whichMany, w_bestPass, w_bestLive, w_bestCode, r_out) → ∀ (H : Heap) (locs : List Loc), va_P D vwCl (pcX7 o cI v_d v_kept v_images v_found v_aside v_base v_at v_size v_fault v_opened v_isCold v_names v_code v_coded v_pile v_horn v_brass v_coldAhead v_which_53 v_whichMany_54 v_bestPass v_bestLive v_bestCode v_traced v_traceMany v_who v_bitsOf v_sizeOf v_number v_lifted) H → va_D A (pcX7 o cI v_d v_kept v_images v_found v_aside v_base v_at v_size v_fault v_opened v_isCold v_names v_code v_coded v_pile v_horn v_brass v_coldAhead v_which_53 v_whichMany_54 v_bestPass v_bestLive v_bestCode v_traced v_traceMany v_who v_bitsOf v_sizeOf v_number v_lifted) → va_S A s.heap H locs → ∀ ls : Array Slot, lv_has ls 9 [(0, .ref (o 0)), (2, .int p1), (3, .int p2), (4, .int t0_2), (5, .int l5_55), (6, .int l6_52)] → WI p l e 9 206 s m args below meth c D (tysX cI cS) A r_out (pcX7 o cI w_d v_kept v_images w_found w_aside v_base v_at v_size v_fault v_opened v_isCold w_names v_code v_coded w_pile w_horn w_brass v_coldAhead w_which w_whichMany w_bestPass w_bestLive w_bestCode v_traced v_traceMany v_who v_bitsOf v_sizeOf v_number v_lifted) H locs (F0 m 131 ls []) := by
                        intro v_which_53 v_whichMany_54 l5_55 h H locs hP hD hS ls hl
                        subst eJ131
                        dsimp only at h
                        obtain ⟨l6_56, el6_56, h⟩ := nmA_s h
                        refine lv_iinc (v := l6_56) (lv' := [(6, .int l6_56), (0, .ref (o 0)), (2, .int p1), (3, .int p2), (4, .int t0_2), (5, .int l5_55)]) hx hb dX7_plan_131 hl (k := 5) rfl (by rw [el6_56]; exact congrArg _ (by decide)) (by decide) rfl (fun ls hl => ?_)
                        refine lv_goto (tgt := 63) hx hb dX7_plan_134 (by decide) ?_
                        exact ih v_which_53 v_whichMany_54 l5_55 l6_56 h _ _ hP hD hS _ (lv_sub hl [1, 2, 3, 4, 5, 0] rfl)
                    refine x_icmp_ne (tgt := 131) hx hb h dX7_plan_83 (by decide) (fun c83 h => ?_) (fun c83 h => ?_)
                    · exact wJ131 v_which_49 v_whichMany_50 l5_51 h _ _ hP hD hS _ (lv_sub hl [0, 1, 2, 3, 4, 5] rfl)
                    · refine lv_aload_n hx hb dX7_plan_86 rfl (lv_at hl 0 rfl) ?_
                      refine gt_X7_253 S hK hP 0 rfl rfl dX7_plan_87 ?_
                      refine lv_iconst (v := 3) hx hb dX7_plan_90 (by decide) ?_
                      obtain ⟨J99, eJ99, h⟩ := jnA_s h
                      have wJ99 : ∀ (t0_57 : Int32), J99 t0_57 = some (w_d, w_found, w_aside, w_names, w_pile, w_horn, w_brass, w_which, w_whichMany, w_bestPass, w_bestLive, w_bestCode, r_out) → ∀ (H : Heap) (locs : List Loc), va_P D vwCl (pcX7 o cI v_d v_kept v_images v_found v_aside v_base v_at v_size v_fault v_opened v_isCold v_names v_code v_coded v_pile v_horn v_brass v_coldAhead v_which_49 v_whichMany_50 v_bestPass v_bestLive v_bestCode v_traced v_traceMany v_who v_bitsOf v_sizeOf v_number v_lifted) H → va_D A (pcX7 o cI v_d v_kept v_images v_found v_aside v_base v_at v_size v_fault v_opened v_isCold v_names v_code v_coded v_pile v_horn v_brass v_coldAhead v_which_49 v_whichMany_50 v_bestPass v_bestLive v_bestCode v_traced v_traceMany v_who v_bitsOf v_sizeOf v_number v_lifted) → va_S A s.heap H locs → ∀ ls : Array Slot, lv_has ls 9 [(0, .ref (o 0)), (2, .int p1), (3, .int p2), (4, .int t0_2), (6, .int l6_52)] → WI p l e 9 206 s m args below meth c D (tysX cI cS) A r_out (pcX7 o cI w_d v_kept v_images w_found w_aside v_base v_at v_size v_fault v_opened v_isCold w_names v_code v_coded w_pile w_horn w_brass v_coldAhead w_which w_whichMany w_bestPass w_bestLive w_bestCode v_traced v_traceMany v_who v_bitsOf v_sizeOf v_number v_lifted) H locs (F0 m 99 ls [.int t0_57]) := by
                          intro t0_57 h H locs hP hD hS ls hl
                          subst eJ99
                          dsimp only at h
                          refine lv_istore (lv' := [(5, .int t0_57), (0, .ref (o 0)), (2, .int p1), (3, .int p2), (4, .int t0_2), (6, .int l6_52)]) hx hb dX7_plan_99 hl (by decide) rfl (fun ls hl => ?_)
                          refine lv_aload_n hx hb dX7_plan_101 rfl (lv_at hl 1 rfl) ?_
                          refine gt_X7_34 S hK hP 0 rfl rfl dX7_plan_102 ?_
                          refine lv_iload hx hb dX7_plan_105 (lv_at hl 0 rfl) ?_
                          obtain ⟨J118, eJ118, h⟩ := jnA_s h
                          have wJ118 : ∀ (t0_58 : Int32), J118 t0_58 = some (w_d, w_found, w_aside, w_names, w_pile, w_horn, w_brass, w_which, w_whichMany, w_bestPass, w_bestLive, w_bestCode, r_out) → ∀ (H : Heap) (locs : List Loc), va_P D vwCl (pcX7 o cI v_d v_kept v_images v_found v_aside v_base v_at v_size v_fault v_opened v_isCold v_names v_code v_coded v_pile v_horn v_brass v_coldAhead v_which_49 v_whichMany_50 v_bestPass v_bestLive v_bestCode v_traced v_traceMany v_who v_bitsOf v_sizeOf v_number v_lifted) H → va_D A (pcX7 o cI v_d v_kept v_images v_found v_aside v_base v_at v_size v_fault v_opened v_isCold v_names v_code v_coded v_pile v_horn v_brass v_coldAhead v_which_49 v_whichMany_50 v_bestPass v_bestLive v_bestCode v_traced v_traceMany v_who v_bitsOf v_sizeOf v_number v_lifted) → va_S A s.heap H locs → ∀ ls : Array Slot, lv_has ls 9 [(0, .ref (o 0)), (2, .int p1), (3, .int p2), (4, .int t0_2), (5, .int t0_57), (6, .int l6_52)] → WI p l e 9 206 s m args below meth c D (tysX cI cS) A r_out (pcX7 o cI w_d v_kept v_images w_found w_aside v_base v_at v_size v_fault v_opened v_isCold w_names v_code v_coded w_pile w_horn w_brass v_coldAhead w_which w_whichMany w_bestPass w_bestLive w_bestCode v_traced v_traceMany v_who v_bitsOf v_sizeOf v_number v_lifted) H locs (F0 m 118 ls [.int t0_58, .ref (o 9)]) := by
                              intro t0_58 h H locs hP hD hS ls hl
                              subst eJ118
                              dsimp only at h
                              refine lv_iload hx hb dX7_plan_118 (lv_at hl 5 rfl) ?_
                              refine x_ast hx hb hK hP hD hS 9 h rfl rfl dX7_plan_120 (fun v_which_59 ev_which_59 h H locs hP hD hS => ?_)
                              have hP : va_P D vwCl (pcX7 o cI v_d v_kept v_images v_found v_aside v_base v_at v_size v_fault v_opened v_isCold v_names v_code v_coded v_pile v_horn v_brass v_coldAhead v_which_59 v_whichMany_50 v_bestPass v_bestLive v_bestCode v_traced v_traceMany v_who v_bitsOf v_sizeOf v_number v_lifted) H := hP
                              have hD : va_D A (pcX7 o cI v_d v_kept v_images v_found v_aside v_base v_at v_size v_fault v_opened v_isCold v_names v_code v_coded v_pile v_horn v_brass v_coldAhead v_which_59 v_whichMany_50 v_bestPass v_bestLive v_bestCode v_traced v_traceMany v_who v_bitsOf v_sizeOf v_number v_lifted) := hD
                              refine lv_aload_n hx hb dX7_plan_121 rfl (lv_at hl 0 rfl) ?_
                              refine lv_dup hx hb dX7_plan_122 rfl ?_
                              refine gt_X7_253 S hK hP 0 rfl rfl dX7_plan_123 ?_
                              refine lv_iconst (v := 1) hx hb dX7_plan_126 (by decide) ?_
                              refine lv_iadd hx hb dX7_plan_127 ?_
                              refine x_nm h (fun v_whichMany_60 ev_whichMany_60 h => ?_)
                              refine pt_X7_253 S hK hP hD hS 0 rfl (Nat.le_of_ble_eq_true rfl) dX7_plan_128 (fun H locs hP hD hS => ?_)
                              have hP : va_P D vwCl (pcX7 o cI v_d v_kept v_images v_found v_aside v_base v_at v_size v_fault v_opened v_isCold v_names v_code v_coded v_pile v_horn v_brass v_coldAhead v_which_59 v_whichMany_60 v_bestPass v_bestLive v_bestCode v_traced v_traceMany v_who v_bitsOf v_sizeOf v_number v_lifted) H := hP
                              have hD : va_D A (pcX7 o cI v_d v_kept v_images v_found v_aside v_base v_at v_size v_fault v_opened v_isCold v_names v_code v_coded v_pile v_horn v_brass v_coldAhead v_which_59 v_whichMany_60 v_bestPass v_bestLive v_bestCode v_traced v_traceMany v_who v_bitsOf v_sizeOf v_number v_lifted) := hD
                              exact wJ131 v_which_59 v_whichMany_60 t0_57 h _ _ hP hD hS _ (lv_sub hl [0, 1, 2, 3, 4, 5] rfl)
                          refine x_if_eq (tgt := 117) hx hb h dX7_plan_107 (by decide) (fun c107 h => ?_) (fun c107 h => ?_)
                          · refine lv_iconst (v := 0) hx hb dX7_plan_117 (by decide) ?_
                            exact wJ118 0 h _ _ hP hD hS _ (lv_sub hl [1, 2, 3, 4, 0, 5] rfl)
                          · refine lv_aload_n hx hb dX7_plan_110 rfl (lv_at hl 1 rfl) ?_
                            refine gt_X7_253 S hK hP 0 rfl rfl dX7_plan_111 ?_
                            refine lv_goto (tgt := 118) hx hb dX7_plan_114 (by decide) ?_
                            exact wJ118 v_whichMany_50 h _ _ hP hD hS _ (lv_sub hl [1, 2, 3, 4, 0, 5] rfl)
                      refine x_icmp_ge (tgt := 98) hx hb h dX7_plan_91 (by decide) (fun c91 h => ?_) (fun c91 h => ?_)
                      · refine lv_iconst (v := 0) hx hb dX7_plan_98 (by decide) ?_
                        exact wJ99 0 h _ _ hP hD hS _ (lv_sub hl [0, 1, 2, 3, 5] rfl)
                      · refine lv_iconst (v := 1) hx hb dX7_plan_94 (by decide) ?_
                        refine lv_goto (tgt := 99) hx hb dX7_plan_95 (by decide) ?_
                        exact wJ99 1 h _ _ hP hD hS _ (lv_sub hl [0, 1, 2, 3, 5] rfl)
          exact wf_X7_plan_L63 300 v_which 0 t0_3 0 h _ _ hP hD hS _ (lv_sub hl [2, 3, 4, 5, 1, 0] rfl)
      obtain ⟨J57, eJ57, h⟩ := jnA_s h
      have wJ57 : J57  = some (w_d, w_found, w_aside, w_names, w_pile, w_horn, w_brass, w_which, w_whichMany, w_bestPass, w_bestLive, w_bestCode, r_out) → ∀ (H : Heap) (locs : List Loc), va_P D vwCl (pcX7 o cI v_d v_kept v_images v_found v_aside v_base v_at v_size v_fault v_opened v_isCold v_names v_code v_coded v_pile v_horn v_brass v_coldAhead v_which 0 v_bestPass v_bestLive v_bestCode v_traced v_traceMany v_who v_bitsOf v_sizeOf v_number v_lifted) H → va_D A (pcX7 o cI v_d v_kept v_images v_found v_aside v_base v_at v_size v_fault v_opened v_isCold v_names v_code v_coded v_pile v_horn v_brass v_coldAhead v_which 0 v_bestPass v_bestLive v_bestCode v_traced v_traceMany v_who v_bitsOf v_sizeOf v_number v_lifted) → va_S A s.heap H locs → ∀ ls : Array Slot, lv_has ls 9 [(0, .ref (o 0)), (2, .int p1), (3, .int p2), (4, .int t0_2)] → WI p l e 9 206 s m args below meth c D (tysX cI cS) A r_out (pcX7 o cI w_d v_kept v_images w_found w_aside v_base v_at v_size v_fault v_opened v_isCold w_names v_code v_coded w_pile w_horn w_brass v_coldAhead w_which w_whichMany w_bestPass w_bestLive w_bestCode v_traced v_traceMany v_who v_bitsOf v_sizeOf v_number v_lifted) H locs (F0 m 57 ls []) := by
          intro h H locs hP hD hS ls hl
          subst eJ57
          refine lv_iconst (v := 0) hx hb dX7_plan_57 (by decide) ?_
          exact wJ58 0 h _ _ hP hD hS _ (lv_sub hl [0, 1, 2, 3] rfl)
      refine x_if_le (tgt := 57) hx hb h dX7_plan_26 (by decide) (fun c26 h => ?_) (fun c26 h => ?_)
      · exact wJ57 h _ _ hP hD hS _ (lv_sub hl [1, 2, 3, 0] rfl)
      · refine lv_iload_n hx hb dX7_plan_29 rfl (lv_at hl 2 rfl) ?_
        refine lv_i2l (v := (p1.toInt64)) hx hb dX7_plan_30 rfl ?_
        refine lv_lconst (v := 1) hx hb dX7_plan_31 (by decide) ?_
        refine lv_ldc2 (v := 5) hx hb hown (hts _ wd15_21) dX7_plan_32 ?_
        obtain ⟨r_61, hc35, h⟩ := bd1_s h
        refine x_statI (As := [.long (p1.toInt64), .long 1, .long 5]) (rest := []) St0_ok S (c_X7_in l D cI cS o hc35) ys_X7_in wd6_7 ⟨Nat.le_of_ble_eq_true rfl, Nat.le_of_ble_eq_true rfl⟩ hK hSt hA hP hD hS rfl hl.1 rfl (Nat.le_of_ble_eq_true rfl) dX7_plan_35 (Nat.zero_le _) (Nat.zero_le _) (fun H locs hP hD hS => ?_)
        refine x_if_eq (tgt := 57) hx hb h dX7_plan_38 (by decide) (fun c38 h => ?_) (fun c38 h => ?_)
        · exact wJ57 h _ _ hP hD hS _ (lv_sub hl [1, 2, 3, 0] rfl)
        · refine lv_iload hx hb dX7_plan_41 (lv_at hl 0 rfl) ?_
          refine lv_aload_n hx hb dX7_plan_43 rfl (lv_at hl 1 rfl) ?_
          refine gt_X7_7 S hK hP 0 rfl rfl dX7_plan_44 ?_
          refine lv_iconst (v := 1) hx hb dX7_plan_47 (by decide) ?_
          refine x_ald hx hb hK hP 1 h rfl rfl dX7_plan_48 (fun x_62 ex_62 h => ?_)
          refine lv_ishr hx hb dX7_plan_49 ?_
          refine x_if_ne (tgt := 57) hx hb h dX7_plan_50 (by decide) (fun c50 h => ?_) (fun c50 h => ?_)
          · exact wJ57 h _ _ hP hD hS _ (lv_sub hl [1, 2, 3, 0] rfl)
          · refine lv_iconst (v := 1) hx hb dX7_plan_53 (by decide) ?_
            refine lv_goto (tgt := 58) hx hb dX7_plan_54 (by decide) ?_
            exact wJ58 1 h _ _ hP hD hS _ (lv_sub hl [1, 2, 3, 0] rfl)
  refine x_if_eq (tgt := 21) hx hb h dX7_plan_14 (by decide) (fun c14 h => ?_) (fun c14 h => ?_)
  · refine lv_iconst (v := 0) hx hb dX7_plan_21 (by decide) ?_
    exact wJ22 0 h _ _ hP hD hS _ (lv_sub hl [0, 2, 3] rfl)
  · refine lv_iload_n hx hb dX7_plan_17 rfl (lv_at hl 1 rfl) ?_
    refine lv_goto (tgt := 22) hx hb dX7_plan_18 (by decide) ?_
    exact wJ22 p0 h _ _ hP hD hS _ (lv_sub hl [0, 2, 3] rfl)

def f_X7_tailor_L40 (p0 : Int32) (v_coldAhead_4 : Nat → Int32) (l3_9 : Int32) (J83 : (Nat → Int32) → (Nat → Int32) → (Nat → Int32) → Int32 → Option ((Nat → Int32) × (Nat → Int32) × (Nat → Int32) × (Nat → Int32) × (Nat → Int32) × (Int32))) : Nat → (Nat → Int32) → (Nat → Int32) → (Nat → Int32) → Int32 → Option ((Nat → Int32) × (Nat → Int32) × (Nat → Int32) × (Nat → Int32) × (Nat → Int32) × (Int32))
  | 0, _, _, _, _ => none
  | k_n + 1, v_d_20, v_names_21, v_pile_22, l4_23 => bd1 (f_X7_isDead v_d_20 l3_9) (fun r_24 => (if r_24 = 0 then bd1 (f_X7_of v_d_20 l3_9 4) (fun r_25 => (if r_25 < l4_23 then J83 v_d_20 v_names_21 v_pile_22 l4_23 else bd1 (f_X7_of v_d_20 l3_9 4) (fun r_26 => bd4 (f_X7_livesWith v_d_20 v_names_21 v_pile_22 v_coldAhead_4 l3_9 (r_26 - l4_23) p0) (fun v_d_27 v_names_28 v_pile_29 r_30 => (if r_30 = 0 then nmA (l4_23 + 1) (fun l4_31 => f_X7_tailor_L40 p0 v_coldAhead_4 l3_9 J83 k_n v_d_27 v_names_28 v_pile_29 l4_31) else J83 v_d_27 v_names_28 v_pile_29 l4_23))))) else J83 v_d_20 v_names_21 v_pile_22 l4_23))
def f_X7_tailor_L27 (v_found : Nat → Int32) (p0 : Int32) (v_coldAhead_4 : Nat → Int32) : Nat → (Nat → Int32) → (Nat → Int32) → (Nat → Int32) → Int32 → Int32 → Option ((Nat → Int32) × (Nat → Int32) × (Nat → Int32) × (Nat → Int32) × (Nat → Int32) × (Int32))
  | 0, _, _, _, _, _ => none
  | k_n + 1, v_d_5, v_names_6, v_pile_7, l2_8, l3_9 => rdA 248 v_d_5 0 (fun x_10 => (if x_10 ≤ l3_9 then some (v_d_5, v_found, v_names_6, v_pile_7, v_coldAhead_4, l2_8) else jnA (fun (v_d_11 : Nat → Int32) (v_names_12 : Nat → Int32) (v_pile_13 : Nat → Int32) (l4_14 : Int32) => bd1 (f_X7_of v_d_11 l3_9 4) (fun r_15 => (if l4_14 ≤ r_15 then nmA (l2_8 + l4_14) (fun l2_16 => nmA (l3_9 + 1) (fun l3_17 => f_X7_tailor_L27 v_found p0 v_coldAhead_4 k_n v_d_11 v_names_12 v_pile_13 l2_16 l3_17)) else bd2 (f_X7_finds v_found 2) (fun v_found_18 r_19 => some (v_d_11, v_found_18, v_names_12, v_pile_13, v_coldAhead_4, r_19))))) (fun J83 => f_X7_tailor_L40 p0 v_coldAhead_4 l3_9 J83 300 v_d_5 v_names_6 v_pile_7 0)))
def f_X7_tailor  (v_d : Nat → Int32) (v_found : Nat → Int32) (v_names : Nat → Int32) (v_pile : Nat → Int32) (v_coldAhead : Nat → Int32) (p0 : Int32) : Option ((Nat → Int32) × (Nat → Int32) × (Nat → Int32) × (Nat → Int32) × (Nat → Int32) × (Int32)) :=
  bd1 (f_X7_in (p0.toInt64) 0 60) (fun r_1 => (if r_1 = 0 then bd2 (f_X7_finds v_found 1) (fun v_found_32 r_33 => some (v_d, v_found_32, v_names, v_pile, v_coldAhead, r_33)) else bd3 (f_X7_findsCold v_d v_names v_pile v_coldAhead p0) (fun v_names_2 v_pile_3 v_coldAhead_4 => f_X7_tailor_L27 v_found p0 v_coldAhead_4 300 v_d v_names_2 v_pile_3 0 0)))
set_option maxHeartbeats 600000 in
set_option maxRecDepth 100000 in
theorem c_X7_tailor (l : Launch) (D : va_G) (cI cS : ClassId) (o : Nat → Nat) {v_d : Nat → Int32} {v_kept : Nat → Int32} {v_images : Int32} {v_found : Nat → Int32} {v_aside : Nat → Int32} {v_base : Int32} {v_at : Int32} {v_size : Int32} {v_fault : Int32} {v_opened : Int32} {v_isCold : Int32} {v_names : Nat → Int32} {v_code : Nat → Int32} {v_coded : Int32} {v_pile : Nat → Int32} {v_horn : Int32} {v_brass : Int32} {v_coldAhead : Nat → Int32} {v_which : Nat → Int32} {v_whichMany : Int32} {v_bestPass : Int32} {v_bestLive : Int32} {v_bestCode : Int32} {v_traced : Nat → Int32} {v_traceMany : Int32} {v_who : Int32} {v_bitsOf : Nat → Int32} {v_sizeOf : Nat → Int32} {v_number : Nat → Int32} {v_lifted : Nat → Int32} {p0 : Int32} {w_d : Nat → Int32} {w_found : Nat → Int32} {w_names : Nat → Int32} {w_pile : Nat → Int32} {w_coldAhead : Nat → Int32} {r_out : Int32} (h : f_X7_tailor  v_d v_found v_names v_pile v_coldAhead p0 = some (w_d, w_found, w_names, w_pile, w_coldAhead, r_out)) : MetI l D (tysX cI cS) St0 yX7_tailor cX7_tailor 5 (some .int) 5 123 [.ref (o 0), .int p0] (pcX7 o cI v_d v_kept v_images v_found v_aside v_base v_at v_size v_fault v_opened v_isCold v_names v_code v_coded v_pile v_horn v_brass v_coldAhead v_which v_whichMany v_bestPass v_bestLive v_bestCode v_traced v_traceMany v_who v_bitsOf v_sizeOf v_number v_lifted) r_out (pcX7 o cI w_d v_kept v_images w_found v_aside v_base v_at v_size v_fault v_opened v_isCold w_names v_code v_coded w_pile v_horn v_brass w_coldAhead v_which v_whichMany v_bestPass v_bestLive v_bestCode v_traced v_traceMany v_who v_bitsOf v_sizeOf v_number v_lifted) := by
  refine Ent.metI (by decide +kernel) (Nat.le_of_ble_eq_true rfl) ?_
  intro p e s m args below meth c A ls hx hb hr hml hown hts hlocks hA hK hSt hP hD hS hl
  have hown : s.vm.findClass RX7 = some m.cls := hown
  have S : XFix p m c cX7_tailor 5 s args RX7 := ⟨hx, hb, hml, hown, hts⟩
  have hl : lv_has ls 5 [(0, .ref (o 0)), (1, .int p0)] := hl
  unfold f_X7_tailor at h
  refine lv_iload_n hx hb dX7_tailor_0 rfl (lv_at hl 1 rfl) ?_
  refine lv_i2l (v := (p0.toInt64)) hx hb dX7_tailor_1 rfl ?_
  refine lv_lconst (v := 0) hx hb dX7_tailor_2 (by decide) ?_
  refine lv_ldc2 (v := 60) hx hb hown (hts _ wd26_4) dX7_tailor_3 ?_
  obtain ⟨r_1, hc6, h⟩ := bd1_s h
  refine x_statI (As := [.long (p0.toInt64), .long 0, .long 60]) (rest := []) St0_ok S (c_X7_in l D cI cS o hc6) ys_X7_in wd6_7 ⟨Nat.le_of_ble_eq_true rfl, Nat.le_of_ble_eq_true rfl⟩ hK hSt hA hP hD hS rfl hl.1 rfl (Nat.le_of_ble_eq_true rfl) dX7_tailor_6 (Nat.zero_le _) (Nat.zero_le _) (fun H locs hP hD hS => ?_)
  refine x_if_ne (tgt := 18) hx hb h dX7_tailor_9 (by decide) (fun c9 h => ?_) (fun c9 h => ?_)
  · refine lv_aload_n hx hb dX7_tailor_18 rfl (lv_at hl 0 rfl) ?_
    refine lv_iload_n hx hb dX7_tailor_19 rfl (lv_at hl 1 rfl) ?_
    obtain ⟨v_names_2, v_pile_3, v_coldAhead_4, hc20, h⟩ := bd3_s h
    refine x_selfVv (As := [.int p0]) (rest := []) St0_ok S (c_X7_findsCold l D cI cS o hc20) yf_X7_findsCold wd30_11 ⟨Nat.le_of_ble_eq_true rfl, Nat.le_of_ble_eq_true rfl⟩ hK hSt hA hP hD hS 0 rfl rfl rfl hl.1 rfl (Nat.le_of_ble_eq_true rfl) dX7_tailor_20 (Nat.zero_le _) (Nat.zero_le _) (fun H locs hP hD hS => ?_)
    refine lv_iconst (v := 0) hx hb dX7_tailor_23 (by decide) ?_
    refine lv_istore_n (lv' := [(2, .int 0), (0, .ref (o 0)), (1, .int p0)]) hx hb dX7_tailor_24 rfl hl (by decide) rfl (fun ls hl => ?_)
    refine lv_iconst (v := 0) hx hb dX7_tailor_25 (by decide) ?_
    refine lv_istore_n (lv' := [(3, .int 0), (2, .int 0), (0, .ref (o 0)), (1, .int p0)]) hx hb dX7_tailor_26 rfl hl (by decide) rfl (fun ls hl => ?_)
    have wf_X7_tailor_L27 : ∀ (k_n : Nat) (v_d_5 : Nat → Int32) (v_names_6 : Nat → Int32) (v_pile_7 : Nat → Int32) (l2_8 : Int32) (l3_9 : Int32), f_X7_tailor_L27 v_found p0 v_coldAhead_4 k_n v_d_5 v_names_6 v_pile_7 l2_8 l3_9 = some (w_d, w_found, w_names, w_pile, w_coldAhead, r_out) → ∀ (H : Heap) (locs : List Loc), va_P D vwCl (pcX7 o cI v_d_5 v_kept v_images v_found v_aside v_base v_at v_size v_fault v_opened v_isCold v_names_6 v_code v_coded v_pile_7 v_horn v_brass v_coldAhead_4 v_which v_whichMany v_bestPass v_bestLive v_bestCode v_traced v_traceMany v_who v_bitsOf v_sizeOf v_number v_lifted) H → va_D A (pcX7 o cI v_d_5 v_kept v_images v_found v_aside v_base v_at v_size v_fault v_opened v_isCold v_names_6 v_code v_coded v_pile_7 v_horn v_brass v_coldAhead_4 v_which v_whichMany v_bestPass v_bestLive v_bestCode v_traced v_traceMany v_who v_bitsOf v_sizeOf v_number v_lifted) → va_S A s.heap H locs → ∀ ls : Array Slot, lv_has ls 5 [(0, .ref (o 0)), (1, .int p0), (2, .int l2_8), (3, .int l3_9)] → WI p l e 5 123 s m args below meth c D (tysX cI cS) A r_out (pcX7 o cI w_d v_kept v_images w_found v_aside v_base v_at v_size v_fault v_opened v_isCold w_names v_code v_coded w_pile v_horn v_brass w_coldAhead v_which v_whichMany v_bestPass v_bestLive v_bestCode v_traced v_traceMany v_who v_bitsOf v_sizeOf v_number v_lifted) H locs (F0 m 27 ls []) := by
        intro k_n
        induction k_n with
        | zero => intro v_d_5 v_names_6 v_pile_7 l2_8 l3_9 h; rw [f_X7_tailor_L27] at h; cases h
        | succ k_n ih =>
          intro v_d_5 v_names_6 v_pile_7 l2_8 l3_9 h H locs hP hD hS ls hl
          rw [f_X7_tailor_L27] at h
          refine lv_iload_n hx hb dX7_tailor_27 rfl (lv_at hl 3 rfl) ?_
          refine lv_aload_n hx hb dX7_tailor_28 rfl (lv_at hl 0 rfl) ?_
          refine gt_X7_7 S hK hP 0 rfl rfl dX7_tailor_29 ?_
          refine lv_iconst (v := 0) hx hb dX7_tailor_32 (by decide) ?_
          refine x_ald hx hb hK hP 1 h rfl rfl dX7_tailor_33 (fun x_10 ex_10 h => ?_)
          refine x_icmp_ge (tgt := 111) hx hb h dX7_tailor_34 (by decide) (fun c34 h => ?_) (fun c34 h => ?_)
          · refine lv_iload_n hx hb dX7_tailor_111 rfl (lv_at hl 2 rfl) ?_
            cases h
            exact x_iret hx hb hr hlocks hK hP hD hS rfl rfl dX7_tailor_112
          · refine lv_iconst (v := 0) hx hb dX7_tailor_37 (by decide) ?_
            refine lv_istore (lv' := [(4, .int 0), (0, .ref (o 0)), (1, .int p0), (2, .int l2_8), (3, .int l3_9)]) hx hb dX7_tailor_38 hl (by decide) rfl (fun ls hl => ?_)
            obtain ⟨J83, eJ83, h⟩ := jnA_s h
            have wJ83 : ∀ (v_d_11 : Nat → Int32) (v_names_12 : Nat → Int32) (v_pile_13 : Nat → Int32) (l4_14 : Int32), J83 v_d_11 v_names_12 v_pile_13 l4_14 = some (w_d, w_found, w_names, w_pile, w_coldAhead, r_out) → ∀ (H : Heap) (locs : List Loc), va_P D vwCl (pcX7 o cI v_d_11 v_kept v_images v_found v_aside v_base v_at v_size v_fault v_opened v_isCold v_names_12 v_code v_coded v_pile_13 v_horn v_brass v_coldAhead_4 v_which v_whichMany v_bestPass v_bestLive v_bestCode v_traced v_traceMany v_who v_bitsOf v_sizeOf v_number v_lifted) H → va_D A (pcX7 o cI v_d_11 v_kept v_images v_found v_aside v_base v_at v_size v_fault v_opened v_isCold v_names_12 v_code v_coded v_pile_13 v_horn v_brass v_coldAhead_4 v_which v_whichMany v_bestPass v_bestLive v_bestCode v_traced v_traceMany v_who v_bitsOf v_sizeOf v_number v_lifted) → va_S A s.heap H locs → ∀ ls : Array Slot, lv_has ls 5 [(0, .ref (o 0)), (1, .int p0), (2, .int l2_8), (3, .int l3_9), (4, .int l4_14)] → WI p l e 5 123 s m args below meth c D (tysX cI cS) A r_out (pcX7 o cI w_d v_kept v_images w_found v_aside v_base v_at v_size v_fault v_opened v_isCold w_names v_code v_coded w_pile v_horn v_brass w_coldAhead v_which v_whichMany v_bestPass v_bestLive v_bestCode v_traced v_traceMany v_who v_bitsOf v_sizeOf v_number v_lifted) H locs (F0 m 83 ls []) := by
                intro v_d_11 v_names_12 v_pile_13 l4_14 h H locs hP hD hS ls hl
                subst eJ83
                dsimp only at h
                refine lv_iload hx hb dX7_tailor_83 (lv_at hl 4 rfl) ?_
                refine lv_aload_n hx hb dX7_tailor_85 rfl (lv_at hl 0 rfl) ?_
                refine lv_iload_n hx hb dX7_tailor_86 rfl (lv_at hl 3 rfl) ?_
                refine lv_iconst (v := 4) hx hb dX7_tailor_87 (by decide) ?_
                obtain ⟨r_15, hc88, h⟩ := bd1_s h
                refine x_selfVi (As := [.int l3_9, .int 4]) (rest := [.int l4_14]) St0_ok S (c_X7_of l D cI cS o hc88) yf_X7_of wd10_11 ⟨Nat.le_of_ble_eq_true rfl, Nat.le_of_ble_eq_true rfl⟩ hK hSt hA hP hD hS 0 rfl rfl rfl hl.1 rfl (Nat.le_of_ble_eq_true rfl) dX7_tailor_88 (Nat.zero_le _) (Nat.zero_le _) (fun H locs hP hD hS => ?_)
                refine x_icmp_le (tgt := 100) hx hb h dX7_tailor_91 (by decide) (fun c91 h => ?_) (fun c91 h => ?_)
                · refine lv_iload_n hx hb dX7_tailor_100 rfl (lv_at hl 2 rfl) ?_
                  refine lv_iload hx hb dX7_tailor_101 (lv_at hl 4 rfl) ?_
                  refine lv_iadd hx hb dX7_tailor_103 ?_
                  refine x_nm h (fun l2_16 el2_16 h => ?_)
                  refine lv_istore_n (lv' := [(2, .int l2_16), (0, .ref (o 0)), (1, .int p0), (3, .int l3_9), (4, .int l4_14)]) hx hb dX7_tailor_104 rfl hl (by decide) rfl (fun ls hl => ?_)
                  obtain ⟨l3_17, el3_17, h⟩ := nmA_s h
                  refine lv_iinc (v := l3_17) (lv' := [(3, .int l3_17), (2, .int l2_16), (0, .ref (o 0)), (1, .int p0), (4, .int l4_14)]) hx hb dX7_tailor_105 hl (k := 3) rfl (by rw [el3_17]; exact congrArg _ (by decide)) (by decide) rfl (fun ls hl => ?_)
                  refine lv_goto (tgt := 27) hx hb dX7_tailor_108 (by decide) ?_
                  exact ih v_d_11 v_names_12 v_pile_13 l2_16 l3_17 h _ _ hP hD hS _ (lv_sub hl [2, 3, 1, 0] rfl)
                · refine lv_aload_n hx hb dX7_tailor_94 rfl (lv_at hl 0 rfl) ?_
                  refine lv_iconst (v := 2) hx hb dX7_tailor_95 (by decide) ?_
                  obtain ⟨v_found_18, r_19, hc96, h⟩ := bd2_s h
                  refine x_selfVi (As := [.int 2]) (rest := []) St0_ok S (c_X7_finds l D cI cS o hc96) yf_X7_finds wd6_10 ⟨Nat.le_of_ble_eq_true rfl, Nat.le_of_ble_eq_true rfl⟩ hK hSt hA hP hD hS 0 rfl rfl rfl hl.1 rfl (Nat.le_of_ble_eq_true rfl) dX7_tailor_96 (Nat.zero_le _) (Nat.zero_le _) (fun H locs hP hD hS => ?_)
                  cases h
                  exact x_iret hx hb hr hlocks hK hP hD hS rfl rfl dX7_tailor_99
            have wf_X7_tailor_L40 : ∀ (k_n : Nat) (v_d_20 : Nat → Int32) (v_names_21 : Nat → Int32) (v_pile_22 : Nat → Int32) (l4_23 : Int32), f_X7_tailor_L40 p0 v_coldAhead_4 l3_9 J83 k_n v_d_20 v_names_21 v_pile_22 l4_23 = some (w_d, w_found, w_names, w_pile, w_coldAhead, r_out) → ∀ (H : Heap) (locs : List Loc), va_P D vwCl (pcX7 o cI v_d_20 v_kept v_images v_found v_aside v_base v_at v_size v_fault v_opened v_isCold v_names_21 v_code v_coded v_pile_22 v_horn v_brass v_coldAhead_4 v_which v_whichMany v_bestPass v_bestLive v_bestCode v_traced v_traceMany v_who v_bitsOf v_sizeOf v_number v_lifted) H → va_D A (pcX7 o cI v_d_20 v_kept v_images v_found v_aside v_base v_at v_size v_fault v_opened v_isCold v_names_21 v_code v_coded v_pile_22 v_horn v_brass v_coldAhead_4 v_which v_whichMany v_bestPass v_bestLive v_bestCode v_traced v_traceMany v_who v_bitsOf v_sizeOf v_number v_lifted) → va_S A s.heap H locs → ∀ ls : Array Slot, lv_has ls 5 [(0, .ref (o 0)), (1, .int p0), (2, .int l2_8), (3, .int l3_9), (4, .int l4_23)] → WI p l e 5 123 s m args below meth c D (tysX cI cS) A r_out (pcX7 o cI w_d v_kept v_images w_found v_aside v_base v_at v_size v_fault v_opened v_isCold w_names v_code v_coded w_pile v_horn v_brass w_coldAhead v_which v_whichMany v_bestPass v_bestLive v_bestCode v_traced v_traceMany v_who v_bitsOf v_sizeOf v_number v_lifted) H locs (F0 m 40 ls []) := by
                intro k_n
                induction k_n with
                | zero => intro v_d_20 v_names_21 v_pile_22 l4_23 h; rw [f_X7_tailor_L40] at h; cases h
                | succ k_n ih =>
                  intro v_d_20 v_names_21 v_pile_22 l4_23 h H locs hP hD hS ls hl
                  rw [f_X7_tailor_L40] at h
                  refine lv_aload_n hx hb dX7_tailor_40 rfl (lv_at hl 0 rfl) ?_
                  refine lv_iload_n hx hb dX7_tailor_41 rfl (lv_at hl 3 rfl) ?_
                  obtain ⟨r_24, hc42, h⟩ := bd1_s h
                  refine x_selfVi (As := [.int l3_9]) (rest := []) St0_ok S (c_X7_isDead l D cI cS o hc42) yf_X7_isDead wd10_15 ⟨Nat.le_of_ble_eq_true rfl, Nat.le_of_ble_eq_true rfl⟩ hK hSt hA hP hD hS 0 rfl rfl rfl hl.1 rfl (Nat.le_of_ble_eq_true rfl) dX7_tailor_42 (Nat.zero_le _) (Nat.zero_le _) (fun H locs hP hD hS => ?_)
                  refine x_if_ne (tgt := 83) hx hb h dX7_tailor_45 (by decide) (fun c45 h => ?_) (fun c45 h => ?_)
                  · exact wJ83 v_d_20 v_names_21 v_pile_22 l4_23 h _ _ hP hD hS _ (lv_sub hl [0, 1, 2, 3, 4] rfl)
                  · refine lv_iload hx hb dX7_tailor_48 (lv_at hl 4 rfl) ?_
                    refine lv_aload_n hx hb dX7_tailor_50 rfl (lv_at hl 0 rfl) ?_
                    refine lv_iload_n hx hb dX7_tailor_51 rfl (lv_at hl 3 rfl) ?_
                    refine lv_iconst (v := 4) hx hb dX7_tailor_52 (by decide) ?_
                    obtain ⟨r_25, hc53, h⟩ := bd1_s h
                    refine x_selfVi (As := [.int l3_9, .int 4]) (rest := [.int l4_23]) St0_ok S (c_X7_of l D cI cS o hc53) yf_X7_of wd10_11 ⟨Nat.le_of_ble_eq_true rfl, Nat.le_of_ble_eq_true rfl⟩ hK hSt hA hP hD hS 0 rfl rfl rfl hl.1 rfl (Nat.le_of_ble_eq_true rfl) dX7_tailor_53 (Nat.zero_le _) (Nat.zero_le _) (fun H locs hP hD hS => ?_)
                    refine x_icmp_gt (tgt := 83) hx hb h dX7_tailor_56 (by decide) (fun c56 h => ?_) (fun c56 h => ?_)
                    · exact wJ83 v_d_20 v_names_21 v_pile_22 l4_23 h _ _ hP hD hS _ (lv_sub hl [0, 1, 2, 3, 4] rfl)
                    · refine lv_aload_n hx hb dX7_tailor_59 rfl (lv_at hl 0 rfl) ?_
                      refine lv_iload_n hx hb dX7_tailor_60 rfl (lv_at hl 3 rfl) ?_
                      refine lv_aload_n hx hb dX7_tailor_61 rfl (lv_at hl 0 rfl) ?_
                      refine lv_iload_n hx hb dX7_tailor_62 rfl (lv_at hl 3 rfl) ?_
                      refine lv_iconst (v := 4) hx hb dX7_tailor_63 (by decide) ?_
                      obtain ⟨r_26, hc64, h⟩ := bd1_s h
                      refine x_selfVi (As := [.int l3_9, .int 4]) (rest := [.int l3_9, .ref (o 0)]) St0_ok S (c_X7_of l D cI cS o hc64) yf_X7_of wd10_11 ⟨Nat.le_of_ble_eq_true rfl, Nat.le_of_ble_eq_true rfl⟩ hK hSt hA hP hD hS 0 rfl rfl rfl hl.1 rfl (Nat.le_of_ble_eq_true rfl) dX7_tailor_64 (Nat.zero_le _) (Nat.zero_le _) (fun H locs hP hD hS => ?_)
                      refine lv_iload hx hb dX7_tailor_67 (lv_at hl 4 rfl) ?_
                      refine lv_isub hx hb dX7_tailor_69 ?_
                      refine lv_iload_n hx hb dX7_tailor_70 rfl (lv_at hl 1 rfl) ?_
                      obtain ⟨v_d_27, v_names_28, v_pile_29, r_30, hc71, h⟩ := bd4_s h
                      refine x_selfVi (As := [.int l3_9, .int (r_26 - l4_23), .int p0]) (rest := []) St0_ok S (c_X7_livesWith l D cI cS o hc71) yf_X7_livesWith wd30_15 ⟨Nat.le_of_ble_eq_true rfl, Nat.le_of_ble_eq_true rfl⟩ hK hSt hA hP hD hS 0 rfl rfl rfl hl.1 rfl (Nat.le_of_ble_eq_true rfl) dX7_tailor_71 (Nat.zero_le _) (Nat.zero_le _) (fun H locs hP hD hS => ?_)
                      refine x_if_ne (tgt := 83) hx hb h dX7_tailor_74 (by decide) (fun c74 h => ?_) (fun c74 h => ?_)
                      · exact wJ83 v_d_27 v_names_28 v_pile_29 l4_23 h _ _ hP hD hS _ (lv_sub hl [0, 1, 2, 3, 4] rfl)
                      · obtain ⟨l4_31, el4_31, h⟩ := nmA_s h
                        refine lv_iinc (v := l4_31) (lv' := [(4, .int l4_31), (0, .ref (o 0)), (1, .int p0), (2, .int l2_8), (3, .int l3_9)]) hx hb dX7_tailor_77 hl (k := 4) rfl (by rw [el4_31]; exact congrArg _ (by decide)) (by decide) rfl (fun ls hl => ?_)
                        refine lv_goto (tgt := 40) hx hb dX7_tailor_80 (by decide) ?_
                        exact ih v_d_27 v_names_28 v_pile_29 l4_31 h _ _ hP hD hS _ (lv_sub hl [1, 2, 3, 4, 0] rfl)
            exact wf_X7_tailor_L40 300 v_d_5 v_names_6 v_pile_7 0 h _ _ hP hD hS _ (lv_sub hl [1, 2, 3, 4, 0] rfl)
    exact wf_X7_tailor_L27 300 v_d v_names_2 v_pile_3 0 0 h _ _ hP hD hS _ (lv_sub hl [2, 3, 1, 0] rfl)
  · refine lv_aload_n hx hb dX7_tailor_12 rfl (lv_at hl 0 rfl) ?_
    refine lv_iconst (v := 1) hx hb dX7_tailor_13 (by decide) ?_
    obtain ⟨v_found_32, r_33, hc14, h⟩ := bd2_s h
    refine x_selfVi (As := [.int 1]) (rest := []) St0_ok S (c_X7_finds l D cI cS o hc14) yf_X7_finds wd6_10 ⟨Nat.le_of_ble_eq_true rfl, Nat.le_of_ble_eq_true rfl⟩ hK hSt hA hP hD hS 0 rfl rfl rfl hl.1 rfl (Nat.le_of_ble_eq_true rfl) dX7_tailor_14 (Nat.zero_le _) (Nat.zero_le _) (fun H locs hP hD hS => ?_)
    cases h
    exact x_iret hx hb hr hlocks hK hP hD hS rfl rfl dX7_tailor_17

def f_X7_isSheet   (p0 : Int32) : Option ((Int32)) :=
  bd1 (f_X7_in (p0.toInt64) 0 3) (fun r_1 => bzA r_1 (some (r_1)))
set_option maxHeartbeats 600000 in
set_option maxRecDepth 100000 in
theorem c_X7_isSheet (l : Launch) (D : va_G) (cI cS : ClassId) (o : Nat → Nat)  {p0 : Int32}  {r_out : Int32} (h : f_X7_isSheet   p0 = some (r_out)) : MetI l D (tysX cI cS) St0 yX7_isSheet cX7_isSheet 1 (some .boolean) 1 25 [.int p0] [] r_out [] := by
  refine Ent.metI (by decide +kernel) (Nat.le_of_ble_eq_true rfl) ?_
  intro p e s m args below meth c A ls hx hb hr hml hown hts hlocks hA hK hSt hP hD hS hl
  have hown : s.vm.findClass RX7 = some m.cls := hown
  have S : XFix p m c cX7_isSheet 1 s args RX7 := ⟨hx, hb, hml, hown, hts⟩
  have hl : lv_has ls 1 [(0, .int p0)] := hl
  unfold f_X7_isSheet at h
  refine lv_iload_n hx hb dX7_isSheet_0 rfl (lv_at hl 0 rfl) ?_
  refine lv_i2l (v := (p0.toInt64)) hx hb dX7_isSheet_1 rfl ?_
  refine lv_lconst (v := 0) hx hb dX7_isSheet_2 (by decide) ?_
  refine lv_ldc2 (v := 3) hx hb hown (hts _ wd13_1) dX7_isSheet_3 ?_
  obtain ⟨r_1, hc6, h⟩ := bd1_s h
  refine x_statI (As := [.long (p0.toInt64), .long 0, .long 3]) (rest := []) St0_ok S (c_X7_in l D cI cS o hc6) ys_X7_in wd6_7 ⟨Nat.le_of_ble_eq_true rfl, Nat.le_of_ble_eq_true rfl⟩ hK hSt hA hP hD hS rfl hl.1 rfl (Nat.le_of_ble_eq_true rfl) dX7_isSheet_6 (Nat.zero_le _) (Nat.zero_le _) (fun H locs hP hD hS => ?_)
  obtain ⟨hz9, h⟩ := bzA_s h
  cases h
  exact x_zret hx hb hr hlocks hK hP hD hS rfl rfl hz9 dX7_isSheet_9

def f_X7_voted_L78 (v_d : Nat → Int32) (l5_19 : Int32) (J130 : Int32 → Int32 → Int32 → Int32 → Option ((Nat → Int32) × (Int32) × (Int32) × (Int32))) : Nat → Int32 → Int32 → Int32 → Int32 → Int32 → Option ((Nat → Int32) × (Int32) × (Int32) × (Int32))
  | 0, _, _, _, _, _ => none
  | k_n + 1, v_horn_32, v_brass_33, l6_34, l7_35, l8_36 => rdA 248 v_d 0 (fun x_37 => (if x_37 ≤ l8_36 then J130 v_horn_32 v_brass_33 l6_34 l7_35 else jnA (fun (v_horn_38 : Int32) (v_brass_39 : Int32) (l6_40 : Int32) (l7_41 : Int32) => nmA (l8_36 + 1) (fun l8_42 => f_X7_voted_L78 v_d l5_19 J130 k_n v_horn_38 v_brass_39 l6_40 l7_41 l8_42)) (fun J124 => (if ((l5_19 >>> (l8_36 &&& 31)) &&& 1) = 1 then bd2 (f_X7_cuts v_d v_horn_32 v_brass_33 l8_36) (fun v_horn_43 v_brass_44 => nmA (l6_34 + v_horn_43) (fun l6_45 => nmA (l7_35 + v_brass_44) (fun l7_46 => J124 v_horn_43 v_brass_44 l6_45 l7_46))) else J124 v_horn_32 v_brass_33 l6_34 l7_35))))
def f_X7_voted_L56 (v_d : Nat → Int32) (v_number : Nat → Int32) (p0 : Int32) (J205 : Int32 → Int32 → Int32 → Int32 → Option ((Nat → Int32) × (Int32) × (Int32) × (Int32))) : Nat → Int32 → Int32 → Int32 → Int32 → Int32 → Option ((Nat → Int32) × (Int32) × (Int32) × (Int32))
  | 0, _, _, _, _, _ => none
  | k_n + 1, v_horn_15, v_brass_16, l3_17, l4_18, l5_19 => rdA 248 v_d 0 (fun x_20 => (if (1 <<< (x_20 &&& 31)) ≤ l5_19 then J205 v_horn_15 v_brass_16 l3_17 l4_18 else jnA (fun (v_horn_21 : Int32) (v_brass_22 : Int32) (l6_23 : Int32) (l7_24 : Int32) => rdA 160 v_number (40 * p0) (fun x_25 => jnA (fun (t0_26 : Int32) => jnA (fun (t0_27 : Int32) => nmA (l3_17 + t0_27) (fun l3_28 => jnA (fun (t0_29 : Int32) => nmA (l5_19 + 1) (fun l5_30 => f_X7_voted_L56 v_d v_number p0 J205 k_n v_horn_21 v_brass_22 l3_28 t0_29 l5_30)) (fun J197 => jnA (J197 l4_18) (fun J195 => (if t0_26 = 0 then J195 else (if 0 ≤ l4_18 then J195 else J197 l5_19)))))) (fun J178 => (if t0_26 = 0 then J178 0 else J178 1))) (fun J165 => jnA (J165 0) (fun J164 => (if l6_23 = x_25 then rdA 160 v_number ((40 * p0) + 1) (fun x_31 => (if l7_24 = x_31 then J165 1 else J164)) else J164))))) (fun J130 => f_X7_voted_L78 v_d l5_19 J130 300 v_horn_15 v_brass_16 0 0 0)))
def f_X7_voted  (v_d : Nat → Int32) (v_found : Nat → Int32) (v_horn : Int32) (v_brass : Int32) (v_bitsOf : Nat → Int32) (v_sizeOf : Nat → Int32) (v_number : Nat → Int32) (p0 : Int32) (p1 : Int32) : Option ((Nat → Int32) × (Int32) × (Int32) × (Int32)) :=
  bd1 (f_X7_isSheet p0) (fun r_1 => jnA (bd2 (f_X7_finds v_found 1) (fun v_found_2 r_3 => some (v_found_2, v_horn, v_brass, r_3))) (fun J17 => (if r_1 = 0 then J17 else bd1 (f_X7_in (p1.toInt64) 0 1) (fun r_4 => (if r_4 = 0 then J17 else rdA 4 v_bitsOf p0 (fun x_5 => jnA (bd2 (f_X7_finds v_found 2) (fun v_found_6 r_7 => some (v_found_6, v_horn, v_brass, r_7))) (fun J42 => (if x_5 = 0 then J42 else rdA 4 v_sizeOf p0 (fun x_8 => (if x_8 = 2 then jnA (fun (v_horn_9 : Int32) (v_brass_10 : Int32) (l3_11 : Int32) (l4_12 : Int32) => (if p1 = 0 then some (v_found, v_horn_9, v_brass_10, l3_11) else (if 0 ≤ l4_12 then some (v_found, v_horn_9, v_brass_10, l4_12) else bd2 (f_X7_finds v_found 2) (fun v_found_13 r_14 => some (v_found_13, v_horn_9, v_brass_10, r_14))))) (fun J205 => f_X7_voted_L56 v_d v_number p0 J205 300 v_horn v_brass 0 (-1) 0) else J42))))))))))
set_option maxHeartbeats 600000 in
set_option maxRecDepth 100000 in
theorem c_X7_voted (l : Launch) (D : va_G) (cI cS : ClassId) (o : Nat → Nat) {v_d : Nat → Int32} {v_kept : Nat → Int32} {v_images : Int32} {v_found : Nat → Int32} {v_aside : Nat → Int32} {v_base : Int32} {v_at : Int32} {v_size : Int32} {v_fault : Int32} {v_opened : Int32} {v_isCold : Int32} {v_names : Nat → Int32} {v_code : Nat → Int32} {v_coded : Int32} {v_pile : Nat → Int32} {v_horn : Int32} {v_brass : Int32} {v_coldAhead : Nat → Int32} {v_which : Nat → Int32} {v_whichMany : Int32} {v_bestPass : Int32} {v_bestLive : Int32} {v_bestCode : Int32} {v_traced : Nat → Int32} {v_traceMany : Int32} {v_who : Int32} {v_bitsOf : Nat → Int32} {v_sizeOf : Nat → Int32} {v_number : Nat → Int32} {v_lifted : Nat → Int32} {p0 : Int32} {p1 : Int32} {w_found : Nat → Int32} {w_horn : Int32} {w_brass : Int32} {r_out : Int32} (h : f_X7_voted  v_d v_found v_horn v_brass v_bitsOf v_sizeOf v_number p0 p1 = some (w_found, w_horn, w_brass, r_out)) : MetI l D (tysX cI cS) St0 yX7_voted cX7_voted 9 (some .int) 4 88 [.ref (o 0), .int p0, .int p1] (pcX7 o cI v_d v_kept v_images v_found v_aside v_base v_at v_size v_fault v_opened v_isCold v_names v_code v_coded v_pile v_horn v_brass v_coldAhead v_which v_whichMany v_bestPass v_bestLive v_bestCode v_traced v_traceMany v_who v_bitsOf v_sizeOf v_number v_lifted) r_out (pcX7 o cI v_d v_kept v_images w_found v_aside v_base v_at v_size v_fault v_opened v_isCold v_names v_code v_coded v_pile w_horn w_brass v_coldAhead v_which v_whichMany v_bestPass v_bestLive v_bestCode v_traced v_traceMany v_who v_bitsOf v_sizeOf v_number v_lifted) := by
  refine Ent.metI (by decide +kernel) (Nat.le_of_ble_eq_true rfl) ?_
  intro p e s m args below meth c A ls hx hb hr hml hown hts hlocks hA hK hSt hP hD hS hl
  have hown : s.vm.findClass RX7 = some m.cls := hown
  have S : XFix p m c cX7_voted 9 s args RX7 := ⟨hx, hb, hml, hown, hts⟩
  have hl : lv_has ls 9 [(0, .ref (o 0)), (1, .int p0), (2, .int p1)] := hl
  unfold f_X7_voted at h
  refine lv_iload_n hx hb dX7_voted_0 rfl (lv_at hl 1 rfl) ?_
  obtain ⟨r_1, hc1, h⟩ := bd1_s h
  refine x_statI (As := [.int p0]) (rest := []) St0_ok S (c_X7_isSheet l D cI cS o hc1) ys_X7_isSheet wd33_3 ⟨Nat.le_of_ble_eq_true rfl, Nat.le_of_ble_eq_true rfl⟩ hK hSt hA hP hD hS rfl hl.1 rfl (Nat.le_of_ble_eq_true rfl) dX7_voted_1 (Nat.zero_le _) (Nat.zero_le _) (fun H locs hP hD hS => ?_)
  obtain ⟨J17, eJ17, h⟩ := jnA_s h
  have wJ17 : J17  = some (w_found, w_horn, w_brass, r_out) → ∀ (H : Heap) (locs : List Loc), va_P D vwCl (pcX7 o cI v_d v_kept v_images v_found v_aside v_base v_at v_size v_fault v_opened v_isCold v_names v_code v_coded v_pile v_horn v_brass v_coldAhead v_which v_whichMany v_bestPass v_bestLive v_bestCode v_traced v_traceMany v_who v_bitsOf v_sizeOf v_number v_lifted) H → va_D A (pcX7 o cI v_d v_kept v_images v_found v_aside v_base v_at v_size v_fault v_opened v_isCold v_names v_code v_coded v_pile v_horn v_brass v_coldAhead v_which v_whichMany v_bestPass v_bestLive v_bestCode v_traced v_traceMany v_who v_bitsOf v_sizeOf v_number v_lifted) → va_S A s.heap H locs → ∀ ls : Array Slot, lv_has ls 9 [(0, .ref (o 0))] → WI p l e 4 88 s m args below meth c D (tysX cI cS) A r_out (pcX7 o cI v_d v_kept v_images w_found v_aside v_base v_at v_size v_fault v_opened v_isCold v_names v_code v_coded v_pile w_horn w_brass v_coldAhead v_which v_whichMany v_bestPass v_bestLive v_bestCode v_traced v_traceMany v_who v_bitsOf v_sizeOf v_number v_lifted) H locs (F0 m 17 ls []) := by
      intro h H locs hP hD hS ls hl
      subst eJ17
      refine lv_aload_n hx hb dX7_voted_17 rfl (lv_at hl 0 rfl) ?_
      refine lv_iconst (v := 1) hx hb dX7_voted_18 (by decide) ?_
      obtain ⟨v_found_2, r_3, hc19, h⟩ := bd2_s h
      refine x_selfVi (As := [.int 1]) (rest := []) St0_ok S (c_X7_finds l D cI cS o hc19) yf_X7_finds wd6_10 ⟨Nat.le_of_ble_eq_true rfl, Nat.le_of_ble_eq_true rfl⟩ hK hSt hA hP hD hS 0 rfl rfl rfl hl.1 rfl (Nat.le_of_ble_eq_true rfl) dX7_voted_19 (Nat.zero_le _) (Nat.zero_le _) (fun H locs hP hD hS => ?_)
      cases h
      exact x_iret hx hb hr hlocks hK hP hD hS rfl rfl dX7_voted_22
  refine x_if_eq (tgt := 17) hx hb h dX7_voted_4 (by decide) (fun c4 h => ?_) (fun c4 h => ?_)
  · exact wJ17 h _ _ hP hD hS _ (lv_sub hl [0] rfl)
  · refine lv_iload_n hx hb dX7_voted_7 rfl (lv_at hl 2 rfl) ?_
    refine lv_i2l (v := (p1.toInt64)) hx hb dX7_voted_8 rfl ?_
    refine lv_lconst (v := 0) hx hb dX7_voted_9 (by decide) ?_
    refine lv_lconst (v := 1) hx hb dX7_voted_10 (by decide) ?_
    obtain ⟨r_4, hc11, h⟩ := bd1_s h
    refine x_statI (As := [.long (p1.toInt64), .long 0, .long 1]) (rest := []) St0_ok S (c_X7_in l D cI cS o hc11) ys_X7_in wd6_7 ⟨Nat.le_of_ble_eq_true rfl, Nat.le_of_ble_eq_true rfl⟩ hK hSt hA hP hD hS rfl hl.1 rfl (Nat.le_of_ble_eq_true rfl) dX7_voted_11 (Nat.zero_le _) (Nat.zero_le _) (fun H locs hP hD hS => ?_)
    refine x_if_ne (tgt := 23) hx hb h dX7_voted_14 (by decide) (fun c14 h => ?_) (fun c14 h => ?_)
    · refine lv_aload_n hx hb dX7_voted_23 rfl (lv_at hl 0 rfl) ?_
      refine gt_X7_40 S hK hP 0 rfl rfl dX7_voted_24 ?_
      refine lv_iload_n hx hb dX7_voted_27 rfl (lv_at hl 1 rfl) ?_
      refine x_ald hx hb hK hP 11 h rfl rfl dX7_voted_28 (fun x_5 ex_5 h => ?_)
      obtain ⟨J42, eJ42, h⟩ := jnA_s h
      have wJ42 : J42  = some (w_found, w_horn, w_brass, r_out) → ∀ (H : Heap) (locs : List Loc), va_P D vwCl (pcX7 o cI v_d v_kept v_images v_found v_aside v_base v_at v_size v_fault v_opened v_isCold v_names v_code v_coded v_pile v_horn v_brass v_coldAhead v_which v_whichMany v_bestPass v_bestLive v_bestCode v_traced v_traceMany v_who v_bitsOf v_sizeOf v_number v_lifted) H → va_D A (pcX7 o cI v_d v_kept v_images v_found v_aside v_base v_at v_size v_fault v_opened v_isCold v_names v_code v_coded v_pile v_horn v_brass v_coldAhead v_which v_whichMany v_bestPass v_bestLive v_bestCode v_traced v_traceMany v_who v_bitsOf v_sizeOf v_number v_lifted) → va_S A s.heap H locs → ∀ ls : Array Slot, lv_has ls 9 [(0, .ref (o 0))] → WI p l e 4 88 s m args below meth c D (tysX cI cS) A r_out (pcX7 o cI v_d v_kept v_images w_found v_aside v_base v_at v_size v_fault v_opened v_isCold v_names v_code v_coded v_pile w_horn w_brass v_coldAhead v_which v_whichMany v_bestPass v_bestLive v_bestCode v_traced v_traceMany v_who v_bitsOf v_sizeOf v_number v_lifted) H locs (F0 m 42 ls []) := by
          intro h H locs hP hD hS ls hl
          subst eJ42
          refine lv_aload_n hx hb dX7_voted_42 rfl (lv_at hl 0 rfl) ?_
          refine lv_iconst (v := 2) hx hb dX7_voted_43 (by decide) ?_
          obtain ⟨v_found_6, r_7, hc44, h⟩ := bd2_s h
          refine x_selfVi (As := [.int 2]) (rest := []) St0_ok S (c_X7_finds l D cI cS o hc44) yf_X7_finds wd6_10 ⟨Nat.le_of_ble_eq_true rfl, Nat.le_of_ble_eq_true rfl⟩ hK hSt hA hP hD hS 0 rfl rfl rfl hl.1 rfl (Nat.le_of_ble_eq_true rfl) dX7_voted_44 (Nat.zero_le _) (Nat.zero_le _) (fun H locs hP hD hS => ?_)
          cases h
          exact x_iret hx hb hr hlocks hK hP hD hS rfl rfl dX7_voted_47
      refine x_if_eq (tgt := 42) hx hb h dX7_voted_29 (by decide) (fun c29 h => ?_) (fun c29 h => ?_)
      · exact wJ42 h _ _ hP hD hS _ (lv_sub hl [0] rfl)
      · refine lv_aload_n hx hb dX7_voted_32 rfl (lv_at hl 0 rfl) ?_
        refine gt_X7_43 S hK hP 0 rfl rfl dX7_voted_33 ?_
        refine lv_iload_n hx hb dX7_voted_36 rfl (lv_at hl 1 rfl) ?_
        refine x_ald hx hb hK hP 12 h rfl rfl dX7_voted_37 (fun x_8 ex_8 h => ?_)
        refine lv_iconst (v := 2) hx hb dX7_voted_38 (by decide) ?_
        refine x_icmp_eq (tgt := 48) hx hb h dX7_voted_39 (by decide) (fun c39 h => ?_) (fun c39 h => ?_)
        · refine lv_iconst (v := 0) hx hb dX7_voted_48 (by decide) ?_
          refine lv_istore_n (lv' := [(3, .int 0), (0, .ref (o 0)), (1, .int p0), (2, .int p1)]) hx hb dX7_voted_49 rfl hl (by decide) rfl (fun ls hl => ?_)
          refine lv_iconst (v := (-1)) hx hb dX7_voted_50 (by decide) ?_
          refine lv_istore (lv' := [(4, .int (-1)), (3, .int 0), (0, .ref (o 0)), (1, .int p0), (2, .int p1)]) hx hb dX7_voted_51 hl (by decide) rfl (fun ls hl => ?_)
          refine lv_iconst (v := 0) hx hb dX7_voted_53 (by decide) ?_
          refine lv_istore (lv' := [(5, .int 0), (4, .int (-1)), (3, .int 0), (0, .ref (o 0)), (1, .int p0), (2, .int p1)]) hx hb dX7_voted_54 hl (by decide) rfl (fun ls hl => ?_)
          obtain ⟨J205, eJ205, h⟩ := jnA_s h
          have wJ205 : ∀ (v_horn_9 : Int32) (v_brass_10 : Int32) (l3_11 : Int32) (l4_12 : Int32), J205 v_horn_9 v_brass_10 l3_11 l4_12 = some (w_found, w_horn, w_brass, r_out) → ∀ (H : Heap) (locs : List Loc), va_P D vwCl (pcX7 o cI v_d v_kept v_images v_found v_aside v_base v_at v_size v_fault v_opened v_isCold v_names v_code v_coded v_pile v_horn_9 v_brass_10 v_coldAhead v_which v_whichMany v_bestPass v_bestLive v_bestCode v_traced v_traceMany v_who v_bitsOf v_sizeOf v_number v_lifted) H → va_D A (pcX7 o cI v_d v_kept v_images v_found v_aside v_base v_at v_size v_fault v_opened v_isCold v_names v_code v_coded v_pile v_horn_9 v_brass_10 v_coldAhead v_which v_whichMany v_bestPass v_bestLive v_bestCode v_traced v_traceMany v_who v_bitsOf v_sizeOf v_number v_lifted) → va_S A s.heap H locs → ∀ ls : Array Slot, lv_has ls 9 [(0, .ref (o 0)), (2, .int p1), (3, .int l3_11), (4, .int l4_12)] → WI p l e 4 88 s m args below meth c D (tysX cI cS) A r_out (pcX7 o cI v_d v_kept v_images w_found v_aside v_base v_at v_size v_fault v_opened v_isCold v_names v_code v_coded v_pile w_horn w_brass v_coldAhead v_which v_whichMany v_bestPass v_bestLive v_bestCode v_traced v_traceMany v_who v_bitsOf v_sizeOf v_number v_lifted) H locs (F0 m 205 ls []) := by
              intro v_horn_9 v_brass_10 l3_11 l4_12 h H locs hP hD hS ls hl
              subst eJ205
              dsimp only at h
              refine lv_iload_n hx hb dX7_voted_205 rfl (lv_at hl 1 rfl) ?_
              refine x_if_ne (tgt := 213) hx hb h dX7_voted_206 (by decide) (fun c206 h => ?_) (fun c206 h => ?_)
              · refine lv_iload hx hb dX7_voted_213 (lv_at hl 3 rfl) ?_
                refine x_if_ge (tgt := 226) hx hb h dX7_voted_215 (by decide) (fun c215 h => ?_) (fun c215 h => ?_)
                · refine lv_iload hx hb dX7_voted_226 (lv_at hl 3 rfl) ?_
                  cases h
                  exact x_iret hx hb hr hlocks hK hP hD hS rfl rfl dX7_voted_228
                · refine lv_aload_n hx hb dX7_voted_218 rfl (lv_at hl 0 rfl) ?_
                  refine lv_iconst (v := 2) hx hb dX7_voted_219 (by decide) ?_
                  obtain ⟨v_found_13, r_14, hc220, h⟩ := bd2_s h
                  refine x_selfVi (As := [.int 2]) (rest := []) St0_ok S (c_X7_finds l D cI cS o hc220) yf_X7_finds wd6_10 ⟨Nat.le_of_ble_eq_true rfl, Nat.le_of_ble_eq_true rfl⟩ hK hSt hA hP hD hS 0 rfl rfl rfl hl.1 rfl (Nat.le_of_ble_eq_true rfl) dX7_voted_220 (Nat.zero_le _) (Nat.zero_le _) (fun H locs hP hD hS => ?_)
                  refine lv_goto (tgt := 228) hx hb dX7_voted_223 (by decide) ?_
                  cases h
                  exact x_iret hx hb hr hlocks hK hP hD hS rfl rfl dX7_voted_228
              · refine lv_iload_n hx hb dX7_voted_209 rfl (lv_at hl 2 rfl) ?_
                refine lv_goto (tgt := 228) hx hb dX7_voted_210 (by decide) ?_
                cases h
                exact x_iret hx hb hr hlocks hK hP hD hS rfl rfl dX7_voted_228
          have wf_X7_voted_L56 : ∀ (k_n : Nat) (v_horn_15 : Int32) (v_brass_16 : Int32) (l3_17 : Int32) (l4_18 : Int32) (l5_19 : Int32), f_X7_voted_L56 v_d v_number p0 J205 k_n v_horn_15 v_brass_16 l3_17 l4_18 l5_19 = some (w_found, w_horn, w_brass, r_out) → ∀ (H : Heap) (locs : List Loc), va_P D vwCl (pcX7 o cI v_d v_kept v_images v_found v_aside v_base v_at v_size v_fault v_opened v_isCold v_names v_code v_coded v_pile v_horn_15 v_brass_16 v_coldAhead v_which v_whichMany v_bestPass v_bestLive v_bestCode v_traced v_traceMany v_who v_bitsOf v_sizeOf v_number v_lifted) H → va_D A (pcX7 o cI v_d v_kept v_images v_found v_aside v_base v_at v_size v_fault v_opened v_isCold v_names v_code v_coded v_pile v_horn_15 v_brass_16 v_coldAhead v_which v_whichMany v_bestPass v_bestLive v_bestCode v_traced v_traceMany v_who v_bitsOf v_sizeOf v_number v_lifted) → va_S A s.heap H locs → ∀ ls : Array Slot, lv_has ls 9 [(0, .ref (o 0)), (1, .int p0), (2, .int p1), (3, .int l3_17), (4, .int l4_18), (5, .int l5_19)] → WI p l e 4 88 s m args below meth c D (tysX cI cS) A r_out (pcX7 o cI v_d v_kept v_images w_found v_aside v_base v_at v_size v_fault v_opened v_isCold v_names v_code v_coded v_pile w_horn w_brass v_coldAhead v_which v_whichMany v_bestPass v_bestLive v_bestCode v_traced v_traceMany v_who v_bitsOf v_sizeOf v_number v_lifted) H locs (F0 m 56 ls []) := by
              intro k_n
              induction k_n with
              | zero => intro v_horn_15 v_brass_16 l3_17 l4_18 l5_19 h; rw [f_X7_voted_L56] at h; cases h
              | succ k_n ih =>
                intro v_horn_15 v_brass_16 l3_17 l4_18 l5_19 h H locs hP hD hS ls hl
                rw [f_X7_voted_L56] at h
                refine lv_iload hx hb dX7_voted_56 (lv_at hl 5 rfl) ?_
                refine lv_iconst (v := 1) hx hb dX7_voted_58 (by decide) ?_
                refine lv_aload_n hx hb dX7_voted_59 rfl (lv_at hl 0 rfl) ?_
                refine gt_X7_7 S hK hP 0 rfl rfl dX7_voted_60 ?_
                refine lv_iconst (v := 0) hx hb dX7_voted_63 (by decide) ?_
                refine x_ald hx hb hK hP 1 h rfl rfl dX7_voted_64 (fun x_20 ex_20 h => ?_)
                refine lv_ishl hx hb dX7_voted_65 ?_
                refine x_icmp_ge (tgt := 205) hx hb h dX7_voted_66 (by decide) (fun c66 h => ?_) (fun c66 h => ?_)
                · exact wJ205 v_horn_15 v_brass_16 l3_17 l4_18 h _ _ hP hD hS _ (lv_sub hl [0, 2, 3, 4] rfl)
                · refine lv_iconst (v := 0) hx hb dX7_voted_69 (by decide) ?_
                  refine lv_istore (lv' := [(6, .int 0), (0, .ref (o 0)), (1, .int p0), (2, .int p1), (3, .int l3_17), (4, .int l4_18), (5, .int l5_19)]) hx hb dX7_voted_70 hl (by decide) rfl (fun ls hl => ?_)
                  refine lv_iconst (v := 0) hx hb dX7_voted_72 (by decide) ?_
                  refine lv_istore (lv' := [(7, .int 0), (6, .int 0), (0, .ref (o 0)), (1, .int p0), (2, .int p1), (3, .int l3_17), (4, .int l4_18), (5, .int l5_19)]) hx hb dX7_voted_73 hl (by decide) rfl (fun ls hl => ?_)
                  refine lv_iconst (v := 0) hx hb dX7_voted_75 (by decide) ?_
                  refine lv_istore (lv' := [(8, .int 0), (7, .int 0), (6, .int 0), (0, .ref (o 0)), (1, .int p0), (2, .int p1), (3, .int l3_17), (4, .int l4_18), (5, .int l5_19)]) hx hb dX7_voted_76 hl (by decide) rfl (fun ls hl => ?_)
                  obtain ⟨J130, eJ130, h⟩ := jnA_s h
                  have wJ130 : ∀ (v_horn_21 : Int32) (v_brass_22 : Int32) (l6_23 : Int32) (l7_24 : Int32), J130 v_horn_21 v_brass_22 l6_23 l7_24 = some (w_found, w_horn, w_brass, r_out) → ∀ (H : Heap) (locs : List Loc), va_P D vwCl (pcX7 o cI v_d v_kept v_images v_found v_aside v_base v_at v_size v_fault v_opened v_isCold v_names v_code v_coded v_pile v_horn_21 v_brass_22 v_coldAhead v_which v_whichMany v_bestPass v_bestLive v_bestCode v_traced v_traceMany v_who v_bitsOf v_sizeOf v_number v_lifted) H → va_D A (pcX7 o cI v_d v_kept v_images v_found v_aside v_base v_at v_size v_fault v_opened v_isCold v_names v_code v_coded v_pile v_horn_21 v_brass_22 v_coldAhead v_which v_whichMany v_bestPass v_bestLive v_bestCode v_traced v_traceMany v_who v_bitsOf v_sizeOf v_number v_lifted) → va_S A s.heap H locs → ∀ ls : Array Slot, lv_has ls 9 [(0, .ref (o 0)), (1, .int p0), (2, .int p1), (3, .int l3_17), (4, .int l4_18), (5, .int l5_19), (6, .int l6_23), (7, .int l7_24)] → WI p l e 4 88 s m args below meth c D (tysX cI cS) A r_out (pcX7 o cI v_d v_kept v_images w_found v_aside v_base v_at v_size v_fault v_opened v_isCold v_names v_code v_coded v_pile w_horn w_brass v_coldAhead v_which v_whichMany v_bestPass v_bestLive v_bestCode v_traced v_traceMany v_who v_bitsOf v_sizeOf v_number v_lifted) H locs (F0 m 130 ls []) := by
                      intro v_horn_21 v_brass_22 l6_23 l7_24 h H locs hP hD hS ls hl
                      subst eJ130
                      dsimp only at h
                      refine lv_iload hx hb dX7_voted_130 (lv_at hl 6 rfl) ?_
                      refine lv_aload_n hx hb dX7_voted_132 rfl (lv_at hl 0 rfl) ?_
                      refine gt_X7_46 S hK hP 0 rfl rfl dX7_voted_133 ?_
                      refine lv_bipush (v := 40) hx hb dX7_voted_136 (by decide) ?_
                      refine lv_iload_n hx hb dX7_voted_138 rfl (lv_at hl 1 rfl) ?_
                      refine lv_imul hx hb dX7_voted_139 ?_
                      refine x_ald hx hb hK hP 13 h rfl rfl dX7_voted_140 (fun x_25 ex_25 h => ?_)
                      obtain ⟨J165, eJ165, h⟩ := jnA_s h
                      have wJ165 : ∀ (t0_26 : Int32), J165 t0_26 = some (w_found, w_horn, w_brass, r_out) → ∀ (H : Heap) (locs : List Loc), va_P D vwCl (pcX7 o cI v_d v_kept v_images v_found v_aside v_base v_at v_size v_fault v_opened v_isCold v_names v_code v_coded v_pile v_horn_21 v_brass_22 v_coldAhead v_which v_whichMany v_bestPass v_bestLive v_bestCode v_traced v_traceMany v_who v_bitsOf v_sizeOf v_number v_lifted) H → va_D A (pcX7 o cI v_d v_kept v_images v_found v_aside v_base v_at v_size v_fault v_opened v_isCold v_names v_code v_coded v_pile v_horn_21 v_brass_22 v_coldAhead v_which v_whichMany v_bestPass v_bestLive v_bestCode v_traced v_traceMany v_who v_bitsOf v_sizeOf v_number v_lifted) → va_S A s.heap H locs → ∀ ls : Array Slot, lv_has ls 9 [(0, .ref (o 0)), (1, .int p0), (2, .int p1), (3, .int l3_17), (4, .int l4_18), (5, .int l5_19)] → WI p l e 4 88 s m args below meth c D (tysX cI cS) A r_out (pcX7 o cI v_d v_kept v_images w_found v_aside v_base v_at v_size v_fault v_opened v_isCold v_names v_code v_coded v_pile w_horn w_brass v_coldAhead v_which v_whichMany v_bestPass v_bestLive v_bestCode v_traced v_traceMany v_who v_bitsOf v_sizeOf v_number v_lifted) H locs (F0 m 165 ls [.int t0_26]) := by
                          intro t0_26 h H locs hP hD hS ls hl
                          subst eJ165
                          dsimp only at h
                          refine lv_istore (lv' := [(8, .int t0_26), (0, .ref (o 0)), (1, .int p0), (2, .int p1), (3, .int l3_17), (4, .int l4_18), (5, .int l5_19)]) hx hb dX7_voted_165 hl (by decide) rfl (fun ls hl => ?_)
                          refine lv_iload_n hx hb dX7_voted_167 rfl (lv_at hl 4 rfl) ?_
                          refine lv_iload hx hb dX7_voted_168 (lv_at hl 0 rfl) ?_
                          obtain ⟨J178, eJ178, h⟩ := jnA_s h
                          have wJ178 : ∀ (t0_27 : Int32), J178 t0_27 = some (w_found, w_horn, w_brass, r_out) → ∀ (H : Heap) (locs : List Loc), va_P D vwCl (pcX7 o cI v_d v_kept v_images v_found v_aside v_base v_at v_size v_fault v_opened v_isCold v_names v_code v_coded v_pile v_horn_21 v_brass_22 v_coldAhead v_which v_whichMany v_bestPass v_bestLive v_bestCode v_traced v_traceMany v_who v_bitsOf v_sizeOf v_number v_lifted) H → va_D A (pcX7 o cI v_d v_kept v_images v_found v_aside v_base v_at v_size v_fault v_opened v_isCold v_names v_code v_coded v_pile v_horn_21 v_brass_22 v_coldAhead v_which v_whichMany v_bestPass v_bestLive v_bestCode v_traced v_traceMany v_who v_bitsOf v_sizeOf v_number v_lifted) → va_S A s.heap H locs → ∀ ls : Array Slot, lv_has ls 9 [(0, .ref (o 0)), (1, .int p0), (2, .int p1), (4, .int l4_18), (5, .int l5_19), (8, .int t0_26)] → WI p l e 4 88 s m args below meth c D (tysX cI cS) A r_out (pcX7 o cI v_d v_kept v_images w_found v_aside v_base v_at v_size v_fault v_opened v_isCold v_names v_code v_coded v_pile w_horn w_brass v_coldAhead v_which v_whichMany v_bestPass v_bestLive v_bestCode v_traced v_traceMany v_who v_bitsOf v_sizeOf v_number v_lifted) H locs (F0 m 178 ls [.int t0_27, .int l3_17]) := by
                              intro t0_27 h H locs hP hD hS ls hl
                              subst eJ178
                              dsimp only at h
                              refine lv_iadd hx hb dX7_voted_178 ?_
                              refine x_nm h (fun l3_28 el3_28 h => ?_)
                              refine lv_istore_n (lv' := [(3, .int l3_28), (0, .ref (o 0)), (1, .int p0), (2, .int p1), (4, .int l4_18), (5, .int l5_19), (8, .int t0_26)]) hx hb dX7_voted_179 rfl hl (by decide) rfl (fun ls hl => ?_)
                              refine lv_iload hx hb dX7_voted_180 (lv_at hl 6 rfl) ?_
                              obtain ⟨J197, eJ197, h⟩ := jnA_s h
                              have wJ197 : ∀ (t0_29 : Int32), J197 t0_29 = some (w_found, w_horn, w_brass, r_out) → ∀ (H : Heap) (locs : List Loc), va_P D vwCl (pcX7 o cI v_d v_kept v_images v_found v_aside v_base v_at v_size v_fault v_opened v_isCold v_names v_code v_coded v_pile v_horn_21 v_brass_22 v_coldAhead v_which v_whichMany v_bestPass v_bestLive v_bestCode v_traced v_traceMany v_who v_bitsOf v_sizeOf v_number v_lifted) H → va_D A (pcX7 o cI v_d v_kept v_images v_found v_aside v_base v_at v_size v_fault v_opened v_isCold v_names v_code v_coded v_pile v_horn_21 v_brass_22 v_coldAhead v_which v_whichMany v_bestPass v_bestLive v_bestCode v_traced v_traceMany v_who v_bitsOf v_sizeOf v_number v_lifted) → va_S A s.heap H locs → ∀ ls : Array Slot, lv_has ls 9 [(0, .ref (o 0)), (1, .int p0), (2, .int p1), (3, .int l3_28), (5, .int l5_19)] → WI p l e 4 88 s m args below meth c D (tysX cI cS) A r_out (pcX7 o cI v_d v_kept v_images w_found v_aside v_base v_at v_size v_fault v_opened v_isCold v_names v_code v_coded v_pile w_horn w_brass v_coldAhead v_which v_whichMany v_bestPass v_bestLive v_bestCode v_traced v_traceMany v_who v_bitsOf v_sizeOf v_number v_lifted) H locs (F0 m 197 ls [.int t0_29]) := by
                                  intro t0_29 h H locs hP hD hS ls hl
                                  subst eJ197
                                  dsimp only at h
                                  refine lv_istore (lv' := [(4, .int t0_29), (0, .ref (o 0)), (1, .int p0), (2, .int p1), (3, .int l3_28), (5, .int l5_19)]) hx hb dX7_voted_197 hl (by decide) rfl (fun ls hl => ?_)
                                  obtain ⟨l5_30, el5_30, h⟩ := nmA_s h
                                  refine lv_iinc (v := l5_30) (lv' := [(5, .int l5_30), (4, .int t0_29), (0, .ref (o 0)), (1, .int p0), (2, .int p1), (3, .int l3_28)]) hx hb dX7_voted_199 hl (k := 5) rfl (by rw [el5_30]; exact congrArg _ (by decide)) (by decide) rfl (fun ls hl => ?_)
                                  refine lv_goto (tgt := 56) hx hb dX7_voted_202 (by decide) ?_
                                  exact ih v_horn_21 v_brass_22 l3_28 t0_29 l5_30 h _ _ hP hD hS _ (lv_sub hl [2, 3, 4, 5, 1, 0] rfl)
                              obtain ⟨J195, eJ195, h⟩ := jnA_s h
                              have wJ195 : J195  = some (w_found, w_horn, w_brass, r_out) → ∀ (H : Heap) (locs : List Loc), va_P D vwCl (pcX7 o cI v_d v_kept v_images v_found v_aside v_base v_at v_size v_fault v_opened v_isCold v_names v_code v_coded v_pile v_horn_21 v_brass_22 v_coldAhead v_which v_whichMany v_bestPass v_bestLive v_bestCode v_traced v_traceMany v_who v_bitsOf v_sizeOf v_number v_lifted) H → va_D A (pcX7 o cI v_d v_kept v_images v_found v_aside v_base v_at v_size v_fault v_opened v_isCold v_names v_code v_coded v_pile v_horn_21 v_brass_22 v_coldAhead v_which v_whichMany v_bestPass v_bestLive v_bestCode v_traced v_traceMany v_who v_bitsOf v_sizeOf v_number v_lifted) → va_S A s.heap H locs → ∀ ls : Array Slot, lv_has ls 9 [(0, .ref (o 0)), (1, .int p0), (2, .int p1), (3, .int l3_28), (4, .int l4_18), (5, .int l5_19)] → WI p l e 4 88 s m args below meth c D (tysX cI cS) A r_out (pcX7 o cI v_d v_kept v_images w_found v_aside v_base v_at v_size v_fault v_opened v_isCold v_names v_code v_coded v_pile w_horn w_brass v_coldAhead v_which v_whichMany v_bestPass v_bestLive v_bestCode v_traced v_traceMany v_who v_bitsOf v_sizeOf v_number v_lifted) H locs (F0 m 195 ls []) := by
                                  intro h H locs hP hD hS ls hl
                                  subst eJ195
                                  refine lv_iload hx hb dX7_voted_195 (lv_at hl 4 rfl) ?_
                                  exact wJ197 l4_18 h _ _ hP hD hS _ (lv_sub hl [0, 1, 2, 3, 5] rfl)
                              refine x_if_eq (tgt := 195) hx hb h dX7_voted_182 (by decide) (fun c182 h => ?_) (fun c182 h => ?_)
                              · exact wJ195 h _ _ hP hD hS _ (lv_sub hl [1, 2, 3, 0, 4, 5] rfl)
                              · refine lv_iload hx hb dX7_voted_185 (lv_at hl 4 rfl) ?_
                                refine x_if_ge (tgt := 195) hx hb h dX7_voted_187 (by decide) (fun c187 h => ?_) (fun c187 h => ?_)
                                · exact wJ195 h _ _ hP hD hS _ (lv_sub hl [1, 2, 3, 0, 4, 5] rfl)
                                · refine lv_iload hx hb dX7_voted_190 (lv_at hl 5 rfl) ?_
                                  refine lv_goto (tgt := 197) hx hb dX7_voted_192 (by decide) ?_
                                  exact wJ197 l5_19 h _ _ hP hD hS _ (lv_sub hl [1, 2, 3, 0, 5] rfl)
                          refine x_if_eq (tgt := 177) hx hb h dX7_voted_170 (by decide) (fun c170 h => ?_) (fun c170 h => ?_)
                          · refine lv_iconst (v := 0) hx hb dX7_voted_177 (by decide) ?_
                            exact wJ178 0 h _ _ hP hD hS _ (lv_sub hl [1, 2, 3, 5, 6, 0] rfl)
                          · refine lv_iconst (v := 1) hx hb dX7_voted_173 (by decide) ?_
                            refine lv_goto (tgt := 178) hx hb dX7_voted_174 (by decide) ?_
                            exact wJ178 1 h _ _ hP hD hS _ (lv_sub hl [1, 2, 3, 5, 6, 0] rfl)
                      obtain ⟨J164, eJ164, h⟩ := jnA_s h
                      have wJ164 : J164  = some (w_found, w_horn, w_brass, r_out) → ∀ (H : Heap) (locs : List Loc), va_P D vwCl (pcX7 o cI v_d v_kept v_images v_found v_aside v_base v_at v_size v_fault v_opened v_isCold v_names v_code v_coded v_pile v_horn_21 v_brass_22 v_coldAhead v_which v_whichMany v_bestPass v_bestLive v_bestCode v_traced v_traceMany v_who v_bitsOf v_sizeOf v_number v_lifted) H → va_D A (pcX7 o cI v_d v_kept v_images v_found v_aside v_base v_at v_size v_fault v_opened v_isCold v_names v_code v_coded v_pile v_horn_21 v_brass_22 v_coldAhead v_which v_whichMany v_bestPass v_bestLive v_bestCode v_traced v_traceMany v_who v_bitsOf v_sizeOf v_number v_lifted) → va_S A s.heap H locs → ∀ ls : Array Slot, lv_has ls 9 [(0, .ref (o 0)), (1, .int p0), (2, .int p1), (3, .int l3_17), (4, .int l4_18), (5, .int l5_19)] → WI p l e 4 88 s m args below meth c D (tysX cI cS) A r_out (pcX7 o cI v_d v_kept v_images w_found v_aside v_base v_at v_size v_fault v_opened v_isCold v_names v_code v_coded v_pile w_horn w_brass v_coldAhead v_which v_whichMany v_bestPass v_bestLive v_bestCode v_traced v_traceMany v_who v_bitsOf v_sizeOf v_number v_lifted) H locs (F0 m 164 ls []) := by
                          intro h H locs hP hD hS ls hl
                          subst eJ164
                          refine lv_iconst (v := 0) hx hb dX7_voted_164 (by decide) ?_
                          exact wJ165 0 h _ _ hP hD hS _ (lv_sub hl [0, 1, 2, 3, 4, 5] rfl)
                      refine x_icmp_ne (tgt := 164) hx hb h dX7_voted_141 (by decide) (fun c141 h => ?_) (fun c141 h => ?_)
                      · exact wJ164 h _ _ hP hD hS _ (lv_sub hl [0, 1, 2, 3, 4, 5] rfl)
                      · refine lv_iload hx hb dX7_voted_144 (lv_at hl 7 rfl) ?_
                        refine lv_aload_n hx hb dX7_voted_146 rfl (lv_at hl 0 rfl) ?_
                        refine gt_X7_46 S hK hP 0 rfl rfl dX7_voted_147 ?_
                        refine lv_bipush (v := 40) hx hb dX7_voted_150 (by decide) ?_
                        refine lv_iload_n hx hb dX7_voted_152 rfl (lv_at hl 1 rfl) ?_
                        refine lv_imul hx hb dX7_voted_153 ?_
                        refine lv_iconst (v := 1) hx hb dX7_voted_154 (by decide) ?_
                        refine lv_iadd hx hb dX7_voted_155 ?_
                        refine x_ald hx hb hK hP 13 h rfl rfl dX7_voted_156 (fun x_31 ex_31 h => ?_)
                        refine x_icmp_ne (tgt := 164) hx hb h dX7_voted_157 (by decide) (fun c157 h => ?_) (fun c157 h => ?_)
                        · exact wJ164 h _ _ hP hD hS _ (lv_sub hl [0, 1, 2, 3, 4, 5] rfl)
                        · refine lv_iconst (v := 1) hx hb dX7_voted_160 (by decide) ?_
                          refine lv_goto (tgt := 165) hx hb dX7_voted_161 (by decide) ?_
                          exact wJ165 1 h _ _ hP hD hS _ (lv_sub hl [0, 1, 2, 3, 4, 5] rfl)
                  have wf_X7_voted_L78 : ∀ (k_n : Nat) (v_horn_32 : Int32) (v_brass_33 : Int32) (l6_34 : Int32) (l7_35 : Int32) (l8_36 : Int32), f_X7_voted_L78 v_d l5_19 J130 k_n v_horn_32 v_brass_33 l6_34 l7_35 l8_36 = some (w_found, w_horn, w_brass, r_out) → ∀ (H : Heap) (locs : List Loc), va_P D vwCl (pcX7 o cI v_d v_kept v_images v_found v_aside v_base v_at v_size v_fault v_opened v_isCold v_names v_code v_coded v_pile v_horn_32 v_brass_33 v_coldAhead v_which v_whichMany v_bestPass v_bestLive v_bestCode v_traced v_traceMany v_who v_bitsOf v_sizeOf v_number v_lifted) H → va_D A (pcX7 o cI v_d v_kept v_images v_found v_aside v_base v_at v_size v_fault v_opened v_isCold v_names v_code v_coded v_pile v_horn_32 v_brass_33 v_coldAhead v_which v_whichMany v_bestPass v_bestLive v_bestCode v_traced v_traceMany v_who v_bitsOf v_sizeOf v_number v_lifted) → va_S A s.heap H locs → ∀ ls : Array Slot, lv_has ls 9 [(0, .ref (o 0)), (1, .int p0), (2, .int p1), (3, .int l3_17), (4, .int l4_18), (5, .int l5_19), (6, .int l6_34), (7, .int l7_35), (8, .int l8_36)] → WI p l e 4 88 s m args below meth c D (tysX cI cS) A r_out (pcX7 o cI v_d v_kept v_images w_found v_aside v_base v_at v_size v_fault v_opened v_isCold v_names v_code v_coded v_pile w_horn w_brass v_coldAhead v_which v_whichMany v_bestPass v_bestLive v_bestCode v_traced v_traceMany v_who v_bitsOf v_sizeOf v_number v_lifted) H locs (F0 m 78 ls []) := by
                      intro k_n
                      induction k_n with
                      | zero => intro v_horn_32 v_brass_33 l6_34 l7_35 l8_36 h; rw [f_X7_voted_L78] at h; cases h
                      | succ k_n ih =>
                        intro v_horn_32 v_brass_33 l6_34 l7_35 l8_36 h H locs hP hD hS ls hl
                        rw [f_X7_voted_L78] at h
                        refine lv_iload hx hb dX7_voted_78 (lv_at hl 8 rfl) ?_
                        refine lv_aload_n hx hb dX7_voted_80 rfl (lv_at hl 0 rfl) ?_
                        refine gt_X7_7 S hK hP 0 rfl rfl dX7_voted_81 ?_
                        refine lv_iconst (v := 0) hx hb dX7_voted_84 (by decide) ?_
                        refine x_ald hx hb hK hP 1 h rfl rfl dX7_voted_85 (fun x_37 ex_37 h => ?_)
                        refine x_icmp_ge (tgt := 130) hx hb h dX7_voted_86 (by decide) (fun c86 h => ?_) (fun c86 h => ?_)
                        · exact wJ130 v_horn_32 v_brass_33 l6_34 l7_35 h _ _ hP hD hS _ (lv_sub hl [0, 1, 2, 3, 4, 5, 6, 7] rfl)
                        · refine lv_iload hx hb dX7_voted_89 (lv_at hl 5 rfl) ?_
                          refine lv_iload hx hb dX7_voted_91 (lv_at hl 8 rfl) ?_
                          refine lv_ishr hx hb dX7_voted_93 ?_
                          refine lv_iconst (v := 1) hx hb dX7_voted_94 (by decide) ?_
                          refine lv_iand hx hb dX7_voted_95 ?_
                          refine lv_iconst (v := 1) hx hb dX7_voted_96 (by decide) ?_
                          obtain ⟨J124, eJ124, h⟩ := jnA_s h
                          have wJ124 : ∀ (v_horn_38 : Int32) (v_brass_39 : Int32) (l6_40 : Int32) (l7_41 : Int32), J124 v_horn_38 v_brass_39 l6_40 l7_41 = some (w_found, w_horn, w_brass, r_out) → ∀ (H : Heap) (locs : List Loc), va_P D vwCl (pcX7 o cI v_d v_kept v_images v_found v_aside v_base v_at v_size v_fault v_opened v_isCold v_names v_code v_coded v_pile v_horn_38 v_brass_39 v_coldAhead v_which v_whichMany v_bestPass v_bestLive v_bestCode v_traced v_traceMany v_who v_bitsOf v_sizeOf v_number v_lifted) H → va_D A (pcX7 o cI v_d v_kept v_images v_found v_aside v_base v_at v_size v_fault v_opened v_isCold v_names v_code v_coded v_pile v_horn_38 v_brass_39 v_coldAhead v_which v_whichMany v_bestPass v_bestLive v_bestCode v_traced v_traceMany v_who v_bitsOf v_sizeOf v_number v_lifted) → va_S A s.heap H locs → ∀ ls : Array Slot, lv_has ls 9 [(0, .ref (o 0)), (1, .int p0), (2, .int p1), (3, .int l3_17), (4, .int l4_18), (5, .int l5_19), (6, .int l6_40), (7, .int l7_41), (8, .int l8_36)] → WI p l e 4 88 s m args below meth c D (tysX cI cS) A r_out (pcX7 o cI v_d v_kept v_images w_found v_aside v_base v_at v_size v_fault v_opened v_isCold v_names v_code v_coded v_pile w_horn w_brass v_coldAhead v_which v_whichMany v_bestPass v_bestLive v_bestCode v_traced v_traceMany v_who v_bitsOf v_sizeOf v_number v_lifted) H locs (F0 m 124 ls []) := by
                              intro v_horn_38 v_brass_39 l6_40 l7_41 h H locs hP hD hS ls hl
                              subst eJ124
                              dsimp only at h
                              obtain ⟨l8_42, el8_42, h⟩ := nmA_s h
                              refine lv_iinc (v := l8_42) (lv' := [(8, .int l8_42), (0, .ref (o 0)), (1, .int p0), (2, .int p1), (3, .int l3_17), (4, .int l4_18), (5, .int l5_19), (6, .int l6_40), (7, .int l7_41)]) hx hb dX7_voted_124 hl (k := 8) rfl (by rw [el8_42]; exact congrArg _ (by decide)) (by decide) rfl (fun ls hl => ?_)
                              refine lv_goto (tgt := 78) hx hb dX7_voted_127 (by decide) ?_
                              exact ih v_horn_38 v_brass_39 l6_40 l7_41 l8_42 h _ _ hP hD hS _ (lv_sub hl [1, 2, 3, 4, 5, 6, 7, 8, 0] rfl)
                          refine x_icmp_ne (tgt := 124) hx hb h dX7_voted_97 (by decide) (fun c97 h => ?_) (fun c97 h => ?_)
                          · exact wJ124 v_horn_32 v_brass_33 l6_34 l7_35 h _ _ hP hD hS _ (lv_sub hl [0, 1, 2, 3, 4, 5, 6, 7, 8] rfl)
                          · refine lv_aload_n hx hb dX7_voted_100 rfl (lv_at hl 0 rfl) ?_
                            refine lv_iload hx hb dX7_voted_101 (lv_at hl 8 rfl) ?_
                            obtain ⟨v_horn_43, v_brass_44, hc103, h⟩ := bd2_s h
                            refine x_selfVv (As := [.int l8_36]) (rest := []) St0_ok S (c_X7_cuts l D cI cS o hc103) yf_X7_cuts wd10_19 ⟨Nat.le_of_ble_eq_true rfl, Nat.le_of_ble_eq_true rfl⟩ hK hSt hA hP hD hS 0 rfl rfl rfl hl.1 rfl (Nat.le_of_ble_eq_true rfl) dX7_voted_103 (Nat.zero_le _) (Nat.zero_le _) (fun H locs hP hD hS => ?_)
                            refine lv_iload hx hb dX7_voted_106 (lv_at hl 6 rfl) ?_
                            refine lv_aload_n hx hb dX7_voted_108 rfl (lv_at hl 0 rfl) ?_
                            refine gt_X7_156 S hK hP 0 rfl rfl dX7_voted_109 ?_
                            refine lv_iadd hx hb dX7_voted_112 ?_
                            refine x_nm h (fun l6_45 el6_45 h => ?_)
                            refine lv_istore (lv' := [(6, .int l6_45), (0, .ref (o 0)), (1, .int p0), (2, .int p1), (3, .int l3_17), (4, .int l4_18), (5, .int l5_19), (7, .int l7_35), (8, .int l8_36)]) hx hb dX7_voted_113 hl (by decide) rfl (fun ls hl => ?_)
                            refine lv_iload hx hb dX7_voted_115 (lv_at hl 7 rfl) ?_
                            refine lv_aload_n hx hb dX7_voted_117 rfl (lv_at hl 1 rfl) ?_
                            refine gt_X7_159 S hK hP 0 rfl rfl dX7_voted_118 ?_
                            refine lv_iadd hx hb dX7_voted_121 ?_
                            refine x_nm h (fun l7_46 el7_46 h => ?_)
                            refine lv_istore (lv' := [(7, .int l7_46), (6, .int l6_45), (0, .ref (o 0)), (1, .int p0), (2, .int p1), (3, .int l3_17), (4, .int l4_18), (5, .int l5_19), (8, .int l8_36)]) hx hb dX7_voted_122 hl (by decide) rfl (fun ls hl => ?_)
                            exact wJ124 v_horn_43 v_brass_44 l6_45 l7_46 h _ _ hP hD hS _ (lv_sub hl [2, 3, 4, 5, 6, 7, 1, 0, 8] rfl)
                  exact wf_X7_voted_L78 300 v_horn_15 v_brass_16 0 0 0 h _ _ hP hD hS _ (lv_sub hl [3, 4, 5, 6, 7, 8, 2, 1, 0] rfl)
          exact wf_X7_voted_L56 300 v_horn v_brass 0 (-1) 0 h _ _ hP hD hS _ (lv_sub hl [3, 4, 5, 2, 1, 0] rfl)
        · exact wJ42 h _ _ hP hD hS _ (lv_sub hl [0] rfl)
    · exact wJ17 h _ _ hP hD hS _ (lv_sub hl [0] rfl)

def f_X7_harder_L25 (v_found : Nat → Int32) (p0 : Int32) (r_2 : Int32) : Nat → (Nat → Int32) → (Nat → Int32) → (Nat → Int32) → (Nat → Int32) → Int32 → Option ((Nat → Int32) × (Nat → Int32) × (Nat → Int32) × (Nat → Int32) × (Nat → Int32) × (Int32))
  | 0, _, _, _, _, _ => none
  | k_n + 1, v_d_3, v_aside_4, v_names_5, v_pile_6, l3_7 => (if 9 < l3_7 then bd2 (f_X7_finds v_found 2) (fun v_found_8 r_9 => some (v_d_3, v_found_8, v_aside_4, v_names_5, v_pile_6, r_9)) else bd1 (f_X7_keepAside v_d_3 v_aside_4) (fun v_aside_10 => wrA 248 v_d_3 5 l3_7 (fun v_d_11 => bd3 (f_X7_daysGo v_d_11 v_names_5 v_pile_6 p0) (fun v_d_12 v_names_13 v_pile_14 => bd1 (f_X7_aliveSet v_d_12) (fun r_15 => bd1 (f_X7_putBack v_d_12 v_aside_10) (fun v_d_16 => (if r_15 = r_2 then nmA (l3_7 + 1) (fun l3_17 => f_X7_harder_L25 v_found p0 r_2 k_n v_d_16 v_aside_10 v_names_13 v_pile_14 l3_17) else some (v_d_16, v_found, v_aside_10, v_names_13, v_pile_14, l3_7))))))))
def f_X7_harder  (v_d : Nat → Int32) (v_found : Nat → Int32) (v_aside : Nat → Int32) (v_names : Nat → Int32) (v_pile : Nat → Int32) (p0 : Int32) : Option ((Nat → Int32) × (Nat → Int32) × (Nat → Int32) × (Nat → Int32) × (Nat → Int32) × (Int32)) :=
  bd1 (f_X7_in (p0.toInt64) 0 60) (fun r_1 => (if r_1 = 0 then bd2 (f_X7_finds v_found 1) (fun v_found_18 r_19 => some (v_d, v_found_18, v_aside, v_names, v_pile, r_19)) else bd1 (f_X7_aliveSet v_d) (fun r_2 => f_X7_harder_L25 v_found p0 r_2 300 v_d v_aside v_names v_pile 0)))
set_option maxHeartbeats 600000 in
set_option maxRecDepth 100000 in
theorem c_X7_harder (l : Launch) (D : va_G) (cI cS : ClassId) (o : Nat → Nat) {v_d : Nat → Int32} {v_kept : Nat → Int32} {v_images : Int32} {v_found : Nat → Int32} {v_aside : Nat → Int32} {v_base : Int32} {v_at : Int32} {v_size : Int32} {v_fault : Int32} {v_opened : Int32} {v_isCold : Int32} {v_names : Nat → Int32} {v_code : Nat → Int32} {v_coded : Int32} {v_pile : Nat → Int32} {v_horn : Int32} {v_brass : Int32} {v_coldAhead : Nat → Int32} {v_which : Nat → Int32} {v_whichMany : Int32} {v_bestPass : Int32} {v_bestLive : Int32} {v_bestCode : Int32} {v_traced : Nat → Int32} {v_traceMany : Int32} {v_who : Int32} {v_bitsOf : Nat → Int32} {v_sizeOf : Nat → Int32} {v_number : Nat → Int32} {v_lifted : Nat → Int32} {p0 : Int32} {w_d : Nat → Int32} {w_found : Nat → Int32} {w_aside : Nat → Int32} {w_names : Nat → Int32} {w_pile : Nat → Int32} {r_out : Int32} (h : f_X7_harder  v_d v_found v_aside v_names v_pile p0 = some (w_d, w_found, w_aside, w_names, w_pile, r_out)) : MetI l D (tysX cI cS) St0 yX7_harder cX7_harder 5 (some .int) 6 141 [.ref (o 0), .int p0] (pcX7 o cI v_d v_kept v_images v_found v_aside v_base v_at v_size v_fault v_opened v_isCold v_names v_code v_coded v_pile v_horn v_brass v_coldAhead v_which v_whichMany v_bestPass v_bestLive v_bestCode v_traced v_traceMany v_who v_bitsOf v_sizeOf v_number v_lifted) r_out (pcX7 o cI w_d v_kept v_images w_found w_aside v_base v_at v_size v_fault v_opened v_isCold w_names v_code v_coded w_pile v_horn v_brass v_coldAhead v_which v_whichMany v_bestPass v_bestLive v_bestCode v_traced v_traceMany v_who v_bitsOf v_sizeOf v_number v_lifted) := by
  refine Ent.metI (by decide +kernel) (Nat.le_of_ble_eq_true rfl) ?_
  intro p e s m args below meth c A ls hx hb hr hml hown hts hlocks hA hK hSt hP hD hS hl
  have hown : s.vm.findClass RX7 = some m.cls := hown
  have S : XFix p m c cX7_harder 5 s args RX7 := ⟨hx, hb, hml, hown, hts⟩
  have hl : lv_has ls 5 [(0, .ref (o 0)), (1, .int p0)] := hl
  unfold f_X7_harder at h
  refine lv_iload_n hx hb dX7_harder_0 rfl (lv_at hl 1 rfl) ?_
  refine lv_i2l (v := (p0.toInt64)) hx hb dX7_harder_1 rfl ?_
  refine lv_lconst (v := 0) hx hb dX7_harder_2 (by decide) ?_
  refine lv_ldc2 (v := 60) hx hb hown (hts _ wd26_4) dX7_harder_3 ?_
  obtain ⟨r_1, hc6, h⟩ := bd1_s h
  refine x_statI (As := [.long (p0.toInt64), .long 0, .long 60]) (rest := []) St0_ok S (c_X7_in l D cI cS o hc6) ys_X7_in wd6_7 ⟨Nat.le_of_ble_eq_true rfl, Nat.le_of_ble_eq_true rfl⟩ hK hSt hA hP hD hS rfl hl.1 rfl (Nat.le_of_ble_eq_true rfl) dX7_harder_6 (Nat.zero_le _) (Nat.zero_le _) (fun H locs hP hD hS => ?_)
  refine x_if_ne (tgt := 18) hx hb h dX7_harder_9 (by decide) (fun c9 h => ?_) (fun c9 h => ?_)
  · refine lv_aload_n hx hb dX7_harder_18 rfl (lv_at hl 0 rfl) ?_
    obtain ⟨r_2, hc19, h⟩ := bd1_s h
    refine x_selfVi (As := []) (rest := []) St0_ok S (c_X7_aliveSet l D cI cS o hc19) yf_X7_aliveSet wd28_13 ⟨Nat.le_of_ble_eq_true rfl, Nat.le_of_ble_eq_true rfl⟩ hK hSt hA hP hD hS 0 rfl rfl rfl hl.1 rfl (Nat.le_of_ble_eq_true rfl) dX7_harder_19 (Nat.zero_le _) (Nat.zero_le _) (fun H locs hP hD hS => ?_)
    refine lv_istore_n (lv' := [(2, .int r_2), (0, .ref (o 0)), (1, .int p0)]) hx hb dX7_harder_22 rfl hl (by decide) rfl (fun ls hl => ?_)
    refine lv_iconst (v := 0) hx hb dX7_harder_23 (by decide) ?_
    refine lv_istore_n (lv' := [(3, .int 0), (2, .int r_2), (0, .ref (o 0)), (1, .int p0)]) hx hb dX7_harder_24 rfl hl (by decide) rfl (fun ls hl => ?_)
    have wf_X7_harder_L25 : ∀ (k_n : Nat) (v_d_3 : Nat → Int32) (v_aside_4 : Nat → Int32) (v_names_5 : Nat → Int32) (v_pile_6 : Nat → Int32) (l3_7 : Int32), f_X7_harder_L25 v_found p0 r_2 k_n v_d_3 v_aside_4 v_names_5 v_pile_6 l3_7 = some (w_d, w_found, w_aside, w_names, w_pile, r_out) → ∀ (H : Heap) (locs : List Loc), va_P D vwCl (pcX7 o cI v_d_3 v_kept v_images v_found v_aside_4 v_base v_at v_size v_fault v_opened v_isCold v_names_5 v_code v_coded v_pile_6 v_horn v_brass v_coldAhead v_which v_whichMany v_bestPass v_bestLive v_bestCode v_traced v_traceMany v_who v_bitsOf v_sizeOf v_number v_lifted) H → va_D A (pcX7 o cI v_d_3 v_kept v_images v_found v_aside_4 v_base v_at v_size v_fault v_opened v_isCold v_names_5 v_code v_coded v_pile_6 v_horn v_brass v_coldAhead v_which v_whichMany v_bestPass v_bestLive v_bestCode v_traced v_traceMany v_who v_bitsOf v_sizeOf v_number v_lifted) → va_S A s.heap H locs → ∀ ls : Array Slot, lv_has ls 5 [(0, .ref (o 0)), (1, .int p0), (2, .int r_2), (3, .int l3_7)] → WI p l e 6 141 s m args below meth c D (tysX cI cS) A r_out (pcX7 o cI w_d v_kept v_images w_found w_aside v_base v_at v_size v_fault v_opened v_isCold w_names v_code v_coded w_pile v_horn v_brass v_coldAhead v_which v_whichMany v_bestPass v_bestLive v_bestCode v_traced v_traceMany v_who v_bitsOf v_sizeOf v_number v_lifted) H locs (F0 m 25 ls []) := by
        intro k_n
        induction k_n with
        | zero => intro v_d_3 v_aside_4 v_names_5 v_pile_6 l3_7 h; rw [f_X7_harder_L25] at h; cases h
        | succ k_n ih =>
          intro v_d_3 v_aside_4 v_names_5 v_pile_6 l3_7 h H locs hP hD hS ls hl
          rw [f_X7_harder_L25] at h
          refine lv_iload_n hx hb dX7_harder_25 rfl (lv_at hl 3 rfl) ?_
          refine lv_bipush (v := 9) hx hb dX7_harder_26 (by decide) ?_
          refine x_icmp_gt (tgt := 71) hx hb h dX7_harder_28 (by decide) (fun c28 h => ?_) (fun c28 h => ?_)
          · refine lv_aload_n hx hb dX7_harder_71 rfl (lv_at hl 0 rfl) ?_
            refine lv_iconst (v := 2) hx hb dX7_harder_72 (by decide) ?_
            obtain ⟨v_found_8, r_9, hc73, h⟩ := bd2_s h
            refine x_selfVi (As := [.int 2]) (rest := []) St0_ok S (c_X7_finds l D cI cS o hc73) yf_X7_finds wd6_10 ⟨Nat.le_of_ble_eq_true rfl, Nat.le_of_ble_eq_true rfl⟩ hK hSt hA hP hD hS 0 rfl rfl rfl hl.1 rfl (Nat.le_of_ble_eq_true rfl) dX7_harder_73 (Nat.zero_le _) (Nat.zero_le _) (fun H locs hP hD hS => ?_)
            cases h
            exact x_iret hx hb hr hlocks hK hP hD hS rfl rfl dX7_harder_76
          · refine lv_aload_n hx hb dX7_harder_31 rfl (lv_at hl 0 rfl) ?_
            obtain ⟨v_aside_10, hc32, h⟩ := bd1_s h
            refine x_selfVv (As := []) (rest := []) St0_ok S (c_X7_keepAside l D cI cS o hc32) yf_X7_keepAside wd28_9 ⟨Nat.le_of_ble_eq_true rfl, Nat.le_of_ble_eq_true rfl⟩ hK hSt hA hP hD hS 0 rfl rfl rfl hl.1 rfl (Nat.le_of_ble_eq_true rfl) dX7_harder_32 (Nat.zero_le _) (Nat.zero_le _) (fun H locs hP hD hS => ?_)
            refine lv_aload_n hx hb dX7_harder_35 rfl (lv_at hl 0 rfl) ?_
            refine gt_X7_7 S hK hP 0 rfl rfl dX7_harder_36 ?_
            refine lv_iconst (v := 5) hx hb dX7_harder_39 (by decide) ?_
            refine lv_iload_n hx hb dX7_harder_40 rfl (lv_at hl 3 rfl) ?_
            refine x_ast hx hb hK hP hD hS 1 h rfl rfl dX7_harder_41 (fun v_d_11 ev_d_11 h H locs hP hD hS => ?_)
            have hP : va_P D vwCl (pcX7 o cI v_d_11 v_kept v_images v_found v_aside_10 v_base v_at v_size v_fault v_opened v_isCold v_names_5 v_code v_coded v_pile_6 v_horn v_brass v_coldAhead v_which v_whichMany v_bestPass v_bestLive v_bestCode v_traced v_traceMany v_who v_bitsOf v_sizeOf v_number v_lifted) H := hP
            have hD : va_D A (pcX7 o cI v_d_11 v_kept v_images v_found v_aside_10 v_base v_at v_size v_fault v_opened v_isCold v_names_5 v_code v_coded v_pile_6 v_horn v_brass v_coldAhead v_which v_whichMany v_bestPass v_bestLive v_bestCode v_traced v_traceMany v_who v_bitsOf v_sizeOf v_number v_lifted) := hD
            refine lv_aload_n hx hb dX7_harder_42 rfl (lv_at hl 0 rfl) ?_
            refine lv_iload_n hx hb dX7_harder_43 rfl (lv_at hl 1 rfl) ?_
            obtain ⟨v_d_12, v_names_13, v_pile_14, hc44, h⟩ := bd3_s h
            refine x_selfVv (As := [.int p0]) (rest := []) St0_ok S (c_X7_daysGo l D cI cS o hc44) yf_X7_daysGo wd26_5 ⟨Nat.le_of_ble_eq_true rfl, Nat.le_of_ble_eq_true rfl⟩ hK hSt hA hP hD hS 0 rfl rfl rfl hl.1 rfl (Nat.le_of_ble_eq_true rfl) dX7_harder_44 (Nat.zero_le _) (Nat.zero_le _) (fun H locs hP hD hS => ?_)
            refine lv_aload_n hx hb dX7_harder_47 rfl (lv_at hl 0 rfl) ?_
            obtain ⟨r_15, hc48, h⟩ := bd1_s h
            refine x_selfVi (As := []) (rest := []) St0_ok S (c_X7_aliveSet l D cI cS o hc48) yf_X7_aliveSet wd28_13 ⟨Nat.le_of_ble_eq_true rfl, Nat.le_of_ble_eq_true rfl⟩ hK hSt hA hP hD hS 0 rfl rfl rfl hl.1 rfl (Nat.le_of_ble_eq_true rfl) dX7_harder_48 (Nat.zero_le _) (Nat.zero_le _) (fun H locs hP hD hS => ?_)
            refine lv_istore (lv' := [(4, .int r_15), (0, .ref (o 0)), (1, .int p0), (2, .int r_2), (3, .int l3_7)]) hx hb dX7_harder_51 hl (by decide) rfl (fun ls hl => ?_)
            refine lv_aload_n hx hb dX7_harder_53 rfl (lv_at hl 1 rfl) ?_
            obtain ⟨v_d_16, hc54, h⟩ := bd1_s h
            refine x_selfVv (As := []) (rest := []) St0_ok S (c_X7_putBack l D cI cS o hc54) yf_X7_putBack wd28_17 ⟨Nat.le_of_ble_eq_true rfl, Nat.le_of_ble_eq_true rfl⟩ hK hSt hA hP hD hS 0 rfl rfl rfl hl.1 rfl (Nat.le_of_ble_eq_true rfl) dX7_harder_54 (Nat.zero_le _) (Nat.zero_le _) (fun H locs hP hD hS => ?_)
            refine lv_iload hx hb dX7_harder_57 (lv_at hl 0 rfl) ?_
            refine lv_iload_n hx hb dX7_harder_59 rfl (lv_at hl 3 rfl) ?_
            refine x_icmp_eq (tgt := 65) hx hb h dX7_harder_60 (by decide) (fun c60 h => ?_) (fun c60 h => ?_)
            · obtain ⟨l3_17, el3_17, h⟩ := nmA_s h
              refine lv_iinc (v := l3_17) (lv' := [(3, .int l3_17), (4, .int r_15), (0, .ref (o 0)), (1, .int p0), (2, .int r_2)]) hx hb dX7_harder_65 hl (k := 4) rfl (by rw [el3_17]; exact congrArg _ (by decide)) (by decide) rfl (fun ls hl => ?_)
              refine lv_goto (tgt := 25) hx hb dX7_harder_68 (by decide) ?_
              exact ih v_d_16 v_aside_10 v_names_13 v_pile_14 l3_17 h _ _ hP hD hS _ (lv_sub hl [2, 3, 4, 0] rfl)
            · refine lv_iload_n hx hb dX7_harder_63 rfl (lv_at hl 4 rfl) ?_
              cases h
              exact x_iret hx hb hr hlocks hK hP hD hS rfl rfl dX7_harder_64
    exact wf_X7_harder_L25 300 v_d v_aside v_names v_pile 0 h _ _ hP hD hS _ (lv_sub hl [2, 3, 1, 0] rfl)
  · refine lv_aload_n hx hb dX7_harder_12 rfl (lv_at hl 0 rfl) ?_
    refine lv_iconst (v := 1) hx hb dX7_harder_13 (by decide) ?_
    obtain ⟨v_found_18, r_19, hc14, h⟩ := bd2_s h
    refine x_selfVi (As := [.int 1]) (rest := []) St0_ok S (c_X7_finds l D cI cS o hc14) yf_X7_finds wd6_10 ⟨Nat.le_of_ble_eq_true rfl, Nat.le_of_ble_eq_true rfl⟩ hK hSt hA hP hD hS 0 rfl rfl rfl hl.1 rfl (Nat.le_of_ble_eq_true rfl) dX7_harder_14 (Nat.zero_le _) (Nat.zero_le _) (fun H locs hP hD hS => ?_)
    cases h
    exact x_iret hx hb hr hlocks hK hP hD hS rfl rfl dX7_harder_17

def f_X7_seed  (v_d : Nat → Int32) (p0 : Int32) : Option ((Nat → Int32) × (Int32)) :=
  rdA 248 v_d 7 (fun x_1 => wrA 248 v_d 7 p0 (fun v_d_2 => some (v_d_2, x_1)))
set_option maxHeartbeats 600000 in
set_option maxRecDepth 100000 in
theorem c_X7_seed (l : Launch) (D : va_G) (cI cS : ClassId) (o : Nat → Nat) {v_d : Nat → Int32} {v_kept : Nat → Int32} {v_images : Int32} {v_found : Nat → Int32} {v_aside : Nat → Int32} {v_base : Int32} {v_at : Int32} {v_size : Int32} {v_fault : Int32} {v_opened : Int32} {v_isCold : Int32} {v_names : Nat → Int32} {v_code : Nat → Int32} {v_coded : Int32} {v_pile : Nat → Int32} {v_horn : Int32} {v_brass : Int32} {v_coldAhead : Nat → Int32} {v_which : Nat → Int32} {v_whichMany : Int32} {v_bestPass : Int32} {v_bestLive : Int32} {v_bestCode : Int32} {v_traced : Nat → Int32} {v_traceMany : Int32} {v_who : Int32} {v_bitsOf : Nat → Int32} {v_sizeOf : Nat → Int32} {v_number : Nat → Int32} {v_lifted : Nat → Int32} {p0 : Int32} {w_d : Nat → Int32} {r_out : Int32} (h : f_X7_seed  v_d p0 = some (w_d, r_out)) : MetI l D (tysX cI cS) St0 yX7_seed cX7_seed 3 (some .int) 0 0 [.ref (o 0), .int p0] (pcX7 o cI v_d v_kept v_images v_found v_aside v_base v_at v_size v_fault v_opened v_isCold v_names v_code v_coded v_pile v_horn v_brass v_coldAhead v_which v_whichMany v_bestPass v_bestLive v_bestCode v_traced v_traceMany v_who v_bitsOf v_sizeOf v_number v_lifted) r_out (pcX7 o cI w_d v_kept v_images v_found v_aside v_base v_at v_size v_fault v_opened v_isCold v_names v_code v_coded v_pile v_horn v_brass v_coldAhead v_which v_whichMany v_bestPass v_bestLive v_bestCode v_traced v_traceMany v_who v_bitsOf v_sizeOf v_number v_lifted) := by
  refine Ent.metI (by decide +kernel) (Nat.le_of_ble_eq_true rfl) ?_
  intro p e s m args below meth c A ls hx hb hr hml hown hts hlocks hA hK hSt hP hD hS hl
  have hown : s.vm.findClass RX7 = some m.cls := hown
  have S : XFix p m c cX7_seed 3 s args RX7 := ⟨hx, hb, hml, hown, hts⟩
  have hl : lv_has ls 3 [(0, .ref (o 0)), (1, .int p0)] := hl
  unfold f_X7_seed at h
  refine lv_aload_n hx hb dX7_seed_0 rfl (lv_at hl 0 rfl) ?_
  refine gt_X7_7 S hK hP 0 rfl rfl dX7_seed_1 ?_
  refine lv_bipush (v := 7) hx hb dX7_seed_4 (by decide) ?_
  refine x_ald hx hb hK hP 1 h rfl rfl dX7_seed_6 (fun x_1 ex_1 h => ?_)
  refine lv_istore_n (lv' := [(2, .int x_1), (0, .ref (o 0)), (1, .int p0)]) hx hb dX7_seed_7 rfl hl (by decide) rfl (fun ls hl => ?_)
  refine lv_aload_n hx hb dX7_seed_8 rfl (lv_at hl 1 rfl) ?_
  refine gt_X7_7 S hK hP 0 rfl rfl dX7_seed_9 ?_
  refine lv_bipush (v := 7) hx hb dX7_seed_12 (by decide) ?_
  refine lv_iload_n hx hb dX7_seed_14 rfl (lv_at hl 2 rfl) ?_
  refine x_ast hx hb hK hP hD hS 1 h rfl rfl dX7_seed_15 (fun v_d_2 ev_d_2 h H locs hP hD hS => ?_)
  have hP : va_P D vwCl (pcX7 o cI v_d_2 v_kept v_images v_found v_aside v_base v_at v_size v_fault v_opened v_isCold v_names v_code v_coded v_pile v_horn v_brass v_coldAhead v_which v_whichMany v_bestPass v_bestLive v_bestCode v_traced v_traceMany v_who v_bitsOf v_sizeOf v_number v_lifted) H := hP
  have hD : va_D A (pcX7 o cI v_d_2 v_kept v_images v_found v_aside v_base v_at v_size v_fault v_opened v_isCold v_names v_code v_coded v_pile v_horn v_brass v_coldAhead v_which v_whichMany v_bestPass v_bestLive v_bestCode v_traced v_traceMany v_who v_bitsOf v_sizeOf v_number v_lifted) := hD
  refine lv_iload_n hx hb dX7_seed_16 rfl (lv_at hl 0 rfl) ?_
  cases h
  exact x_iret hx hb hr hlocks hK hP hD hS rfl rfl dX7_seed_17

def f_X7_ran  (v_traced : Nat → Int32) (v_traceMany : Int32) (p0 : Int32) : Option ((Nat → Int32) × (Int32)) :=
  (if 40 ≤ v_traceMany then some (v_traced, v_traceMany) else wrA 40 v_traced v_traceMany p0 (fun v_traced_1 => nmA (v_traceMany + 1) (fun v_traceMany_2 => some (v_traced_1, v_traceMany_2))))
set_option maxHeartbeats 600000 in
set_option maxRecDepth 100000 in
theorem c_X7_ran (l : Launch) (D : va_G) (cI cS : ClassId) (o : Nat → Nat) {v_d : Nat → Int32} {v_kept : Nat → Int32} {v_images : Int32} {v_found : Nat → Int32} {v_aside : Nat → Int32} {v_base : Int32} {v_at : Int32} {v_size : Int32} {v_fault : Int32} {v_opened : Int32} {v_isCold : Int32} {v_names : Nat → Int32} {v_code : Nat → Int32} {v_coded : Int32} {v_pile : Nat → Int32} {v_horn : Int32} {v_brass : Int32} {v_coldAhead : Nat → Int32} {v_which : Nat → Int32} {v_whichMany : Int32} {v_bestPass : Int32} {v_bestLive : Int32} {v_bestCode : Int32} {v_traced : Nat → Int32} {v_traceMany : Int32} {v_who : Int32} {v_bitsOf : Nat → Int32} {v_sizeOf : Nat → Int32} {v_number : Nat → Int32} {v_lifted : Nat → Int32} {p0 : Int32} {w_traced : Nat → Int32} {w_traceMany : Int32} (h : f_X7_ran  v_traced v_traceMany p0 = some (w_traced, w_traceMany)) : MetV l D (tysX cI cS) St0 yX7_ran cX7_ran 2 none 0 0 [.ref (o 0), .int p0] (pcX7 o cI v_d v_kept v_images v_found v_aside v_base v_at v_size v_fault v_opened v_isCold v_names v_code v_coded v_pile v_horn v_brass v_coldAhead v_which v_whichMany v_bestPass v_bestLive v_bestCode v_traced v_traceMany v_who v_bitsOf v_sizeOf v_number v_lifted) (pcX7 o cI v_d v_kept v_images v_found v_aside v_base v_at v_size v_fault v_opened v_isCold v_names v_code v_coded v_pile v_horn v_brass v_coldAhead v_which v_whichMany v_bestPass v_bestLive v_bestCode w_traced w_traceMany v_who v_bitsOf v_sizeOf v_number v_lifted) := by
  refine Ent.metV (by decide +kernel) (Nat.le_of_ble_eq_true rfl) ?_
  intro p e s m args below meth c A ls hx hb hr hml hown hts hlocks hA hK hSt hP hD hS hl
  have hown : s.vm.findClass RX7 = some m.cls := hown
  have S : XFix p m c cX7_ran 2 s args RX7 := ⟨hx, hb, hml, hown, hts⟩
  have hl : lv_has ls 2 [(0, .ref (o 0)), (1, .int p0)] := hl
  unfold f_X7_ran at h
  refine lv_aload_n hx hb dX7_ran_0 rfl (lv_at hl 0 rfl) ?_
  refine gt_X7_276 S hK hP 0 rfl rfl dX7_ran_1 ?_
  refine lv_bipush (v := 40) hx hb dX7_ran_4 (by decide) ?_
  refine x_icmp_ge (tgt := 29) hx hb h dX7_ran_6 (by decide) (fun c6 h => ?_) (fun c6 h => ?_)
  · cases h
    exact x_vret hx hb hr hlocks hK hP hD hS rfl dX7_ran_29
  · refine lv_aload_n hx hb dX7_ran_9 rfl (lv_at hl 0 rfl) ?_
    refine gt_X7_37 S hK hP 0 rfl rfl dX7_ran_10 ?_
    refine lv_aload_n hx hb dX7_ran_13 rfl (lv_at hl 0 rfl) ?_
    refine gt_X7_276 S hK hP 0 rfl rfl dX7_ran_14 ?_
    refine lv_iload_n hx hb dX7_ran_17 rfl (lv_at hl 1 rfl) ?_
    refine x_ast hx hb hK hP hD hS 10 h rfl rfl dX7_ran_18 (fun v_traced_1 ev_traced_1 h H locs hP hD hS => ?_)
    have hP : va_P D vwCl (pcX7 o cI v_d v_kept v_images v_found v_aside v_base v_at v_size v_fault v_opened v_isCold v_names v_code v_coded v_pile v_horn v_brass v_coldAhead v_which v_whichMany v_bestPass v_bestLive v_bestCode v_traced_1 v_traceMany v_who v_bitsOf v_sizeOf v_number v_lifted) H := hP
    have hD : va_D A (pcX7 o cI v_d v_kept v_images v_found v_aside v_base v_at v_size v_fault v_opened v_isCold v_names v_code v_coded v_pile v_horn v_brass v_coldAhead v_which v_whichMany v_bestPass v_bestLive v_bestCode v_traced_1 v_traceMany v_who v_bitsOf v_sizeOf v_number v_lifted) := hD
    refine lv_aload_n hx hb dX7_ran_19 rfl (lv_at hl 0 rfl) ?_
    refine lv_dup hx hb dX7_ran_20 rfl ?_
    refine gt_X7_276 S hK hP 0 rfl rfl dX7_ran_21 ?_
    refine lv_iconst (v := 1) hx hb dX7_ran_24 (by decide) ?_
    refine lv_iadd hx hb dX7_ran_25 ?_
    refine x_nm h (fun v_traceMany_2 ev_traceMany_2 h => ?_)
    refine pt_X7_276 S hK hP hD hS 0 rfl (Nat.le_of_ble_eq_true rfl) dX7_ran_26 (fun H locs hP hD hS => ?_)
    have hP : va_P D vwCl (pcX7 o cI v_d v_kept v_images v_found v_aside v_base v_at v_size v_fault v_opened v_isCold v_names v_code v_coded v_pile v_horn v_brass v_coldAhead v_which v_whichMany v_bestPass v_bestLive v_bestCode v_traced_1 v_traceMany_2 v_who v_bitsOf v_sizeOf v_number v_lifted) H := hP
    have hD : va_D A (pcX7 o cI v_d v_kept v_images v_found v_aside v_base v_at v_size v_fault v_opened v_isCold v_names v_code v_coded v_pile v_horn v_brass v_coldAhead v_which v_whichMany v_bestPass v_bestLive v_bestCode v_traced_1 v_traceMany_2 v_who v_bitsOf v_sizeOf v_number v_lifted) := hD
    cases h
    exact x_vret hx hb hr hlocks hK hP hD hS rfl dX7_ran_29

def f_X7_trace  (v_found : Nat → Int32) (v_traced : Nat → Int32) (v_traceMany : Int32) (p0 : Int32) : Option ((Nat → Int32) × (Int32)) :=
  bd1 (f_X7_in (p0.toInt64) 0 ((v_traceMany - 1).toInt64)) (fun r_1 => (if r_1 = 0 then bd2 (f_X7_finds v_found 2) (fun v_found_2 r_3 => some (v_found_2, r_3)) else rdA 40 v_traced p0 (fun x_4 => some (v_found, x_4))))
set_option maxHeartbeats 600000 in
set_option maxRecDepth 100000 in
theorem c_X7_trace (l : Launch) (D : va_G) (cI cS : ClassId) (o : Nat → Nat) {v_d : Nat → Int32} {v_kept : Nat → Int32} {v_images : Int32} {v_found : Nat → Int32} {v_aside : Nat → Int32} {v_base : Int32} {v_at : Int32} {v_size : Int32} {v_fault : Int32} {v_opened : Int32} {v_isCold : Int32} {v_names : Nat → Int32} {v_code : Nat → Int32} {v_coded : Int32} {v_pile : Nat → Int32} {v_horn : Int32} {v_brass : Int32} {v_coldAhead : Nat → Int32} {v_which : Nat → Int32} {v_whichMany : Int32} {v_bestPass : Int32} {v_bestLive : Int32} {v_bestCode : Int32} {v_traced : Nat → Int32} {v_traceMany : Int32} {v_who : Int32} {v_bitsOf : Nat → Int32} {v_sizeOf : Nat → Int32} {v_number : Nat → Int32} {v_lifted : Nat → Int32} {p0 : Int32} {w_found : Nat → Int32} {r_out : Int32} (h : f_X7_trace  v_found v_traced v_traceMany p0 = some (w_found, r_out)) : MetI l D (tysX cI cS) St0 yX7_trace cX7_trace 2 (some .int) 1 25 [.ref (o 0), .int p0] (pcX7 o cI v_d v_kept v_images v_found v_aside v_base v_at v_size v_fault v_opened v_isCold v_names v_code v_coded v_pile v_horn v_brass v_coldAhead v_which v_whichMany v_bestPass v_bestLive v_bestCode v_traced v_traceMany v_who v_bitsOf v_sizeOf v_number v_lifted) r_out (pcX7 o cI v_d v_kept v_images w_found v_aside v_base v_at v_size v_fault v_opened v_isCold v_names v_code v_coded v_pile v_horn v_brass v_coldAhead v_which v_whichMany v_bestPass v_bestLive v_bestCode v_traced v_traceMany v_who v_bitsOf v_sizeOf v_number v_lifted) := by
  refine Ent.metI (by decide +kernel) (Nat.le_of_ble_eq_true rfl) ?_
  intro p e s m args below meth c A ls hx hb hr hml hown hts hlocks hA hK hSt hP hD hS hl
  have hown : s.vm.findClass RX7 = some m.cls := hown
  have S : XFix p m c cX7_trace 2 s args RX7 := ⟨hx, hb, hml, hown, hts⟩
  have hl : lv_has ls 2 [(0, .ref (o 0)), (1, .int p0)] := hl
  unfold f_X7_trace at h
  refine lv_iload_n hx hb dX7_trace_0 rfl (lv_at hl 1 rfl) ?_
  refine lv_i2l (v := (p0.toInt64)) hx hb dX7_trace_1 rfl ?_
  refine lv_lconst (v := 0) hx hb dX7_trace_2 (by decide) ?_
  refine lv_aload_n hx hb dX7_trace_3 rfl (lv_at hl 0 rfl) ?_
  refine gt_X7_276 S hK hP 0 rfl rfl dX7_trace_4 ?_
  refine lv_iconst (v := 1) hx hb dX7_trace_7 (by decide) ?_
  refine lv_isub hx hb dX7_trace_8 ?_
  refine lv_i2l (v := ((v_traceMany - 1).toInt64)) hx hb dX7_trace_9 rfl ?_
  obtain ⟨r_1, hc10, h⟩ := bd1_s h
  refine x_statI (As := [.long (p0.toInt64), .long 0, .long ((v_traceMany - 1).toInt64)]) (rest := []) St0_ok S (c_X7_in l D cI cS o hc10) ys_X7_in wd6_7 ⟨Nat.le_of_ble_eq_true rfl, Nat.le_of_ble_eq_true rfl⟩ hK hSt hA hP hD hS rfl hl.1 rfl (Nat.le_of_ble_eq_true rfl) dX7_trace_10 (Nat.zero_le _) (Nat.zero_le _) (fun H locs hP hD hS => ?_)
  refine x_if_eq (tgt := 25) hx hb h dX7_trace_13 (by decide) (fun c13 h => ?_) (fun c13 h => ?_)
  · refine lv_aload_n hx hb dX7_trace_25 rfl (lv_at hl 0 rfl) ?_
    refine lv_iconst (v := 2) hx hb dX7_trace_26 (by decide) ?_
    obtain ⟨v_found_2, r_3, hc27, h⟩ := bd2_s h
    refine x_selfVi (As := [.int 2]) (rest := []) St0_ok S (c_X7_finds l D cI cS o hc27) yf_X7_finds wd6_10 ⟨Nat.le_of_ble_eq_true rfl, Nat.le_of_ble_eq_true rfl⟩ hK hSt hA hP hD hS 0 rfl rfl rfl hl.1 rfl (Nat.le_of_ble_eq_true rfl) dX7_trace_27 (Nat.zero_le _) (Nat.zero_le _) (fun H locs hP hD hS => ?_)
    cases h
    exact x_iret hx hb hr hlocks hK hP hD hS rfl rfl dX7_trace_30
  · refine lv_aload_n hx hb dX7_trace_16 rfl (lv_at hl 0 rfl) ?_
    refine gt_X7_37 S hK hP 0 rfl rfl dX7_trace_17 ?_
    refine lv_iload_n hx hb dX7_trace_20 rfl (lv_at hl 1 rfl) ?_
    refine x_ald hx hb hK hP 10 h rfl rfl dX7_trace_21 (fun x_4 ex_4 h => ?_)
    refine lv_goto (tgt := 30) hx hb dX7_trace_22 (by decide) ?_
    cases h
    exact x_iret hx hb hr hlocks hK hP hD hS rfl rfl dX7_trace_30

def f_X7_sheet_L90 (v_found : Nat → Int32) (p0 : Int32) (v_bitsOf_4 : Nat → Int32) (v_sizeOf_6 : Nat → Int32) : Nat → (Nat → Int32) → Int32 → Option ((Nat → Int32) × (Nat → Int32) × (Nat → Int32) × (Nat → Int32) × (Int32))
  | 0, _, _ => none
  | k_n + 1, v_number_7, l4_8 => (if 40 ≤ l4_8 then some (v_found, v_bitsOf_4, v_sizeOf_6, v_number_7, 1) else wrA 160 v_number_7 ((40 * p0) + l4_8) 0 (fun v_number_9 => nmA (l4_8 + 1) (fun l4_10 => f_X7_sheet_L90 v_found p0 v_bitsOf_4 v_sizeOf_6 k_n v_number_9 l4_10)))
def f_X7_sheet  (v_found : Nat → Int32) (v_bitsOf : Nat → Int32) (v_sizeOf : Nat → Int32) (v_number : Nat → Int32) (p0 : Int32) (p1 : Int32) (p2 : Int32) : Option ((Nat → Int32) × (Nat → Int32) × (Nat → Int32) × (Nat → Int32) × (Int32)) :=
  bd1 (f_X7_isSheet p0) (fun r_1 => jnA (bd2 (f_X7_finds v_found 1) (fun v_found_2 r_3 => some (v_found_2, v_bitsOf, v_sizeOf, v_number, r_3))) (fun J29 => (if r_1 = 0 then J29 else jnA (jnA (jnA (wrA 4 v_bitsOf p0 p1 (fun v_bitsOf_4 => jnA (fun (t0_5 : Int32) => wrA 4 v_sizeOf p0 t0_5 (fun v_sizeOf_6 => f_X7_sheet_L90 v_found p0 v_bitsOf_4 v_sizeOf_6 300 v_number 0)) (fun J86 => (if p1 = 0 then J86 0 else J86 p2)))) (fun J65 => (if p1 = 0 then J65 else (if p2 ≤ 40 then J65 else bd2 (f_X7_finds v_found 1) (fun v_found_11 r_12 => some (v_found_11, v_bitsOf, v_sizeOf, v_number, r_12)))))) (fun J49 => (if p1 = 0 then J49 else (if 0 ≤ p2 then J49 else bd2 (f_X7_finds v_found 3) (fun v_found_13 r_14 => some (v_found_13, v_bitsOf, v_sizeOf, v_number, r_14)))))) (fun J35 => (if p1 = 0 then J35 else (if p1 = 8 then J35 else (if p1 = 16 then J35 else (if p1 = 32 then J35 else J29))))))))
set_option maxHeartbeats 600000 in
set_option maxRecDepth 100000 in
theorem c_X7_sheet (l : Launch) (D : va_G) (cI cS : ClassId) (o : Nat → Nat) {v_d : Nat → Int32} {v_kept : Nat → Int32} {v_images : Int32} {v_found : Nat → Int32} {v_aside : Nat → Int32} {v_base : Int32} {v_at : Int32} {v_size : Int32} {v_fault : Int32} {v_opened : Int32} {v_isCold : Int32} {v_names : Nat → Int32} {v_code : Nat → Int32} {v_coded : Int32} {v_pile : Nat → Int32} {v_horn : Int32} {v_brass : Int32} {v_coldAhead : Nat → Int32} {v_which : Nat → Int32} {v_whichMany : Int32} {v_bestPass : Int32} {v_bestLive : Int32} {v_bestCode : Int32} {v_traced : Nat → Int32} {v_traceMany : Int32} {v_who : Int32} {v_bitsOf : Nat → Int32} {v_sizeOf : Nat → Int32} {v_number : Nat → Int32} {v_lifted : Nat → Int32} {p0 : Int32} {p1 : Int32} {p2 : Int32} {w_found : Nat → Int32} {w_bitsOf : Nat → Int32} {w_sizeOf : Nat → Int32} {w_number : Nat → Int32} {r_out : Int32} (h : f_X7_sheet  v_found v_bitsOf v_sizeOf v_number p0 p1 p2 = some (w_found, w_bitsOf, w_sizeOf, w_number, r_out)) : MetI l D (tysX cI cS) St0 yX7_sheet cX7_sheet 5 (some .int) 2 45 [.ref (o 0), .int p0, .int p1, .int p2] (pcX7 o cI v_d v_kept v_images v_found v_aside v_base v_at v_size v_fault v_opened v_isCold v_names v_code v_coded v_pile v_horn v_brass v_coldAhead v_which v_whichMany v_bestPass v_bestLive v_bestCode v_traced v_traceMany v_who v_bitsOf v_sizeOf v_number v_lifted) r_out (pcX7 o cI v_d v_kept v_images w_found v_aside v_base v_at v_size v_fault v_opened v_isCold v_names v_code v_coded v_pile v_horn v_brass v_coldAhead v_which v_whichMany v_bestPass v_bestLive v_bestCode v_traced v_traceMany v_who w_bitsOf w_sizeOf w_number v_lifted) := by
  refine Ent.metI (by decide +kernel) (Nat.le_of_ble_eq_true rfl) ?_
  intro p e s m args below meth c A ls hx hb hr hml hown hts hlocks hA hK hSt hP hD hS hl
  have hown : s.vm.findClass RX7 = some m.cls := hown
  have S : XFix p m c cX7_sheet 5 s args RX7 := ⟨hx, hb, hml, hown, hts⟩
  have hl : lv_has ls 5 [(0, .ref (o 0)), (1, .int p0), (2, .int p1), (3, .int p2)] := hl
  unfold f_X7_sheet at h
  refine lv_iload_n hx hb dX7_sheet_0 rfl (lv_at hl 1 rfl) ?_
  obtain ⟨r_1, hc1, h⟩ := bd1_s h
  refine x_statI (As := [.int p0]) (rest := []) St0_ok S (c_X7_isSheet l D cI cS o hc1) ys_X7_isSheet wd33_3 ⟨Nat.le_of_ble_eq_true rfl, Nat.le_of_ble_eq_true rfl⟩ hK hSt hA hP hD hS rfl hl.1 rfl (Nat.le_of_ble_eq_true rfl) dX7_sheet_1 (Nat.zero_le _) (Nat.zero_le _) (fun H locs hP hD hS => ?_)
  obtain ⟨J29, eJ29, h⟩ := jnA_s h
  have wJ29 : J29  = some (w_found, w_bitsOf, w_sizeOf, w_number, r_out) → ∀ (H : Heap) (locs : List Loc), va_P D vwCl (pcX7 o cI v_d v_kept v_images v_found v_aside v_base v_at v_size v_fault v_opened v_isCold v_names v_code v_coded v_pile v_horn v_brass v_coldAhead v_which v_whichMany v_bestPass v_bestLive v_bestCode v_traced v_traceMany v_who v_bitsOf v_sizeOf v_number v_lifted) H → va_D A (pcX7 o cI v_d v_kept v_images v_found v_aside v_base v_at v_size v_fault v_opened v_isCold v_names v_code v_coded v_pile v_horn v_brass v_coldAhead v_which v_whichMany v_bestPass v_bestLive v_bestCode v_traced v_traceMany v_who v_bitsOf v_sizeOf v_number v_lifted) → va_S A s.heap H locs → ∀ ls : Array Slot, lv_has ls 5 [(0, .ref (o 0))] → WI p l e 2 45 s m args below meth c D (tysX cI cS) A r_out (pcX7 o cI v_d v_kept v_images w_found v_aside v_base v_at v_size v_fault v_opened v_isCold v_names v_code v_coded v_pile v_horn v_brass v_coldAhead v_which v_whichMany v_bestPass v_bestLive v_bestCode v_traced v_traceMany v_who w_bitsOf w_sizeOf w_number v_lifted) H locs (F0 m 29 ls []) := by
      intro h H locs hP hD hS ls hl
      subst eJ29
      refine lv_aload_n hx hb dX7_sheet_29 rfl (lv_at hl 0 rfl) ?_
      refine lv_iconst (v := 1) hx hb dX7_sheet_30 (by decide) ?_
      obtain ⟨v_found_2, r_3, hc31, h⟩ := bd2_s h
      refine x_selfVi (As := [.int 1]) (rest := []) St0_ok S (c_X7_finds l D cI cS o hc31) yf_X7_finds wd6_10 ⟨Nat.le_of_ble_eq_true rfl, Nat.le_of_ble_eq_true rfl⟩ hK hSt hA hP hD hS 0 rfl rfl rfl hl.1 rfl (Nat.le_of_ble_eq_true rfl) dX7_sheet_31 (Nat.zero_le _) (Nat.zero_le _) (fun H locs hP hD hS => ?_)
      cases h
      exact x_iret hx hb hr hlocks hK hP hD hS rfl rfl dX7_sheet_34
  refine x_if_eq (tgt := 29) hx hb h dX7_sheet_4 (by decide) (fun c4 h => ?_) (fun c4 h => ?_)
  · exact wJ29 h _ _ hP hD hS _ (lv_sub hl [0] rfl)
  · refine lv_iload_n hx hb dX7_sheet_7 rfl (lv_at hl 2 rfl) ?_
    obtain ⟨J35, eJ35, h⟩ := jnA_s h
    have wJ35 : J35  = some (w_found, w_bitsOf, w_sizeOf, w_number, r_out) → ∀ (H : Heap) (locs : List Loc), va_P D vwCl (pcX7 o cI v_d v_kept v_images v_found v_aside v_base v_at v_size v_fault v_opened v_isCold v_names v_code v_coded v_pile v_horn v_brass v_coldAhead v_which v_whichMany v_bestPass v_bestLive v_bestCode v_traced v_traceMany v_who v_bitsOf v_sizeOf v_number v_lifted) H → va_D A (pcX7 o cI v_d v_kept v_images v_found v_aside v_base v_at v_size v_fault v_opened v_isCold v_names v_code v_coded v_pile v_horn v_brass v_coldAhead v_which v_whichMany v_bestPass v_bestLive v_bestCode v_traced v_traceMany v_who v_bitsOf v_sizeOf v_number v_lifted) → va_S A s.heap H locs → ∀ ls : Array Slot, lv_has ls 5 [(0, .ref (o 0)), (1, .int p0), (2, .int p1), (3, .int p2)] → WI p l e 2 45 s m args below meth c D (tysX cI cS) A r_out (pcX7 o cI v_d v_kept v_images w_found v_aside v_base v_at v_size v_fault v_opened v_isCold v_names v_code v_coded v_pile v_horn v_brass v_coldAhead v_which v_whichMany v_bestPass v_bestLive v_bestCode v_traced v_traceMany v_who w_bitsOf w_sizeOf w_number v_lifted) H locs (F0 m 35 ls []) := by
        intro h H locs hP hD hS ls hl
        subst eJ35
        refine lv_iload_n hx hb dX7_sheet_35 rfl (lv_at hl 2 rfl) ?_
        obtain ⟨J49, eJ49, h⟩ := jnA_s h
        have wJ49 : J49  = some (w_found, w_bitsOf, w_sizeOf, w_number, r_out) → ∀ (H : Heap) (locs : List Loc), va_P D vwCl (pcX7 o cI v_d v_kept v_images v_found v_aside v_base v_at v_size v_fault v_opened v_isCold v_names v_code v_coded v_pile v_horn v_brass v_coldAhead v_which v_whichMany v_bestPass v_bestLive v_bestCode v_traced v_traceMany v_who v_bitsOf v_sizeOf v_number v_lifted) H → va_D A (pcX7 o cI v_d v_kept v_images v_found v_aside v_base v_at v_size v_fault v_opened v_isCold v_names v_code v_coded v_pile v_horn v_brass v_coldAhead v_which v_whichMany v_bestPass v_bestLive v_bestCode v_traced v_traceMany v_who v_bitsOf v_sizeOf v_number v_lifted) → va_S A s.heap H locs → ∀ ls : Array Slot, lv_has ls 5 [(0, .ref (o 0)), (1, .int p0), (2, .int p1), (3, .int p2)] → WI p l e 2 45 s m args below meth c D (tysX cI cS) A r_out (pcX7 o cI v_d v_kept v_images w_found v_aside v_base v_at v_size v_fault v_opened v_isCold v_names v_code v_coded v_pile v_horn v_brass v_coldAhead v_which v_whichMany v_bestPass v_bestLive v_bestCode v_traced v_traceMany v_who w_bitsOf w_sizeOf w_number v_lifted) H locs (F0 m 49 ls []) := by
            intro h H locs hP hD hS ls hl
            subst eJ49
            refine lv_iload_n hx hb dX7_sheet_49 rfl (lv_at hl 2 rfl) ?_
            obtain ⟨J65, eJ65, h⟩ := jnA_s h
            have wJ65 : J65  = some (w_found, w_bitsOf, w_sizeOf, w_number, r_out) → ∀ (H : Heap) (locs : List Loc), va_P D vwCl (pcX7 o cI v_d v_kept v_images v_found v_aside v_base v_at v_size v_fault v_opened v_isCold v_names v_code v_coded v_pile v_horn v_brass v_coldAhead v_which v_whichMany v_bestPass v_bestLive v_bestCode v_traced v_traceMany v_who v_bitsOf v_sizeOf v_number v_lifted) H → va_D A (pcX7 o cI v_d v_kept v_images v_found v_aside v_base v_at v_size v_fault v_opened v_isCold v_names v_code v_coded v_pile v_horn v_brass v_coldAhead v_which v_whichMany v_bestPass v_bestLive v_bestCode v_traced v_traceMany v_who v_bitsOf v_sizeOf v_number v_lifted) → va_S A s.heap H locs → ∀ ls : Array Slot, lv_has ls 5 [(0, .ref (o 0)), (1, .int p0), (2, .int p1), (3, .int p2)] → WI p l e 2 45 s m args below meth c D (tysX cI cS) A r_out (pcX7 o cI v_d v_kept v_images w_found v_aside v_base v_at v_size v_fault v_opened v_isCold v_names v_code v_coded v_pile v_horn v_brass v_coldAhead v_which v_whichMany v_bestPass v_bestLive v_bestCode v_traced v_traceMany v_who w_bitsOf w_sizeOf w_number v_lifted) H locs (F0 m 65 ls []) := by
                intro h H locs hP hD hS ls hl
                subst eJ65
                refine lv_aload_n hx hb dX7_sheet_65 rfl (lv_at hl 0 rfl) ?_
                refine gt_X7_40 S hK hP 0 rfl rfl dX7_sheet_66 ?_
                refine lv_iload_n hx hb dX7_sheet_69 rfl (lv_at hl 1 rfl) ?_
                refine lv_iload_n hx hb dX7_sheet_70 rfl (lv_at hl 2 rfl) ?_
                refine x_ast hx hb hK hP hD hS 11 h rfl rfl dX7_sheet_71 (fun v_bitsOf_4 ev_bitsOf_4 h H locs hP hD hS => ?_)
                have hP : va_P D vwCl (pcX7 o cI v_d v_kept v_images v_found v_aside v_base v_at v_size v_fault v_opened v_isCold v_names v_code v_coded v_pile v_horn v_brass v_coldAhead v_which v_whichMany v_bestPass v_bestLive v_bestCode v_traced v_traceMany v_who v_bitsOf_4 v_sizeOf v_number v_lifted) H := hP
                have hD : va_D A (pcX7 o cI v_d v_kept v_images v_found v_aside v_base v_at v_size v_fault v_opened v_isCold v_names v_code v_coded v_pile v_horn v_brass v_coldAhead v_which v_whichMany v_bestPass v_bestLive v_bestCode v_traced v_traceMany v_who v_bitsOf_4 v_sizeOf v_number v_lifted) := hD
                refine lv_aload_n hx hb dX7_sheet_72 rfl (lv_at hl 0 rfl) ?_
                refine gt_X7_43 S hK hP 0 rfl rfl dX7_sheet_73 ?_
                refine lv_iload_n hx hb dX7_sheet_76 rfl (lv_at hl 1 rfl) ?_
                refine lv_iload_n hx hb dX7_sheet_77 rfl (lv_at hl 2 rfl) ?_
                obtain ⟨J86, eJ86, h⟩ := jnA_s h
                have wJ86 : ∀ (t0_5 : Int32), J86 t0_5 = some (w_found, w_bitsOf, w_sizeOf, w_number, r_out) → ∀ (H : Heap) (locs : List Loc), va_P D vwCl (pcX7 o cI v_d v_kept v_images v_found v_aside v_base v_at v_size v_fault v_opened v_isCold v_names v_code v_coded v_pile v_horn v_brass v_coldAhead v_which v_whichMany v_bestPass v_bestLive v_bestCode v_traced v_traceMany v_who v_bitsOf_4 v_sizeOf v_number v_lifted) H → va_D A (pcX7 o cI v_d v_kept v_images v_found v_aside v_base v_at v_size v_fault v_opened v_isCold v_names v_code v_coded v_pile v_horn v_brass v_coldAhead v_which v_whichMany v_bestPass v_bestLive v_bestCode v_traced v_traceMany v_who v_bitsOf_4 v_sizeOf v_number v_lifted) → va_S A s.heap H locs → ∀ ls : Array Slot, lv_has ls 5 [(0, .ref (o 0)), (1, .int p0)] → WI p l e 2 45 s m args below meth c D (tysX cI cS) A r_out (pcX7 o cI v_d v_kept v_images w_found v_aside v_base v_at v_size v_fault v_opened v_isCold v_names v_code v_coded v_pile v_horn v_brass v_coldAhead v_which v_whichMany v_bestPass v_bestLive v_bestCode v_traced v_traceMany v_who w_bitsOf w_sizeOf w_number v_lifted) H locs (F0 m 86 ls [.int t0_5, .int p0, .ref (o 12)]) := by
                    intro t0_5 h H locs hP hD hS ls hl
                    subst eJ86
                    dsimp only at h
                    refine x_ast hx hb hK hP hD hS 12 h rfl rfl dX7_sheet_86 (fun v_sizeOf_6 ev_sizeOf_6 h H locs hP hD hS => ?_)
                    have hP : va_P D vwCl (pcX7 o cI v_d v_kept v_images v_found v_aside v_base v_at v_size v_fault v_opened v_isCold v_names v_code v_coded v_pile v_horn v_brass v_coldAhead v_which v_whichMany v_bestPass v_bestLive v_bestCode v_traced v_traceMany v_who v_bitsOf_4 v_sizeOf_6 v_number v_lifted) H := hP
                    have hD : va_D A (pcX7 o cI v_d v_kept v_images v_found v_aside v_base v_at v_size v_fault v_opened v_isCold v_names v_code v_coded v_pile v_horn v_brass v_coldAhead v_which v_whichMany v_bestPass v_bestLive v_bestCode v_traced v_traceMany v_who v_bitsOf_4 v_sizeOf_6 v_number v_lifted) := hD
                    refine lv_iconst (v := 0) hx hb dX7_sheet_87 (by decide) ?_
                    refine lv_istore (lv' := [(4, .int 0), (0, .ref (o 0)), (1, .int p0)]) hx hb dX7_sheet_88 hl (by decide) rfl (fun ls hl => ?_)
                    have wf_X7_sheet_L90 : ∀ (k_n : Nat) (v_number_7 : Nat → Int32) (l4_8 : Int32), f_X7_sheet_L90 v_found p0 v_bitsOf_4 v_sizeOf_6 k_n v_number_7 l4_8 = some (w_found, w_bitsOf, w_sizeOf, w_number, r_out) → ∀ (H : Heap) (locs : List Loc), va_P D vwCl (pcX7 o cI v_d v_kept v_images v_found v_aside v_base v_at v_size v_fault v_opened v_isCold v_names v_code v_coded v_pile v_horn v_brass v_coldAhead v_which v_whichMany v_bestPass v_bestLive v_bestCode v_traced v_traceMany v_who v_bitsOf_4 v_sizeOf_6 v_number_7 v_lifted) H → va_D A (pcX7 o cI v_d v_kept v_images v_found v_aside v_base v_at v_size v_fault v_opened v_isCold v_names v_code v_coded v_pile v_horn v_brass v_coldAhead v_which v_whichMany v_bestPass v_bestLive v_bestCode v_traced v_traceMany v_who v_bitsOf_4 v_sizeOf_6 v_number_7 v_lifted) → va_S A s.heap H locs → ∀ ls : Array Slot, lv_has ls 5 [(0, .ref (o 0)), (1, .int p0), (4, .int l4_8)] → WI p l e 2 45 s m args below meth c D (tysX cI cS) A r_out (pcX7 o cI v_d v_kept v_images w_found v_aside v_base v_at v_size v_fault v_opened v_isCold v_names v_code v_coded v_pile v_horn v_brass v_coldAhead v_which v_whichMany v_bestPass v_bestLive v_bestCode v_traced v_traceMany v_who w_bitsOf w_sizeOf w_number v_lifted) H locs (F0 m 90 ls []) := by
                        intro k_n
                        induction k_n with
                        | zero => intro v_number_7 l4_8 h; rw [f_X7_sheet_L90] at h; cases h
                        | succ k_n ih =>
                          intro v_number_7 l4_8 h H locs hP hD hS ls hl
                          rw [f_X7_sheet_L90] at h
                          refine lv_iload hx hb dX7_sheet_90 (lv_at hl 2 rfl) ?_
                          refine lv_bipush (v := 40) hx hb dX7_sheet_92 (by decide) ?_
                          refine x_icmp_ge (tgt := 116) hx hb h dX7_sheet_94 (by decide) (fun c94 h => ?_) (fun c94 h => ?_)
                          · refine lv_iconst (v := 1) hx hb dX7_sheet_116 (by decide) ?_
                            cases h
                            exact x_iret hx hb hr hlocks hK hP hD hS rfl rfl dX7_sheet_117
                          · refine lv_aload_n hx hb dX7_sheet_97 rfl (lv_at hl 0 rfl) ?_
                            refine gt_X7_46 S hK hP 0 rfl rfl dX7_sheet_98 ?_
                            refine lv_bipush (v := 40) hx hb dX7_sheet_101 (by decide) ?_
                            refine lv_iload_n hx hb dX7_sheet_103 rfl (lv_at hl 1 rfl) ?_
                            refine lv_imul hx hb dX7_sheet_104 ?_
                            refine lv_iload hx hb dX7_sheet_105 (lv_at hl 2 rfl) ?_
                            refine lv_iadd hx hb dX7_sheet_107 ?_
                            refine lv_iconst (v := 0) hx hb dX7_sheet_108 (by decide) ?_
                            refine x_ast hx hb hK hP hD hS 13 h rfl rfl dX7_sheet_109 (fun v_number_9 ev_number_9 h H locs hP hD hS => ?_)
                            have hP : va_P D vwCl (pcX7 o cI v_d v_kept v_images v_found v_aside v_base v_at v_size v_fault v_opened v_isCold v_names v_code v_coded v_pile v_horn v_brass v_coldAhead v_which v_whichMany v_bestPass v_bestLive v_bestCode v_traced v_traceMany v_who v_bitsOf_4 v_sizeOf_6 v_number_9 v_lifted) H := hP
                            have hD : va_D A (pcX7 o cI v_d v_kept v_images v_found v_aside v_base v_at v_size v_fault v_opened v_isCold v_names v_code v_coded v_pile v_horn v_brass v_coldAhead v_which v_whichMany v_bestPass v_bestLive v_bestCode v_traced v_traceMany v_who v_bitsOf_4 v_sizeOf_6 v_number_9 v_lifted) := hD
                            obtain ⟨l4_10, el4_10, h⟩ := nmA_s h
                            refine lv_iinc (v := l4_10) (lv' := [(4, .int l4_10), (0, .ref (o 0)), (1, .int p0)]) hx hb dX7_sheet_110 hl (k := 2) rfl (by rw [el4_10]; exact congrArg _ (by decide)) (by decide) rfl (fun ls hl => ?_)
                            refine lv_goto (tgt := 90) hx hb dX7_sheet_113 (by decide) ?_
                            exact ih v_number_9 l4_10 h _ _ hP hD hS _ (lv_sub hl [1, 2, 0] rfl)
                    exact wf_X7_sheet_L90 300 v_number 0 h _ _ hP hD hS _ (lv_sub hl [1, 2, 0] rfl)
                refine x_if_ne (tgt := 85) hx hb h dX7_sheet_78 (by decide) (fun c78 h => ?_) (fun c78 h => ?_)
                · refine lv_iload_n hx hb dX7_sheet_85 rfl (lv_at hl 3 rfl) ?_
                  exact wJ86 p2 h _ _ hP hD hS _ (lv_sub hl [0, 1] rfl)
                · refine lv_iconst (v := 0) hx hb dX7_sheet_81 (by decide) ?_
                  refine lv_goto (tgt := 86) hx hb dX7_sheet_82 (by decide) ?_
                  exact wJ86 0 h _ _ hP hD hS _ (lv_sub hl [0, 1] rfl)
            refine x_if_eq (tgt := 65) hx hb h dX7_sheet_50 (by decide) (fun c50 h => ?_) (fun c50 h => ?_)
            · exact wJ65 h _ _ hP hD hS _ (lv_sub hl [0, 1, 2, 3] rfl)
            · refine lv_iload_n hx hb dX7_sheet_53 rfl (lv_at hl 3 rfl) ?_
              refine lv_bipush (v := 40) hx hb dX7_sheet_54 (by decide) ?_
              refine x_icmp_le (tgt := 65) hx hb h dX7_sheet_56 (by decide) (fun c56 h => ?_) (fun c56 h => ?_)
              · exact wJ65 h _ _ hP hD hS _ (lv_sub hl [0, 1, 2, 3] rfl)
              · refine lv_aload_n hx hb dX7_sheet_59 rfl (lv_at hl 0 rfl) ?_
                refine lv_iconst (v := 1) hx hb dX7_sheet_60 (by decide) ?_
                obtain ⟨v_found_11, r_12, hc61, h⟩ := bd2_s h
                refine x_selfVi (As := [.int 1]) (rest := []) St0_ok S (c_X7_finds l D cI cS o hc61) yf_X7_finds wd6_10 ⟨Nat.le_of_ble_eq_true rfl, Nat.le_of_ble_eq_true rfl⟩ hK hSt hA hP hD hS 0 rfl rfl rfl hl.1 rfl (Nat.le_of_ble_eq_true rfl) dX7_sheet_61 (Nat.zero_le _) (Nat.zero_le _) (fun H locs hP hD hS => ?_)
                cases h
                exact x_iret hx hb hr hlocks hK hP hD hS rfl rfl dX7_sheet_64
        refine x_if_eq (tgt := 49) hx hb h dX7_sheet_36 (by decide) (fun c36 h => ?_) (fun c36 h => ?_)
        · exact wJ49 h _ _ hP hD hS _ (lv_sub hl [0, 1, 2, 3] rfl)
        · refine lv_iload_n hx hb dX7_sheet_39 rfl (lv_at hl 3 rfl) ?_
          refine x_if_ge (tgt := 49) hx hb h dX7_sheet_40 (by decide) (fun c40 h => ?_) (fun c40 h => ?_)
          · exact wJ49 h _ _ hP hD hS _ (lv_sub hl [0, 1, 2, 3] rfl)
          · refine lv_aload_n hx hb dX7_sheet_43 rfl (lv_at hl 0 rfl) ?_
            refine lv_iconst (v := 3) hx hb dX7_sheet_44 (by decide) ?_
            obtain ⟨v_found_13, r_14, hc45, h⟩ := bd2_s h
            refine x_selfVi (As := [.int 3]) (rest := []) St0_ok S (c_X7_finds l D cI cS o hc45) yf_X7_finds wd6_10 ⟨Nat.le_of_ble_eq_true rfl, Nat.le_of_ble_eq_true rfl⟩ hK hSt hA hP hD hS 0 rfl rfl rfl hl.1 rfl (Nat.le_of_ble_eq_true rfl) dX7_sheet_45 (Nat.zero_le _) (Nat.zero_le _) (fun H locs hP hD hS => ?_)
            cases h
            exact x_iret hx hb hr hlocks hK hP hD hS rfl rfl dX7_sheet_48
    refine x_if_eq (tgt := 35) hx hb h dX7_sheet_8 (by decide) (fun c8 h => ?_) (fun c8 h => ?_)
    · exact wJ35 h _ _ hP hD hS _ (lv_sub hl [0, 1, 2, 3] rfl)
    · refine lv_iload_n hx hb dX7_sheet_11 rfl (lv_at hl 2 rfl) ?_
      refine lv_bipush (v := 8) hx hb dX7_sheet_12 (by decide) ?_
      refine x_icmp_eq (tgt := 35) hx hb h dX7_sheet_14 (by decide) (fun c14 h => ?_) (fun c14 h => ?_)
      · exact wJ35 h _ _ hP hD hS _ (lv_sub hl [0, 1, 2, 3] rfl)
      · refine lv_iload_n hx hb dX7_sheet_17 rfl (lv_at hl 2 rfl) ?_
        refine lv_bipush (v := 16) hx hb dX7_sheet_18 (by decide) ?_
        refine x_icmp_eq (tgt := 35) hx hb h dX7_sheet_20 (by decide) (fun c20 h => ?_) (fun c20 h => ?_)
        · exact wJ35 h _ _ hP hD hS _ (lv_sub hl [0, 1, 2, 3] rfl)
        · refine lv_iload_n hx hb dX7_sheet_23 rfl (lv_at hl 2 rfl) ?_
          refine lv_bipush (v := 32) hx hb dX7_sheet_24 (by decide) ?_
          refine x_icmp_eq (tgt := 35) hx hb h dX7_sheet_26 (by decide) (fun c26 h => ?_) (fun c26 h => ?_)
          · exact wJ35 h _ _ hP hD hS _ (lv_sub hl [0, 1, 2, 3] rfl)
          · exact wJ29 h _ _ hP hD hS _ (lv_sub hl [0] rfl)

def f_X7_put  (v_found : Nat → Int32) (v_bitsOf : Nat → Int32) (v_sizeOf : Nat → Int32) (v_number : Nat → Int32) (p0 : Int32) (p1 : Int32) (p2 : Int32) : Option ((Nat → Int32) × (Nat → Int32) × (Int32)) :=
  bd1 (f_X7_isSheet p0) (fun r_1 => (if r_1 = 0 then bd2 (f_X7_finds v_found 1) (fun v_found_13 r_14 => some (v_found_13, v_number, r_14)) else rdA 4 v_bitsOf p0 (fun x_2 => (if x_2 = 0 then bd2 (f_X7_finds v_found 2) (fun v_found_11 r_12 => some (v_found_11, v_number, r_12)) else rdA 4 v_sizeOf p0 (fun x_3 => bd1 (f_X7_in (p1.toInt64) 0 ((x_3 - 1).toInt64)) (fun r_4 => (if r_4 = 0 then bd2 (f_X7_finds v_found 1) (fun v_found_9 r_10 => some (v_found_9, v_number, r_10)) else rdA 4 v_bitsOf p0 (fun x_5 => jnA (fun (t0_6 : Int32) => wrA 160 v_number ((40 * p0) + p1) t0_6 (fun v_number_7 => some (v_found, v_number_7, 1))) (fun J95 => (if x_5 = 8 then J95 (p2.toInt8.toInt32) else rdA 4 v_bitsOf p0 (fun x_8 => (if x_8 = 16 then J95 (p2.toInt16.toInt32) else J95 p2))))))))))))
set_option maxHeartbeats 600000 in
set_option maxRecDepth 100000 in
theorem c_X7_put (l : Launch) (D : va_G) (cI cS : ClassId) (o : Nat → Nat) {v_d : Nat → Int32} {v_kept : Nat → Int32} {v_images : Int32} {v_found : Nat → Int32} {v_aside : Nat → Int32} {v_base : Int32} {v_at : Int32} {v_size : Int32} {v_fault : Int32} {v_opened : Int32} {v_isCold : Int32} {v_names : Nat → Int32} {v_code : Nat → Int32} {v_coded : Int32} {v_pile : Nat → Int32} {v_horn : Int32} {v_brass : Int32} {v_coldAhead : Nat → Int32} {v_which : Nat → Int32} {v_whichMany : Int32} {v_bestPass : Int32} {v_bestLive : Int32} {v_bestCode : Int32} {v_traced : Nat → Int32} {v_traceMany : Int32} {v_who : Int32} {v_bitsOf : Nat → Int32} {v_sizeOf : Nat → Int32} {v_number : Nat → Int32} {v_lifted : Nat → Int32} {p0 : Int32} {p1 : Int32} {p2 : Int32} {w_found : Nat → Int32} {w_number : Nat → Int32} {r_out : Int32} (h : f_X7_put  v_found v_bitsOf v_sizeOf v_number p0 p1 p2 = some (w_found, w_number, r_out)) : MetI l D (tysX cI cS) St0 yX7_put cX7_put 4 (some .int) 2 45 [.ref (o 0), .int p0, .int p1, .int p2] (pcX7 o cI v_d v_kept v_images v_found v_aside v_base v_at v_size v_fault v_opened v_isCold v_names v_code v_coded v_pile v_horn v_brass v_coldAhead v_which v_whichMany v_bestPass v_bestLive v_bestCode v_traced v_traceMany v_who v_bitsOf v_sizeOf v_number v_lifted) r_out (pcX7 o cI v_d v_kept v_images w_found v_aside v_base v_at v_size v_fault v_opened v_isCold v_names v_code v_coded v_pile v_horn v_brass v_coldAhead v_which v_whichMany v_bestPass v_bestLive v_bestCode v_traced v_traceMany v_who v_bitsOf v_sizeOf w_number v_lifted) := by
  refine Ent.metI (by decide +kernel) (Nat.le_of_ble_eq_true rfl) ?_
  intro p e s m args below meth c A ls hx hb hr hml hown hts hlocks hA hK hSt hP hD hS hl
  have hown : s.vm.findClass RX7 = some m.cls := hown
  have S : XFix p m c cX7_put 4 s args RX7 := ⟨hx, hb, hml, hown, hts⟩
  have hl : lv_has ls 4 [(0, .ref (o 0)), (1, .int p0), (2, .int p1), (3, .int p2)] := hl
  unfold f_X7_put at h
  refine lv_iload_n hx hb dX7_put_0 rfl (lv_at hl 1 rfl) ?_
  obtain ⟨r_1, hc1, h⟩ := bd1_s h
  refine x_statI (As := [.int p0]) (rest := []) St0_ok S (c_X7_isSheet l D cI cS o hc1) ys_X7_isSheet wd33_3 ⟨Nat.le_of_ble_eq_true rfl, Nat.le_of_ble_eq_true rfl⟩ hK hSt hA hP hD hS rfl hl.1 rfl (Nat.le_of_ble_eq_true rfl) dX7_put_1 (Nat.zero_le _) (Nat.zero_le _) (fun H locs hP hD hS => ?_)
  refine x_if_ne (tgt := 13) hx hb h dX7_put_4 (by decide) (fun c4 h => ?_) (fun c4 h => ?_)
  · refine lv_aload_n hx hb dX7_put_13 rfl (lv_at hl 0 rfl) ?_
    refine gt_X7_40 S hK hP 0 rfl rfl dX7_put_14 ?_
    refine lv_iload_n hx hb dX7_put_17 rfl (lv_at hl 1 rfl) ?_
    refine x_ald hx hb hK hP 11 h rfl rfl dX7_put_18 (fun x_2 ex_2 h => ?_)
    refine x_if_ne (tgt := 28) hx hb h dX7_put_19 (by decide) (fun c19 h => ?_) (fun c19 h => ?_)
    · refine lv_iload_n hx hb dX7_put_28 rfl (lv_at hl 2 rfl) ?_
      refine lv_i2l (v := (p1.toInt64)) hx hb dX7_put_29 rfl ?_
      refine lv_lconst (v := 0) hx hb dX7_put_30 (by decide) ?_
      refine lv_aload_n hx hb dX7_put_31 rfl (lv_at hl 0 rfl) ?_
      refine gt_X7_43 S hK hP 0 rfl rfl dX7_put_32 ?_
      refine lv_iload_n hx hb dX7_put_35 rfl (lv_at hl 1 rfl) ?_
      refine x_ald hx hb hK hP 12 h rfl rfl dX7_put_36 (fun x_3 ex_3 h => ?_)
      refine lv_iconst (v := 1) hx hb dX7_put_37 (by decide) ?_
      refine lv_isub hx hb dX7_put_38 ?_
      refine lv_i2l (v := ((x_3 - 1).toInt64)) hx hb dX7_put_39 rfl ?_
      obtain ⟨r_4, hc40, h⟩ := bd1_s h
      refine x_statI (As := [.long (p1.toInt64), .long 0, .long ((x_3 - 1).toInt64)]) (rest := []) St0_ok S (c_X7_in l D cI cS o hc40) ys_X7_in wd6_7 ⟨Nat.le_of_ble_eq_true rfl, Nat.le_of_ble_eq_true rfl⟩ hK hSt hA hP hD hS rfl hl.1 rfl (Nat.le_of_ble_eq_true rfl) dX7_put_40 (Nat.zero_le _) (Nat.zero_le _) (fun H locs hP hD hS => ?_)
      refine x_if_ne (tgt := 52) hx hb h dX7_put_43 (by decide) (fun c43 h => ?_) (fun c43 h => ?_)
      · refine lv_aload_n hx hb dX7_put_52 rfl (lv_at hl 0 rfl) ?_
        refine gt_X7_46 S hK hP 0 rfl rfl dX7_put_53 ?_
        refine lv_bipush (v := 40) hx hb dX7_put_56 (by decide) ?_
        refine lv_iload_n hx hb dX7_put_58 rfl (lv_at hl 1 rfl) ?_
        refine lv_imul hx hb dX7_put_59 ?_
        refine lv_iload_n hx hb dX7_put_60 rfl (lv_at hl 2 rfl) ?_
        refine lv_iadd hx hb dX7_put_61 ?_
        refine lv_aload_n hx hb dX7_put_62 rfl (lv_at hl 0 rfl) ?_
        refine gt_X7_40 S hK hP 0 rfl rfl dX7_put_63 ?_
        refine lv_iload_n hx hb dX7_put_66 rfl (lv_at hl 1 rfl) ?_
        refine x_ald hx hb hK hP 11 h rfl rfl dX7_put_67 (fun x_5 ex_5 h => ?_)
        refine lv_bipush (v := 8) hx hb dX7_put_68 (by decide) ?_
        obtain ⟨J95, eJ95, h⟩ := jnA_s h
        have wJ95 : ∀ (t0_6 : Int32), J95 t0_6 = some (w_found, w_number, r_out) → ∀ (H : Heap) (locs : List Loc), va_P D vwCl (pcX7 o cI v_d v_kept v_images v_found v_aside v_base v_at v_size v_fault v_opened v_isCold v_names v_code v_coded v_pile v_horn v_brass v_coldAhead v_which v_whichMany v_bestPass v_bestLive v_bestCode v_traced v_traceMany v_who v_bitsOf v_sizeOf v_number v_lifted) H → va_D A (pcX7 o cI v_d v_kept v_images v_found v_aside v_base v_at v_size v_fault v_opened v_isCold v_names v_code v_coded v_pile v_horn v_brass v_coldAhead v_which v_whichMany v_bestPass v_bestLive v_bestCode v_traced v_traceMany v_who v_bitsOf v_sizeOf v_number v_lifted) → va_S A s.heap H locs → ∀ ls : Array Slot, lv_has ls 4 [] → WI p l e 2 45 s m args below meth c D (tysX cI cS) A r_out (pcX7 o cI v_d v_kept v_images w_found v_aside v_base v_at v_size v_fault v_opened v_isCold v_names v_code v_coded v_pile v_horn v_brass v_coldAhead v_which v_whichMany v_bestPass v_bestLive v_bestCode v_traced v_traceMany v_who v_bitsOf v_sizeOf w_number v_lifted) H locs (F0 m 95 ls [.int t0_6, .int ((40 * p0) + p1), .ref (o 13)]) := by
            intro t0_6 h H locs hP hD hS ls hl
            subst eJ95
            dsimp only at h
            refine x_ast hx hb hK hP hD hS 13 h rfl rfl dX7_put_95 (fun v_number_7 ev_number_7 h H locs hP hD hS => ?_)
            have hP : va_P D vwCl (pcX7 o cI v_d v_kept v_images v_found v_aside v_base v_at v_size v_fault v_opened v_isCold v_names v_code v_coded v_pile v_horn v_brass v_coldAhead v_which v_whichMany v_bestPass v_bestLive v_bestCode v_traced v_traceMany v_who v_bitsOf v_sizeOf v_number_7 v_lifted) H := hP
            have hD : va_D A (pcX7 o cI v_d v_kept v_images v_found v_aside v_base v_at v_size v_fault v_opened v_isCold v_names v_code v_coded v_pile v_horn v_brass v_coldAhead v_which v_whichMany v_bestPass v_bestLive v_bestCode v_traced v_traceMany v_who v_bitsOf v_sizeOf v_number_7 v_lifted) := hD
            refine lv_iconst (v := 1) hx hb dX7_put_96 (by decide) ?_
            cases h
            exact x_iret hx hb hr hlocks hK hP hD hS rfl rfl dX7_put_97
        refine x_icmp_ne (tgt := 78) hx hb h dX7_put_70 (by decide) (fun c70 h => ?_) (fun c70 h => ?_)
        · refine lv_aload_n hx hb dX7_put_78 rfl (lv_at hl 0 rfl) ?_
          refine gt_X7_40 S hK hP 0 rfl rfl dX7_put_79 ?_
          refine lv_iload_n hx hb dX7_put_82 rfl (lv_at hl 1 rfl) ?_
          refine x_ald hx hb hK hP 11 h rfl rfl dX7_put_83 (fun x_8 ex_8 h => ?_)
          refine lv_bipush (v := 16) hx hb dX7_put_84 (by decide) ?_
          refine x_icmp_ne (tgt := 94) hx hb h dX7_put_86 (by decide) (fun c86 h => ?_) (fun c86 h => ?_)
          · refine lv_iload_n hx hb dX7_put_94 rfl (lv_at hl 3 rfl) ?_
            exact wJ95 p2 h _ _ hP hD hS _ (lv_sub hl [] rfl)
          · refine lv_iload_n hx hb dX7_put_89 rfl (lv_at hl 3 rfl) ?_
            refine lv_i2s (v := (p2.toInt16.toInt32)) hx hb dX7_put_90 rfl ?_
            refine lv_goto (tgt := 95) hx hb dX7_put_91 (by decide) ?_
            exact wJ95 (p2.toInt16.toInt32) h _ _ hP hD hS _ (lv_sub hl [] rfl)
        · refine lv_iload_n hx hb dX7_put_73 rfl (lv_at hl 3 rfl) ?_
          refine lv_i2b (v := (p2.toInt8.toInt32)) hx hb dX7_put_74 rfl ?_
          refine lv_goto (tgt := 95) hx hb dX7_put_75 (by decide) ?_
          exact wJ95 (p2.toInt8.toInt32) h _ _ hP hD hS _ (lv_sub hl [] rfl)
      · refine lv_aload_n hx hb dX7_put_46 rfl (lv_at hl 0 rfl) ?_
        refine lv_iconst (v := 1) hx hb dX7_put_47 (by decide) ?_
        obtain ⟨v_found_9, r_10, hc48, h⟩ := bd2_s h
        refine x_selfVi (As := [.int 1]) (rest := []) St0_ok S (c_X7_finds l D cI cS o hc48) yf_X7_finds wd6_10 ⟨Nat.le_of_ble_eq_true rfl, Nat.le_of_ble_eq_true rfl⟩ hK hSt hA hP hD hS 0 rfl rfl rfl hl.1 rfl (Nat.le_of_ble_eq_true rfl) dX7_put_48 (Nat.zero_le _) (Nat.zero_le _) (fun H locs hP hD hS => ?_)
        cases h
        exact x_iret hx hb hr hlocks hK hP hD hS rfl rfl dX7_put_51
    · refine lv_aload_n hx hb dX7_put_22 rfl (lv_at hl 0 rfl) ?_
      refine lv_iconst (v := 2) hx hb dX7_put_23 (by decide) ?_
      obtain ⟨v_found_11, r_12, hc24, h⟩ := bd2_s h
      refine x_selfVi (As := [.int 2]) (rest := []) St0_ok S (c_X7_finds l D cI cS o hc24) yf_X7_finds wd6_10 ⟨Nat.le_of_ble_eq_true rfl, Nat.le_of_ble_eq_true rfl⟩ hK hSt hA hP hD hS 0 rfl rfl rfl hl.1 rfl (Nat.le_of_ble_eq_true rfl) dX7_put_24 (Nat.zero_le _) (Nat.zero_le _) (fun H locs hP hD hS => ?_)
      cases h
      exact x_iret hx hb hr hlocks hK hP hD hS rfl rfl dX7_put_27
  · refine lv_aload_n hx hb dX7_put_7 rfl (lv_at hl 0 rfl) ?_
    refine lv_iconst (v := 1) hx hb dX7_put_8 (by decide) ?_
    obtain ⟨v_found_13, r_14, hc9, h⟩ := bd2_s h
    refine x_selfVi (As := [.int 1]) (rest := []) St0_ok S (c_X7_finds l D cI cS o hc9) yf_X7_finds wd6_10 ⟨Nat.le_of_ble_eq_true rfl, Nat.le_of_ble_eq_true rfl⟩ hK hSt hA hP hD hS 0 rfl rfl rfl hl.1 rfl (Nat.le_of_ble_eq_true rfl) dX7_put_9 (Nat.zero_le _) (Nat.zero_le _) (fun H locs hP hD hS => ?_)
    cases h
    exact x_iret hx hb hr hlocks hK hP hD hS rfl rfl dX7_put_12

def f_X7_move_L152 (v_found : Nat → Int32) (p2 : Int32) (p3 : Int32) (p4 : Int32) (v_lifted_15 : Nat → Int32) : Nat → (Nat → Int32) → Int32 → Option ((Nat → Int32) × (Nat → Int32) × (Nat → Int32) × (Int32))
  | 0, _, _ => none
  | k_n + 1, v_number_16, l6_17 => (if p4 ≤ l6_17 then some (v_found, v_number_16, v_lifted_15, p4) else rdA 40 v_lifted_15 l6_17 (fun x_18 => wrA 160 v_number_16 (((40 * p2) + p3) + l6_17) x_18 (fun v_number_19 => nmA (l6_17 + 1) (fun l6_20 => f_X7_move_L152 v_found p2 p3 p4 v_lifted_15 k_n v_number_19 l6_20))))
def f_X7_move_L115 (v_number : Nat → Int32) (p0 : Int32) (p1 : Int32) (p4 : Int32) (J149 : (Nat → Int32) → Option ((Nat → Int32) × (Nat → Int32) × (Nat → Int32) × (Int32))) : Nat → (Nat → Int32) → Int32 → Option ((Nat → Int32) × (Nat → Int32) × (Nat → Int32) × (Int32))
  | 0, _, _ => none
  | k_n + 1, v_lifted_21, l6_22 => (if p4 ≤ l6_22 then J149 v_lifted_21 else rdA 160 v_number (((40 * p0) + p1) + l6_22) (fun x_23 => wrA 40 v_lifted_21 l6_22 x_23 (fun v_lifted_24 => nmA (l6_22 + 1) (fun l6_25 => f_X7_move_L115 v_number p0 p1 p4 J149 k_n v_lifted_24 l6_25))))
def f_X7_move  (v_found : Nat → Int32) (v_bitsOf : Nat → Int32) (v_sizeOf : Nat → Int32) (v_number : Nat → Int32) (v_lifted : Nat → Int32) (p0 : Int32) (p1 : Int32) (p2 : Int32) (p3 : Int32) (p4 : Int32) : Option ((Nat → Int32) × (Nat → Int32) × (Nat → Int32) × (Int32)) :=
  bd1 (f_X7_isSheet p0) (fun r_1 => jnA (bd2 (f_X7_finds v_found 1) (fun v_found_2 r_3 => some (v_found_2, v_number, v_lifted, r_3))) (fun J14 => (if r_1 = 0 then J14 else bd1 (f_X7_isSheet p2) (fun r_4 => (if r_4 = 0 then J14 else rdA 4 v_bitsOf p0 (fun x_5 => jnA (bd2 (f_X7_finds v_found 2) (fun v_found_6 r_7 => some (v_found_6, v_number, v_lifted, r_7))) (fun J38 => (if x_5 = 0 then J38 else rdA 4 v_bitsOf p2 (fun x_8 => (if x_8 = 0 then J38 else rdA 4 v_bitsOf p0 (fun x_9 => rdA 4 v_bitsOf p2 (fun x_10 => (if x_9 = x_10 then jnA (bd2 (f_X7_finds v_found 1) (fun v_found_11 r_12 => some (v_found_11, v_number, v_lifted, r_12))) (fun J106 => (if p4 < 0 then J106 else (if p1 < 0 then J106 else (if p3 < 0 then J106 else rdA 4 v_sizeOf p0 (fun x_13 => (if (x_13 - p1) < p4 then J106 else rdA 4 v_sizeOf p2 (fun x_14 => (if p4 ≤ (x_14 - p3) then jnA (fun (v_lifted_15 : Nat → Int32) => f_X7_move_L152 v_found p2 p3 p4 v_lifted_15 300 v_number 0) (fun J149 => f_X7_move_L115 v_number p0 p1 p4 J149 300 v_lifted 0) else J106)))))))) else bd2 (f_X7_finds v_found 5) (fun v_found_26 r_27 => some (v_found_26, v_number, v_lifted, r_27)))))))))))))))
set_option maxHeartbeats 600000 in
set_option maxRecDepth 100000 in
theorem c_X7_move (l : Launch) (D : va_G) (cI cS : ClassId) (o : Nat → Nat) {v_d : Nat → Int32} {v_kept : Nat → Int32} {v_images : Int32} {v_found : Nat → Int32} {v_aside : Nat → Int32} {v_base : Int32} {v_at : Int32} {v_size : Int32} {v_fault : Int32} {v_opened : Int32} {v_isCold : Int32} {v_names : Nat → Int32} {v_code : Nat → Int32} {v_coded : Int32} {v_pile : Nat → Int32} {v_horn : Int32} {v_brass : Int32} {v_coldAhead : Nat → Int32} {v_which : Nat → Int32} {v_whichMany : Int32} {v_bestPass : Int32} {v_bestLive : Int32} {v_bestCode : Int32} {v_traced : Nat → Int32} {v_traceMany : Int32} {v_who : Int32} {v_bitsOf : Nat → Int32} {v_sizeOf : Nat → Int32} {v_number : Nat → Int32} {v_lifted : Nat → Int32} {p0 : Int32} {p1 : Int32} {p2 : Int32} {p3 : Int32} {p4 : Int32} {w_found : Nat → Int32} {w_number : Nat → Int32} {w_lifted : Nat → Int32} {r_out : Int32} (h : f_X7_move  v_found v_bitsOf v_sizeOf v_number v_lifted p0 p1 p2 p3 p4 = some (w_found, w_number, w_lifted, r_out)) : MetI l D (tysX cI cS) St0 yX7_move cX7_move 7 (some .int) 2 45 [.ref (o 0), .int p0, .int p1, .int p2, .int p3, .int p4] (pcX7 o cI v_d v_kept v_images v_found v_aside v_base v_at v_size v_fault v_opened v_isCold v_names v_code v_coded v_pile v_horn v_brass v_coldAhead v_which v_whichMany v_bestPass v_bestLive v_bestCode v_traced v_traceMany v_who v_bitsOf v_sizeOf v_number v_lifted) r_out (pcX7 o cI v_d v_kept v_images w_found v_aside v_base v_at v_size v_fault v_opened v_isCold v_names v_code v_coded v_pile v_horn v_brass v_coldAhead v_which v_whichMany v_bestPass v_bestLive v_bestCode v_traced v_traceMany v_who v_bitsOf v_sizeOf w_number w_lifted) := by
  refine Ent.metI (by decide +kernel) (Nat.le_of_ble_eq_true rfl) ?_
  intro p e s m args below meth c A ls hx hb hr hml hown hts hlocks hA hK hSt hP hD hS hl
  have hown : s.vm.findClass RX7 = some m.cls := hown
  have S : XFix p m c cX7_move 7 s args RX7 := ⟨hx, hb, hml, hown, hts⟩
  have hl : lv_has ls 7 [(0, .ref (o 0)), (1, .int p0), (2, .int p1), (3, .int p2), (4, .int p3), (5, .int p4)] := hl
  unfold f_X7_move at h
  refine lv_iload_n hx hb dX7_move_0 rfl (lv_at hl 1 rfl) ?_
  obtain ⟨r_1, hc1, h⟩ := bd1_s h
  refine x_statI (As := [.int p0]) (rest := []) St0_ok S (c_X7_isSheet l D cI cS o hc1) ys_X7_isSheet wd33_3 ⟨Nat.le_of_ble_eq_true rfl, Nat.le_of_ble_eq_true rfl⟩ hK hSt hA hP hD hS rfl hl.1 rfl (Nat.le_of_ble_eq_true rfl) dX7_move_1 (Nat.zero_le _) (Nat.zero_le _) (fun H locs hP hD hS => ?_)
  obtain ⟨J14, eJ14, h⟩ := jnA_s h
  have wJ14 : J14  = some (w_found, w_number, w_lifted, r_out) → ∀ (H : Heap) (locs : List Loc), va_P D vwCl (pcX7 o cI v_d v_kept v_images v_found v_aside v_base v_at v_size v_fault v_opened v_isCold v_names v_code v_coded v_pile v_horn v_brass v_coldAhead v_which v_whichMany v_bestPass v_bestLive v_bestCode v_traced v_traceMany v_who v_bitsOf v_sizeOf v_number v_lifted) H → va_D A (pcX7 o cI v_d v_kept v_images v_found v_aside v_base v_at v_size v_fault v_opened v_isCold v_names v_code v_coded v_pile v_horn v_brass v_coldAhead v_which v_whichMany v_bestPass v_bestLive v_bestCode v_traced v_traceMany v_who v_bitsOf v_sizeOf v_number v_lifted) → va_S A s.heap H locs → ∀ ls : Array Slot, lv_has ls 7 [(0, .ref (o 0))] → WI p l e 2 45 s m args below meth c D (tysX cI cS) A r_out (pcX7 o cI v_d v_kept v_images w_found v_aside v_base v_at v_size v_fault v_opened v_isCold v_names v_code v_coded v_pile v_horn v_brass v_coldAhead v_which v_whichMany v_bestPass v_bestLive v_bestCode v_traced v_traceMany v_who v_bitsOf v_sizeOf w_number w_lifted) H locs (F0 m 14 ls []) := by
      intro h H locs hP hD hS ls hl
      subst eJ14
      refine lv_aload_n hx hb dX7_move_14 rfl (lv_at hl 0 rfl) ?_
      refine lv_iconst (v := 1) hx hb dX7_move_15 (by decide) ?_
      obtain ⟨v_found_2, r_3, hc16, h⟩ := bd2_s h
      refine x_selfVi (As := [.int 1]) (rest := []) St0_ok S (c_X7_finds l D cI cS o hc16) yf_X7_finds wd6_10 ⟨Nat.le_of_ble_eq_true rfl, Nat.le_of_ble_eq_true rfl⟩ hK hSt hA hP hD hS 0 rfl rfl rfl hl.1 rfl (Nat.le_of_ble_eq_true rfl) dX7_move_16 (Nat.zero_le _) (Nat.zero_le _) (fun H locs hP hD hS => ?_)
      cases h
      exact x_iret hx hb hr hlocks hK hP hD hS rfl rfl dX7_move_19
  refine x_if_eq (tgt := 14) hx hb h dX7_move_4 (by decide) (fun c4 h => ?_) (fun c4 h => ?_)
  · exact wJ14 h _ _ hP hD hS _ (lv_sub hl [0] rfl)
  · refine lv_iload_n hx hb dX7_move_7 rfl (lv_at hl 3 rfl) ?_
    obtain ⟨r_4, hc8, h⟩ := bd1_s h
    refine x_statI (As := [.int p2]) (rest := []) St0_ok S (c_X7_isSheet l D cI cS o hc8) ys_X7_isSheet wd33_3 ⟨Nat.le_of_ble_eq_true rfl, Nat.le_of_ble_eq_true rfl⟩ hK hSt hA hP hD hS rfl hl.1 rfl (Nat.le_of_ble_eq_true rfl) dX7_move_8 (Nat.zero_le _) (Nat.zero_le _) (fun H locs hP hD hS => ?_)
    refine x_if_ne (tgt := 20) hx hb h dX7_move_11 (by decide) (fun c11 h => ?_) (fun c11 h => ?_)
    · refine lv_aload_n hx hb dX7_move_20 rfl (lv_at hl 0 rfl) ?_
      refine gt_X7_40 S hK hP 0 rfl rfl dX7_move_21 ?_
      refine lv_iload_n hx hb dX7_move_24 rfl (lv_at hl 1 rfl) ?_
      refine x_ald hx hb hK hP 11 h rfl rfl dX7_move_25 (fun x_5 ex_5 h => ?_)
      obtain ⟨J38, eJ38, h⟩ := jnA_s h
      have wJ38 : J38  = some (w_found, w_number, w_lifted, r_out) → ∀ (H : Heap) (locs : List Loc), va_P D vwCl (pcX7 o cI v_d v_kept v_images v_found v_aside v_base v_at v_size v_fault v_opened v_isCold v_names v_code v_coded v_pile v_horn v_brass v_coldAhead v_which v_whichMany v_bestPass v_bestLive v_bestCode v_traced v_traceMany v_who v_bitsOf v_sizeOf v_number v_lifted) H → va_D A (pcX7 o cI v_d v_kept v_images v_found v_aside v_base v_at v_size v_fault v_opened v_isCold v_names v_code v_coded v_pile v_horn v_brass v_coldAhead v_which v_whichMany v_bestPass v_bestLive v_bestCode v_traced v_traceMany v_who v_bitsOf v_sizeOf v_number v_lifted) → va_S A s.heap H locs → ∀ ls : Array Slot, lv_has ls 7 [(0, .ref (o 0))] → WI p l e 2 45 s m args below meth c D (tysX cI cS) A r_out (pcX7 o cI v_d v_kept v_images w_found v_aside v_base v_at v_size v_fault v_opened v_isCold v_names v_code v_coded v_pile v_horn v_brass v_coldAhead v_which v_whichMany v_bestPass v_bestLive v_bestCode v_traced v_traceMany v_who v_bitsOf v_sizeOf w_number w_lifted) H locs (F0 m 38 ls []) := by
          intro h H locs hP hD hS ls hl
          subst eJ38
          refine lv_aload_n hx hb dX7_move_38 rfl (lv_at hl 0 rfl) ?_
          refine lv_iconst (v := 2) hx hb dX7_move_39 (by decide) ?_
          obtain ⟨v_found_6, r_7, hc40, h⟩ := bd2_s h
          refine x_selfVi (As := [.int 2]) (rest := []) St0_ok S (c_X7_finds l D cI cS o hc40) yf_X7_finds wd6_10 ⟨Nat.le_of_ble_eq_true rfl, Nat.le_of_ble_eq_true rfl⟩ hK hSt hA hP hD hS 0 rfl rfl rfl hl.1 rfl (Nat.le_of_ble_eq_true rfl) dX7_move_40 (Nat.zero_le _) (Nat.zero_le _) (fun H locs hP hD hS => ?_)
          cases h
          exact x_iret hx hb hr hlocks hK hP hD hS rfl rfl dX7_move_43
      refine x_if_eq (tgt := 38) hx hb h dX7_move_26 (by decide) (fun c26 h => ?_) (fun c26 h => ?_)
      · exact wJ38 h _ _ hP hD hS _ (lv_sub hl [0] rfl)
      · refine lv_aload_n hx hb dX7_move_29 rfl (lv_at hl 0 rfl) ?_
        refine gt_X7_40 S hK hP 0 rfl rfl dX7_move_30 ?_
        refine lv_iload_n hx hb dX7_move_33 rfl (lv_at hl 3 rfl) ?_
        refine x_ald hx hb hK hP 11 h rfl rfl dX7_move_34 (fun x_8 ex_8 h => ?_)
        refine x_if_ne (tgt := 44) hx hb h dX7_move_35 (by decide) (fun c35 h => ?_) (fun c35 h => ?_)
        · refine lv_aload_n hx hb dX7_move_44 rfl (lv_at hl 0 rfl) ?_
          refine gt_X7_40 S hK hP 0 rfl rfl dX7_move_45 ?_
          refine lv_iload_n hx hb dX7_move_48 rfl (lv_at hl 1 rfl) ?_
          refine x_ald hx hb hK hP 11 h rfl rfl dX7_move_49 (fun x_9 ex_9 h => ?_)
          refine lv_aload_n hx hb dX7_move_50 rfl (lv_at hl 0 rfl) ?_
          refine gt_X7_40 S hK hP 0 rfl rfl dX7_move_51 ?_
          refine lv_iload_n hx hb dX7_move_54 rfl (lv_at hl 3 rfl) ?_
          refine x_ald hx hb hK hP 11 h rfl rfl dX7_move_55 (fun x_10 ex_10 h => ?_)
          refine x_icmp_eq (tgt := 65) hx hb h dX7_move_56 (by decide) (fun c56 h => ?_) (fun c56 h => ?_)
          · refine lv_iload hx hb dX7_move_65 (lv_at hl 5 rfl) ?_
            obtain ⟨J106, eJ106, h⟩ := jnA_s h
            have wJ106 : J106  = some (w_found, w_number, w_lifted, r_out) → ∀ (H : Heap) (locs : List Loc), va_P D vwCl (pcX7 o cI v_d v_kept v_images v_found v_aside v_base v_at v_size v_fault v_opened v_isCold v_names v_code v_coded v_pile v_horn v_brass v_coldAhead v_which v_whichMany v_bestPass v_bestLive v_bestCode v_traced v_traceMany v_who v_bitsOf v_sizeOf v_number v_lifted) H → va_D A (pcX7 o cI v_d v_kept v_images v_found v_aside v_base v_at v_size v_fault v_opened v_isCold v_names v_code v_coded v_pile v_horn v_brass v_coldAhead v_which v_whichMany v_bestPass v_bestLive v_bestCode v_traced v_traceMany v_who v_bitsOf v_sizeOf v_number v_lifted) → va_S A s.heap H locs → ∀ ls : Array Slot, lv_has ls 7 [(0, .ref (o 0))] → WI p l e 2 45 s m args below meth c D (tysX cI cS) A r_out (pcX7 o cI v_d v_kept v_images w_found v_aside v_base v_at v_size v_fault v_opened v_isCold v_names v_code v_coded v_pile v_horn v_brass v_coldAhead v_which v_whichMany v_bestPass v_bestLive v_bestCode v_traced v_traceMany v_who v_bitsOf v_sizeOf w_number w_lifted) H locs (F0 m 106 ls []) := by
                intro h H locs hP hD hS ls hl
                subst eJ106
                refine lv_aload_n hx hb dX7_move_106 rfl (lv_at hl 0 rfl) ?_
                refine lv_iconst (v := 1) hx hb dX7_move_107 (by decide) ?_
                obtain ⟨v_found_11, r_12, hc108, h⟩ := bd2_s h
                refine x_selfVi (As := [.int 1]) (rest := []) St0_ok S (c_X7_finds l D cI cS o hc108) yf_X7_finds wd6_10 ⟨Nat.le_of_ble_eq_true rfl, Nat.le_of_ble_eq_true rfl⟩ hK hSt hA hP hD hS 0 rfl rfl rfl hl.1 rfl (Nat.le_of_ble_eq_true rfl) dX7_move_108 (Nat.zero_le _) (Nat.zero_le _) (fun H locs hP hD hS => ?_)
                cases h
                exact x_iret hx hb hr hlocks hK hP hD hS rfl rfl dX7_move_111
            refine x_if_lt (tgt := 106) hx hb h dX7_move_67 (by decide) (fun c67 h => ?_) (fun c67 h => ?_)
            · exact wJ106 h _ _ hP hD hS _ (lv_sub hl [0] rfl)
            · refine lv_iload_n hx hb dX7_move_70 rfl (lv_at hl 2 rfl) ?_
              refine x_if_lt (tgt := 106) hx hb h dX7_move_71 (by decide) (fun c71 h => ?_) (fun c71 h => ?_)
              · exact wJ106 h _ _ hP hD hS _ (lv_sub hl [0] rfl)
              · refine lv_iload hx hb dX7_move_74 (lv_at hl 4 rfl) ?_
                refine x_if_lt (tgt := 106) hx hb h dX7_move_76 (by decide) (fun c76 h => ?_) (fun c76 h => ?_)
                · exact wJ106 h _ _ hP hD hS _ (lv_sub hl [0] rfl)
                · refine lv_iload hx hb dX7_move_79 (lv_at hl 5 rfl) ?_
                  refine lv_aload_n hx hb dX7_move_81 rfl (lv_at hl 0 rfl) ?_
                  refine gt_X7_43 S hK hP 0 rfl rfl dX7_move_82 ?_
                  refine lv_iload_n hx hb dX7_move_85 rfl (lv_at hl 1 rfl) ?_
                  refine x_ald hx hb hK hP 12 h rfl rfl dX7_move_86 (fun x_13 ex_13 h => ?_)
                  refine lv_iload_n hx hb dX7_move_87 rfl (lv_at hl 2 rfl) ?_
                  refine lv_isub hx hb dX7_move_88 ?_
                  refine x_icmp_gt (tgt := 106) hx hb h dX7_move_89 (by decide) (fun c89 h => ?_) (fun c89 h => ?_)
                  · exact wJ106 h _ _ hP hD hS _ (lv_sub hl [0] rfl)
                  · refine lv_iload hx hb dX7_move_92 (lv_at hl 5 rfl) ?_
                    refine lv_aload_n hx hb dX7_move_94 rfl (lv_at hl 0 rfl) ?_
                    refine gt_X7_43 S hK hP 0 rfl rfl dX7_move_95 ?_
                    refine lv_iload_n hx hb dX7_move_98 rfl (lv_at hl 3 rfl) ?_
                    refine x_ald hx hb hK hP 12 h rfl rfl dX7_move_99 (fun x_14 ex_14 h => ?_)
                    refine lv_iload hx hb dX7_move_100 (lv_at hl 4 rfl) ?_
                    refine lv_isub hx hb dX7_move_102 ?_
                    refine x_icmp_le (tgt := 112) hx hb h dX7_move_103 (by decide) (fun c103 h => ?_) (fun c103 h => ?_)
                    · refine lv_iconst (v := 0) hx hb dX7_move_112 (by decide) ?_
                      refine lv_istore (lv' := [(6, .int 0), (0, .ref (o 0)), (1, .int p0), (2, .int p1), (3, .int p2), (4, .int p3), (5, .int p4)]) hx hb dX7_move_113 hl (by decide) rfl (fun ls hl => ?_)
                      obtain ⟨J149, eJ149, h⟩ := jnA_s h
                      have wJ149 : ∀ (v_lifted_15 : Nat → Int32), J149 v_lifted_15 = some (w_found, w_number, w_lifted, r_out) → ∀ (H : Heap) (locs : List Loc), va_P D vwCl (pcX7 o cI v_d v_kept v_images v_found v_aside v_base v_at v_size v_fault v_opened v_isCold v_names v_code v_coded v_pile v_horn v_brass v_coldAhead v_which v_whichMany v_bestPass v_bestLive v_bestCode v_traced v_traceMany v_who v_bitsOf v_sizeOf v_number v_lifted_15) H → va_D A (pcX7 o cI v_d v_kept v_images v_found v_aside v_base v_at v_size v_fault v_opened v_isCold v_names v_code v_coded v_pile v_horn v_brass v_coldAhead v_which v_whichMany v_bestPass v_bestLive v_bestCode v_traced v_traceMany v_who v_bitsOf v_sizeOf v_number v_lifted_15) → va_S A s.heap H locs → ∀ ls : Array Slot, lv_has ls 7 [(0, .ref (o 0)), (3, .int p2), (4, .int p3), (5, .int p4)] → WI p l e 2 45 s m args below meth c D (tysX cI cS) A r_out (pcX7 o cI v_d v_kept v_images w_found v_aside v_base v_at v_size v_fault v_opened v_isCold v_names v_code v_coded v_pile v_horn v_brass v_coldAhead v_which v_whichMany v_bestPass v_bestLive v_bestCode v_traced v_traceMany v_who v_bitsOf v_sizeOf w_number w_lifted) H locs (F0 m 149 ls []) := by
                          intro v_lifted_15 h H locs hP hD hS ls hl
                          subst eJ149
                          dsimp only at h
                          refine lv_iconst (v := 0) hx hb dX7_move_149 (by decide) ?_
                          refine lv_istore (lv' := [(6, .int 0), (0, .ref (o 0)), (3, .int p2), (4, .int p3), (5, .int p4)]) hx hb dX7_move_150 hl (by decide) rfl (fun ls hl => ?_)
                          have wf_X7_move_L152 : ∀ (k_n : Nat) (v_number_16 : Nat → Int32) (l6_17 : Int32), f_X7_move_L152 v_found p2 p3 p4 v_lifted_15 k_n v_number_16 l6_17 = some (w_found, w_number, w_lifted, r_out) → ∀ (H : Heap) (locs : List Loc), va_P D vwCl (pcX7 o cI v_d v_kept v_images v_found v_aside v_base v_at v_size v_fault v_opened v_isCold v_names v_code v_coded v_pile v_horn v_brass v_coldAhead v_which v_whichMany v_bestPass v_bestLive v_bestCode v_traced v_traceMany v_who v_bitsOf v_sizeOf v_number_16 v_lifted_15) H → va_D A (pcX7 o cI v_d v_kept v_images v_found v_aside v_base v_at v_size v_fault v_opened v_isCold v_names v_code v_coded v_pile v_horn v_brass v_coldAhead v_which v_whichMany v_bestPass v_bestLive v_bestCode v_traced v_traceMany v_who v_bitsOf v_sizeOf v_number_16 v_lifted_15) → va_S A s.heap H locs → ∀ ls : Array Slot, lv_has ls 7 [(0, .ref (o 0)), (3, .int p2), (4, .int p3), (5, .int p4), (6, .int l6_17)] → WI p l e 2 45 s m args below meth c D (tysX cI cS) A r_out (pcX7 o cI v_d v_kept v_images w_found v_aside v_base v_at v_size v_fault v_opened v_isCold v_names v_code v_coded v_pile v_horn v_brass v_coldAhead v_which v_whichMany v_bestPass v_bestLive v_bestCode v_traced v_traceMany v_who v_bitsOf v_sizeOf w_number w_lifted) H locs (F0 m 152 ls []) := by
                              intro k_n
                              induction k_n with
                              | zero => intro v_number_16 l6_17 h; rw [f_X7_move_L152] at h; cases h
                              | succ k_n ih =>
                                intro v_number_16 l6_17 h H locs hP hD hS ls hl
                                rw [f_X7_move_L152] at h
                                refine lv_iload hx hb dX7_move_152 (lv_at hl 4 rfl) ?_
                                refine lv_iload hx hb dX7_move_154 (lv_at hl 3 rfl) ?_
                                refine x_icmp_ge (tgt := 187) hx hb h dX7_move_156 (by decide) (fun c156 h => ?_) (fun c156 h => ?_)
                                · refine lv_iload hx hb dX7_move_187 (lv_at hl 3 rfl) ?_
                                  cases h
                                  exact x_iret hx hb hr hlocks hK hP hD hS rfl rfl dX7_move_189
                                · refine lv_aload_n hx hb dX7_move_159 rfl (lv_at hl 0 rfl) ?_
                                  refine gt_X7_46 S hK hP 0 rfl rfl dX7_move_160 ?_
                                  refine lv_bipush (v := 40) hx hb dX7_move_163 (by decide) ?_
                                  refine lv_iload_n hx hb dX7_move_165 rfl (lv_at hl 1 rfl) ?_
                                  refine lv_imul hx hb dX7_move_166 ?_
                                  refine lv_iload hx hb dX7_move_167 (lv_at hl 2 rfl) ?_
                                  refine lv_iadd hx hb dX7_move_169 ?_
                                  refine lv_iload hx hb dX7_move_170 (lv_at hl 4 rfl) ?_
                                  refine lv_iadd hx hb dX7_move_172 ?_
                                  refine lv_aload_n hx hb dX7_move_173 rfl (lv_at hl 0 rfl) ?_
                                  refine gt_X7_49 S hK hP 0 rfl rfl dX7_move_174 ?_
                                  refine lv_iload hx hb dX7_move_177 (lv_at hl 4 rfl) ?_
                                  refine x_ald hx hb hK hP 14 h rfl rfl dX7_move_179 (fun x_18 ex_18 h => ?_)
                                  refine x_ast hx hb hK hP hD hS 13 h rfl rfl dX7_move_180 (fun v_number_19 ev_number_19 h H locs hP hD hS => ?_)
                                  have hP : va_P D vwCl (pcX7 o cI v_d v_kept v_images v_found v_aside v_base v_at v_size v_fault v_opened v_isCold v_names v_code v_coded v_pile v_horn v_brass v_coldAhead v_which v_whichMany v_bestPass v_bestLive v_bestCode v_traced v_traceMany v_who v_bitsOf v_sizeOf v_number_19 v_lifted_15) H := hP
                                  have hD : va_D A (pcX7 o cI v_d v_kept v_images v_found v_aside v_base v_at v_size v_fault v_opened v_isCold v_names v_code v_coded v_pile v_horn v_brass v_coldAhead v_which v_whichMany v_bestPass v_bestLive v_bestCode v_traced v_traceMany v_who v_bitsOf v_sizeOf v_number_19 v_lifted_15) := hD
                                  obtain ⟨l6_20, el6_20, h⟩ := nmA_s h
                                  refine lv_iinc (v := l6_20) (lv' := [(6, .int l6_20), (0, .ref (o 0)), (3, .int p2), (4, .int p3), (5, .int p4)]) hx hb dX7_move_181 hl (k := 4) rfl (by rw [el6_20]; exact congrArg _ (by decide)) (by decide) rfl (fun ls hl => ?_)
                                  refine lv_goto (tgt := 152) hx hb dX7_move_184 (by decide) ?_
                                  exact ih v_number_19 l6_20 h _ _ hP hD hS _ (lv_sub hl [1, 2, 3, 4, 0] rfl)
                          exact wf_X7_move_L152 300 v_number 0 h _ _ hP hD hS _ (lv_sub hl [1, 2, 3, 4, 0] rfl)
                      have wf_X7_move_L115 : ∀ (k_n : Nat) (v_lifted_21 : Nat → Int32) (l6_22 : Int32), f_X7_move_L115 v_number p0 p1 p4 J149 k_n v_lifted_21 l6_22 = some (w_found, w_number, w_lifted, r_out) → ∀ (H : Heap) (locs : List Loc), va_P D vwCl (pcX7 o cI v_d v_kept v_images v_found v_aside v_base v_at v_size v_fault v_opened v_isCold v_names v_code v_coded v_pile v_horn v_brass v_coldAhead v_which v_whichMany v_bestPass v_bestLive v_bestCode v_traced v_traceMany v_who v_bitsOf v_sizeOf v_number v_lifted_21) H → va_D A (pcX7 o cI v_d v_kept v_images v_found v_aside v_base v_at v_size v_fault v_opened v_isCold v_names v_code v_coded v_pile v_horn v_brass v_coldAhead v_which v_whichMany v_bestPass v_bestLive v_bestCode v_traced v_traceMany v_who v_bitsOf v_sizeOf v_number v_lifted_21) → va_S A s.heap H locs → ∀ ls : Array Slot, lv_has ls 7 [(0, .ref (o 0)), (1, .int p0), (2, .int p1), (3, .int p2), (4, .int p3), (5, .int p4), (6, .int l6_22)] → WI p l e 2 45 s m args below meth c D (tysX cI cS) A r_out (pcX7 o cI v_d v_kept v_images w_found v_aside v_base v_at v_size v_fault v_opened v_isCold v_names v_code v_coded v_pile v_horn v_brass v_coldAhead v_which v_whichMany v_bestPass v_bestLive v_bestCode v_traced v_traceMany v_who v_bitsOf v_sizeOf w_number w_lifted) H locs (F0 m 115 ls []) := by
                          intro k_n
                          induction k_n with
                          | zero => intro v_lifted_21 l6_22 h; rw [f_X7_move_L115] at h; cases h
                          | succ k_n ih =>
                            intro v_lifted_21 l6_22 h H locs hP hD hS ls hl
                            rw [f_X7_move_L115] at h
                            refine lv_iload hx hb dX7_move_115 (lv_at hl 6 rfl) ?_
                            refine lv_iload hx hb dX7_move_117 (lv_at hl 5 rfl) ?_
                            refine x_icmp_ge (tgt := 149) hx hb h dX7_move_119 (by decide) (fun c119 h => ?_) (fun c119 h => ?_)
                            · exact wJ149 v_lifted_21 h _ _ hP hD hS _ (lv_sub hl [0, 3, 4, 5] rfl)
                            · refine lv_aload_n hx hb dX7_move_122 rfl (lv_at hl 0 rfl) ?_
                              refine gt_X7_49 S hK hP 0 rfl rfl dX7_move_123 ?_
                              refine lv_iload hx hb dX7_move_126 (lv_at hl 6 rfl) ?_
                              refine lv_aload_n hx hb dX7_move_128 rfl (lv_at hl 0 rfl) ?_
                              refine gt_X7_46 S hK hP 0 rfl rfl dX7_move_129 ?_
                              refine lv_bipush (v := 40) hx hb dX7_move_132 (by decide) ?_
                              refine lv_iload_n hx hb dX7_move_134 rfl (lv_at hl 1 rfl) ?_
                              refine lv_imul hx hb dX7_move_135 ?_
                              refine lv_iload_n hx hb dX7_move_136 rfl (lv_at hl 2 rfl) ?_
                              refine lv_iadd hx hb dX7_move_137 ?_
                              refine lv_iload hx hb dX7_move_138 (lv_at hl 6 rfl) ?_
                              refine lv_iadd hx hb dX7_move_140 ?_
                              refine x_ald hx hb hK hP 13 h rfl rfl dX7_move_141 (fun x_23 ex_23 h => ?_)
                              refine x_ast hx hb hK hP hD hS 14 h rfl rfl dX7_move_142 (fun v_lifted_24 ev_lifted_24 h H locs hP hD hS => ?_)
                              have hP : va_P D vwCl (pcX7 o cI v_d v_kept v_images v_found v_aside v_base v_at v_size v_fault v_opened v_isCold v_names v_code v_coded v_pile v_horn v_brass v_coldAhead v_which v_whichMany v_bestPass v_bestLive v_bestCode v_traced v_traceMany v_who v_bitsOf v_sizeOf v_number v_lifted_24) H := hP
                              have hD : va_D A (pcX7 o cI v_d v_kept v_images v_found v_aside v_base v_at v_size v_fault v_opened v_isCold v_names v_code v_coded v_pile v_horn v_brass v_coldAhead v_which v_whichMany v_bestPass v_bestLive v_bestCode v_traced v_traceMany v_who v_bitsOf v_sizeOf v_number v_lifted_24) := hD
                              obtain ⟨l6_25, el6_25, h⟩ := nmA_s h
                              refine lv_iinc (v := l6_25) (lv' := [(6, .int l6_25), (0, .ref (o 0)), (1, .int p0), (2, .int p1), (3, .int p2), (4, .int p3), (5, .int p4)]) hx hb dX7_move_143 hl (k := 6) rfl (by rw [el6_25]; exact congrArg _ (by decide)) (by decide) rfl (fun ls hl => ?_)
                              refine lv_goto (tgt := 115) hx hb dX7_move_146 (by decide) ?_
                              exact ih v_lifted_24 l6_25 h _ _ hP hD hS _ (lv_sub hl [1, 2, 3, 4, 5, 6, 0] rfl)
                      exact wf_X7_move_L115 300 v_lifted 0 h _ _ hP hD hS _ (lv_sub hl [1, 2, 3, 4, 5, 6, 0] rfl)
                    · exact wJ106 h _ _ hP hD hS _ (lv_sub hl [0] rfl)
          · refine lv_aload_n hx hb dX7_move_59 rfl (lv_at hl 0 rfl) ?_
            refine lv_iconst (v := 5) hx hb dX7_move_60 (by decide) ?_
            obtain ⟨v_found_26, r_27, hc61, h⟩ := bd2_s h
            refine x_selfVi (As := [.int 5]) (rest := []) St0_ok S (c_X7_finds l D cI cS o hc61) yf_X7_finds wd6_10 ⟨Nat.le_of_ble_eq_true rfl, Nat.le_of_ble_eq_true rfl⟩ hK hSt hA hP hD hS 0 rfl rfl rfl hl.1 rfl (Nat.le_of_ble_eq_true rfl) dX7_move_61 (Nat.zero_le _) (Nat.zero_le _) (fun H locs hP hD hS => ?_)
            cases h
            exact x_iret hx hb hr hlocks hK hP hD hS rfl rfl dX7_move_64
        · exact wJ38 h _ _ hP hD hS _ (lv_sub hl [0] rfl)
    · exact wJ14 h _ _ hP hD hS _ (lv_sub hl [0] rfl)

def f_X7_healths_L30 (v_found : Nat → Int32) (v_sizeOf : Nat → Int32) (v_number : Nat → Int32) (p0 : Int32) : Nat → (Nat → Int32) → Int32 → Option ((Nat → Int32) × (Nat → Int32) × (Int32))
  | 0, _, _ => none
  | k_n + 1, v_d_3, l2_4 => rdA 4 v_sizeOf p0 (fun x_5 => (if x_5 ≤ l2_4 then some (v_d_3, v_found, l2_4) else rdA 248 v_d_3 0 (fun x_6 => (if x_6 ≤ l2_4 then some (v_d_3, v_found, l2_4) else rdA 160 v_number ((40 * p0) + l2_4) (fun x_7 => bd1 (f_X7_in (x_7.toInt64) 0 99) (fun r_8 => (if r_8 = 0 then some (v_d_3, v_found, l2_4) else rdA 160 v_number ((40 * p0) + l2_4) (fun x_9 => bd1 (f_X7_sets v_d_3 l2_4 5 x_9) (fun v_d_10 => nmA (l2_4 + 1) (fun l2_11 => f_X7_healths_L30 v_found v_sizeOf v_number p0 k_n v_d_10 l2_11))))))))))
def f_X7_healths  (v_d : Nat → Int32) (v_found : Nat → Int32) (v_bitsOf : Nat → Int32) (v_sizeOf : Nat → Int32) (v_number : Nat → Int32) (p0 : Int32) : Option ((Nat → Int32) × (Nat → Int32) × (Int32)) :=
  bd1 (f_X7_isSheet p0) (fun r_1 => (if r_1 = 0 then bd2 (f_X7_finds v_found 1) (fun v_found_14 r_15 => some (v_d, v_found_14, r_15)) else rdA 4 v_bitsOf p0 (fun x_2 => (if x_2 = 0 then bd2 (f_X7_finds v_found 2) (fun v_found_12 r_13 => some (v_d, v_found_12, r_13)) else f_X7_healths_L30 v_found v_sizeOf v_number p0 300 v_d 0))))
set_option maxHeartbeats 600000 in
set_option maxRecDepth 100000 in
theorem c_X7_healths (l : Launch) (D : va_G) (cI cS : ClassId) (o : Nat → Nat) {v_d : Nat → Int32} {v_kept : Nat → Int32} {v_images : Int32} {v_found : Nat → Int32} {v_aside : Nat → Int32} {v_base : Int32} {v_at : Int32} {v_size : Int32} {v_fault : Int32} {v_opened : Int32} {v_isCold : Int32} {v_names : Nat → Int32} {v_code : Nat → Int32} {v_coded : Int32} {v_pile : Nat → Int32} {v_horn : Int32} {v_brass : Int32} {v_coldAhead : Nat → Int32} {v_which : Nat → Int32} {v_whichMany : Int32} {v_bestPass : Int32} {v_bestLive : Int32} {v_bestCode : Int32} {v_traced : Nat → Int32} {v_traceMany : Int32} {v_who : Int32} {v_bitsOf : Nat → Int32} {v_sizeOf : Nat → Int32} {v_number : Nat → Int32} {v_lifted : Nat → Int32} {p0 : Int32} {w_d : Nat → Int32} {w_found : Nat → Int32} {r_out : Int32} (h : f_X7_healths  v_d v_found v_bitsOf v_sizeOf v_number p0 = some (w_d, w_found, r_out)) : MetI l D (tysX cI cS) St0 yX7_healths cX7_healths 3 (some .int) 2 45 [.ref (o 0), .int p0] (pcX7 o cI v_d v_kept v_images v_found v_aside v_base v_at v_size v_fault v_opened v_isCold v_names v_code v_coded v_pile v_horn v_brass v_coldAhead v_which v_whichMany v_bestPass v_bestLive v_bestCode v_traced v_traceMany v_who v_bitsOf v_sizeOf v_number v_lifted) r_out (pcX7 o cI w_d v_kept v_images w_found v_aside v_base v_at v_size v_fault v_opened v_isCold v_names v_code v_coded v_pile v_horn v_brass v_coldAhead v_which v_whichMany v_bestPass v_bestLive v_bestCode v_traced v_traceMany v_who v_bitsOf v_sizeOf v_number v_lifted) := by
  refine Ent.metI (by decide +kernel) (Nat.le_of_ble_eq_true rfl) ?_
  intro p e s m args below meth c A ls hx hb hr hml hown hts hlocks hA hK hSt hP hD hS hl
  have hown : s.vm.findClass RX7 = some m.cls := hown
  have S : XFix p m c cX7_healths 3 s args RX7 := ⟨hx, hb, hml, hown, hts⟩
  have hl : lv_has ls 3 [(0, .ref (o 0)), (1, .int p0)] := hl
  unfold f_X7_healths at h
  refine lv_iload_n hx hb dX7_healths_0 rfl (lv_at hl 1 rfl) ?_
  obtain ⟨r_1, hc1, h⟩ := bd1_s h
  refine x_statI (As := [.int p0]) (rest := []) St0_ok S (c_X7_isSheet l D cI cS o hc1) ys_X7_isSheet wd33_3 ⟨Nat.le_of_ble_eq_true rfl, Nat.le_of_ble_eq_true rfl⟩ hK hSt hA hP hD hS rfl hl.1 rfl (Nat.le_of_ble_eq_true rfl) dX7_healths_1 (Nat.zero_le _) (Nat.zero_le _) (fun H locs hP hD hS => ?_)
  refine x_if_ne (tgt := 13) hx hb h dX7_healths_4 (by decide) (fun c4 h => ?_) (fun c4 h => ?_)
  · refine lv_aload_n hx hb dX7_healths_13 rfl (lv_at hl 0 rfl) ?_
    refine gt_X7_40 S hK hP 0 rfl rfl dX7_healths_14 ?_
    refine lv_iload_n hx hb dX7_healths_17 rfl (lv_at hl 1 rfl) ?_
    refine x_ald hx hb hK hP 11 h rfl rfl dX7_healths_18 (fun x_2 ex_2 h => ?_)
    refine x_if_ne (tgt := 28) hx hb h dX7_healths_19 (by decide) (fun c19 h => ?_) (fun c19 h => ?_)
    · refine lv_iconst (v := 0) hx hb dX7_healths_28 (by decide) ?_
      refine lv_istore_n (lv' := [(2, .int 0), (0, .ref (o 0)), (1, .int p0)]) hx hb dX7_healths_29 rfl hl (by decide) rfl (fun ls hl => ?_)
      have wf_X7_healths_L30 : ∀ (k_n : Nat) (v_d_3 : Nat → Int32) (l2_4 : Int32), f_X7_healths_L30 v_found v_sizeOf v_number p0 k_n v_d_3 l2_4 = some (w_d, w_found, r_out) → ∀ (H : Heap) (locs : List Loc), va_P D vwCl (pcX7 o cI v_d_3 v_kept v_images v_found v_aside v_base v_at v_size v_fault v_opened v_isCold v_names v_code v_coded v_pile v_horn v_brass v_coldAhead v_which v_whichMany v_bestPass v_bestLive v_bestCode v_traced v_traceMany v_who v_bitsOf v_sizeOf v_number v_lifted) H → va_D A (pcX7 o cI v_d_3 v_kept v_images v_found v_aside v_base v_at v_size v_fault v_opened v_isCold v_names v_code v_coded v_pile v_horn v_brass v_coldAhead v_which v_whichMany v_bestPass v_bestLive v_bestCode v_traced v_traceMany v_who v_bitsOf v_sizeOf v_number v_lifted) → va_S A s.heap H locs → ∀ ls : Array Slot, lv_has ls 3 [(0, .ref (o 0)), (1, .int p0), (2, .int l2_4)] → WI p l e 2 45 s m args below meth c D (tysX cI cS) A r_out (pcX7 o cI w_d v_kept v_images w_found v_aside v_base v_at v_size v_fault v_opened v_isCold v_names v_code v_coded v_pile v_horn v_brass v_coldAhead v_which v_whichMany v_bestPass v_bestLive v_bestCode v_traced v_traceMany v_who v_bitsOf v_sizeOf v_number v_lifted) H locs (F0 m 30 ls []) := by
          intro k_n
          induction k_n with
          | zero => intro v_d_3 l2_4 h; rw [f_X7_healths_L30] at h; cases h
          | succ k_n ih =>
            intro v_d_3 l2_4 h H locs hP hD hS ls hl
            rw [f_X7_healths_L30] at h
            refine lv_iload_n hx hb dX7_healths_30 rfl (lv_at hl 2 rfl) ?_
            refine lv_aload_n hx hb dX7_healths_31 rfl (lv_at hl 0 rfl) ?_
            refine gt_X7_43 S hK hP 0 rfl rfl dX7_healths_32 ?_
            refine lv_iload_n hx hb dX7_healths_35 rfl (lv_at hl 1 rfl) ?_
            refine x_ald hx hb hK hP 12 h rfl rfl dX7_healths_36 (fun x_5 ex_5 h => ?_)
            refine x_icmp_ge (tgt := 95) hx hb h dX7_healths_37 (by decide) (fun c37 h => ?_) (fun c37 h => ?_)
            · refine lv_iload_n hx hb dX7_healths_95 rfl (lv_at hl 2 rfl) ?_
              cases h
              exact x_iret hx hb hr hlocks hK hP hD hS rfl rfl dX7_healths_96
            · refine lv_iload_n hx hb dX7_healths_40 rfl (lv_at hl 2 rfl) ?_
              refine lv_aload_n hx hb dX7_healths_41 rfl (lv_at hl 0 rfl) ?_
              refine gt_X7_7 S hK hP 0 rfl rfl dX7_healths_42 ?_
              refine lv_iconst (v := 0) hx hb dX7_healths_45 (by decide) ?_
              refine x_ald hx hb hK hP 1 h rfl rfl dX7_healths_46 (fun x_6 ex_6 h => ?_)
              refine x_icmp_ge (tgt := 95) hx hb h dX7_healths_47 (by decide) (fun c47 h => ?_) (fun c47 h => ?_)
              · refine lv_iload_n hx hb dX7_healths_95 rfl (lv_at hl 2 rfl) ?_
                cases h
                exact x_iret hx hb hr hlocks hK hP hD hS rfl rfl dX7_healths_96
              · refine lv_aload_n hx hb dX7_healths_50 rfl (lv_at hl 0 rfl) ?_
                refine gt_X7_46 S hK hP 0 rfl rfl dX7_healths_51 ?_
                refine lv_bipush (v := 40) hx hb dX7_healths_54 (by decide) ?_
                refine lv_iload_n hx hb dX7_healths_56 rfl (lv_at hl 1 rfl) ?_
                refine lv_imul hx hb dX7_healths_57 ?_
                refine lv_iload_n hx hb dX7_healths_58 rfl (lv_at hl 2 rfl) ?_
                refine lv_iadd hx hb dX7_healths_59 ?_
                refine x_ald hx hb hK hP 13 h rfl rfl dX7_healths_60 (fun x_7 ex_7 h => ?_)
                refine lv_i2l (v := (x_7.toInt64)) hx hb dX7_healths_61 rfl ?_
                refine lv_lconst (v := 0) hx hb dX7_healths_62 (by decide) ?_
                refine lv_ldc2 (v := 99) hx hb hown (hts _ wd13_2) dX7_healths_63 ?_
                obtain ⟨r_8, hc66, h⟩ := bd1_s h
                refine x_statI (As := [.long (x_7.toInt64), .long 0, .long 99]) (rest := []) St0_ok S (c_X7_in l D cI cS o hc66) ys_X7_in wd6_7 ⟨Nat.le_of_ble_eq_true rfl, Nat.le_of_ble_eq_true rfl⟩ hK hSt hA hP hD hS rfl hl.1 rfl (Nat.le_of_ble_eq_true rfl) dX7_healths_66 (Nat.zero_le _) (Nat.zero_le _) (fun H locs hP hD hS => ?_)
                refine x_if_eq (tgt := 95) hx hb h dX7_healths_69 (by decide) (fun c69 h => ?_) (fun c69 h => ?_)
                · refine lv_iload_n hx hb dX7_healths_95 rfl (lv_at hl 2 rfl) ?_
                  cases h
                  exact x_iret hx hb hr hlocks hK hP hD hS rfl rfl dX7_healths_96
                · refine lv_aload_n hx hb dX7_healths_72 rfl (lv_at hl 0 rfl) ?_
                  refine lv_iload_n hx hb dX7_healths_73 rfl (lv_at hl 2 rfl) ?_
                  refine lv_iconst (v := 5) hx hb dX7_healths_74 (by decide) ?_
                  refine lv_aload_n hx hb dX7_healths_75 rfl (lv_at hl 0 rfl) ?_
                  refine gt_X7_46 S hK hP 0 rfl rfl dX7_healths_76 ?_
                  refine lv_bipush (v := 40) hx hb dX7_healths_79 (by decide) ?_
                  refine lv_iload_n hx hb dX7_healths_81 rfl (lv_at hl 1 rfl) ?_
                  refine lv_imul hx hb dX7_healths_82 ?_
                  refine lv_iload_n hx hb dX7_healths_83 rfl (lv_at hl 2 rfl) ?_
                  refine lv_iadd hx hb dX7_healths_84 ?_
                  refine x_ald hx hb hK hP 13 h rfl rfl dX7_healths_85 (fun x_9 ex_9 h => ?_)
                  obtain ⟨v_d_10, hc86, h⟩ := bd1_s h
                  refine x_selfVv (As := [.int l2_4, .int 5, .int x_9]) (rest := []) St0_ok S (c_X7_sets l D cI cS o hc86) yf_X7_sets wd6_15 ⟨Nat.le_of_ble_eq_true rfl, Nat.le_of_ble_eq_true rfl⟩ hK hSt hA hP hD hS 0 rfl rfl rfl hl.1 rfl (Nat.le_of_ble_eq_true rfl) dX7_healths_86 (Nat.zero_le _) (Nat.zero_le _) (fun H locs hP hD hS => ?_)
                  obtain ⟨l2_11, el2_11, h⟩ := nmA_s h
                  refine lv_iinc (v := l2_11) (lv' := [(2, .int l2_11), (0, .ref (o 0)), (1, .int p0)]) hx hb dX7_healths_89 hl (k := 2) rfl (by rw [el2_11]; exact congrArg _ (by decide)) (by decide) rfl (fun ls hl => ?_)
                  refine lv_goto (tgt := 30) hx hb dX7_healths_92 (by decide) ?_
                  exact ih v_d_10 l2_11 h _ _ hP hD hS _ (lv_sub hl [1, 2, 0] rfl)
      exact wf_X7_healths_L30 300 v_d 0 h _ _ hP hD hS _ (lv_sub hl [1, 2, 0] rfl)
    · refine lv_aload_n hx hb dX7_healths_22 rfl (lv_at hl 0 rfl) ?_
      refine lv_iconst (v := 2) hx hb dX7_healths_23 (by decide) ?_
      obtain ⟨v_found_12, r_13, hc24, h⟩ := bd2_s h
      refine x_selfVi (As := [.int 2]) (rest := []) St0_ok S (c_X7_finds l D cI cS o hc24) yf_X7_finds wd6_10 ⟨Nat.le_of_ble_eq_true rfl, Nat.le_of_ble_eq_true rfl⟩ hK hSt hA hP hD hS 0 rfl rfl rfl hl.1 rfl (Nat.le_of_ble_eq_true rfl) dX7_healths_24 (Nat.zero_le _) (Nat.zero_le _) (fun H locs hP hD hS => ?_)
      cases h
      exact x_iret hx hb hr hlocks hK hP hD hS rfl rfl dX7_healths_27
  · refine lv_aload_n hx hb dX7_healths_7 rfl (lv_at hl 0 rfl) ?_
    refine lv_iconst (v := 1) hx hb dX7_healths_8 (by decide) ?_
    obtain ⟨v_found_14, r_15, hc9, h⟩ := bd2_s h
    refine x_selfVi (As := [.int 1]) (rest := []) St0_ok S (c_X7_finds l D cI cS o hc9) yf_X7_finds wd6_10 ⟨Nat.le_of_ble_eq_true rfl, Nat.le_of_ble_eq_true rfl⟩ hK hSt hA hP hD hS 0 rfl rfl rfl hl.1 rfl (Nat.le_of_ble_eq_true rfl) dX7_healths_9 (Nat.zero_le _) (Nat.zero_le _) (fun H locs hP hD hS => ?_)
    cases h
    exact x_iret hx hb hr hlocks hK hP hD hS rfl rfl dX7_healths_12
