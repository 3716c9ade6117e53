def f_X7_unit_L58 (v_d : Nat → Int32) (v_base : Int32) (v_size : Int32) (v_fault : Int32) (J110 : Int32 → Int32 → Int32 → Option ((Int32) × (Int32) × (Int32) × (Nat → Int32) × (Int32))) : Nat → Int32 → Int32 → Int32 → Option ((Int32) × (Int32) × (Int32) × (Nat → Int32) × (Int32))
  | 0, _, _, _ => none
  | k_n + 1, v_at_15, l3_16, l4_17 => (if 4 ≤ l4_17 then J110 v_at_15 l3_16 l4_17 else bd1 (f_X7_here v_d v_base v_at_15 v_size v_fault) (fun r_18 => bd1 (f_X7_in (r_18.toInt64) 48 57) (fun r_19 => (if r_19 = 0 then J110 v_at_15 l3_16 l4_17 else bd1 (f_X7_here v_d v_base v_at_15 v_size v_fault) (fun r_20 => nmA (((10 * l3_16) + r_20) - 48) (fun l3_21 => nmA (v_at_15 + 1) (fun v_at_22 => nmA (l4_17 + 1) (fun l4_23 => f_X7_unit_L58 v_d v_base v_size v_fault J110 k_n v_at_22 l3_21 l4_23))))))))
def f_X7_unit (rc : (Nat → Int32) → (Int32) → (Int32) → (Int32) → (Int32) → (Int32) → (Int32) → (Nat → Int32) → (Int32) → Int32 → Option ((Int32) × (Int32) × (Int32) × (Nat → Int32) × (Int32))) (v_d : Nat → Int32) (v_base : Int32) (v_at : Int32) (v_size : Int32) (v_fault : Int32) (v_opened : Int32) (v_isCold : Int32) (v_code : Nat → Int32) (v_coded : Int32)  : Option ((Int32) × (Int32) × (Int32) × (Nat → Int32) × (Int32)) :=
  bd1 (f_X7_here v_d v_base v_at v_size v_fault) (fun r_1 => jnA (bd5 (rc v_d v_base v_at v_size v_fault v_opened v_isCold v_code v_coded r_1) (fun v_at_2 v_fault_3 v_opened_4 v_code_5 v_coded_6 => some (v_at_2, v_fault_3, v_opened_4, v_code_5, v_coded_6))) (fun J17 => (if r_1 = 33 then J17 else (if r_1 = 40 then J17 else bd1 (f_X7_nameOf v_isCold r_1) (fun r_7 => (if r_7 < 0 then jnA (fun (v_at_8 : Int32) (l3_9 : Int32) (l4_10 : Int32) => jnA (fun (v_fault_11 : Int32) => bd2 (f_X7_lay v_fault_11 v_code v_coded l3_9) (fun v_code_12 v_coded_13 => some (v_at_8, v_fault_11, v_opened, v_code_12, v_coded_13))) (fun J119 => (if l4_10 = 0 then bd1 (f_X7_wrong v_at_8 v_fault) (fun v_fault_14 => J119 v_fault_14) else J119 v_fault))) (fun J110 => f_X7_unit_L58 v_d v_base v_size v_fault J110 300 v_at 0 0) else nmA (v_at + 1) (fun v_at_24 => bd2 (f_X7_lay v_fault v_code v_coded (10000 + r_7)) (fun v_code_25 v_coded_26 => some (v_at_24, v_fault, v_opened, v_code_25, v_coded_26)))))))))
set_option maxHeartbeats 600000 in
set_option maxRecDepth 100000 in
theorem c_X7_unit (l : Launch) (D : va_G) (cI cS : ClassId) (o : Nat → Nat) (rc : (Nat → Int32) → (Int32) → (Int32) → (Int32) → (Int32) → (Int32) → (Int32) → (Nat → Int32) → (Int32) → Int32 → Option ((Int32) × (Int32) × (Int32) × (Nat → Int32) × (Int32))) (fr lo : Nat) (hrc : ∀ (v_d : Nat → Int32) (v_kept : Nat → Int32) (v_images : Int32) (v_found : Nat → Int32) (v_aside : Nat → Int32) (v_base : Int32) (v_at : Int32) (v_size : Int32) (v_fault : Int32) (v_opened : Int32) (v_isCold : Int32) (v_names : Nat → Int32) (v_code : Nat → Int32) (v_coded : Int32) (v_pile : Nat → Int32) (v_horn : Int32) (v_brass : Int32) (v_coldAhead : Nat → Int32) (v_which : Nat → Int32) (v_whichMany : Int32) (v_bestPass : Int32) (v_bestLive : Int32) (v_bestCode : Int32) (v_traced : Nat → Int32) (v_traceMany : Int32) (v_who : Int32) (v_bitsOf : Nat → Int32) (v_sizeOf : Nat → Int32) (v_number : Nat → Int32) (v_lifted : Nat → Int32) (p0 : Int32) (w_at : Int32) (w_fault : Int32) (w_opened : Int32) (w_code : Nat → Int32) (w_coded : Int32), rc v_d v_base v_at v_size v_fault v_opened v_isCold v_code v_coded p0 = some (w_at, w_fault, w_opened, w_code, w_coded) → MetV l D (tysX cI cS) St0 yX7_opens cX7_opens 2 none fr lo [.ref (o 0), .int p0] (pcX7 o cI v_d v_kept v_images v_found v_aside v_base v_at v_size v_fault v_opened v_isCold v_names v_code v_coded v_pile v_horn v_brass v_coldAhead v_which v_whichMany v_bestPass v_bestLive v_bestCode v_traced v_traceMany v_who v_bitsOf v_sizeOf v_number v_lifted) (pcX7 o cI v_d v_kept v_images v_found v_aside v_base w_at v_size w_fault w_opened v_isCold v_names w_code w_coded v_pile v_horn v_brass v_coldAhead v_which v_whichMany v_bestPass v_bestLive v_bestCode v_traced v_traceMany v_who v_bitsOf v_sizeOf v_number v_lifted)) {v_d : Nat → Int32} {v_kept : Nat → Int32} {v_images : Int32} {v_found : Nat → Int32} {v_aside : Nat → Int32} {v_base : Int32} {v_at : Int32} {v_size : Int32} {v_fault : Int32} {v_opened : Int32} {v_isCold : Int32} {v_names : Nat → Int32} {v_code : Nat → Int32} {v_coded : Int32} {v_pile : Nat → Int32} {v_horn : Int32} {v_brass : Int32} {v_coldAhead : Nat → Int32} {v_which : Nat → Int32} {v_whichMany : Int32} {v_bestPass : Int32} {v_bestLive : Int32} {v_bestCode : Int32} {v_traced : Nat → Int32} {v_traceMany : Int32} {v_who : Int32} {v_bitsOf : Nat → Int32} {v_sizeOf : Nat → Int32} {v_number : Nat → Int32} {v_lifted : Nat → Int32}  {w_at : Int32} {w_fault : Int32} {w_opened : Int32} {w_code : Nat → Int32} {w_coded : Int32} (h : f_X7_unit rc v_d v_base v_at v_size v_fault v_opened v_isCold v_code v_coded  = some (w_at, w_fault, w_opened, w_code, w_coded)) : MetV l D (tysX cI cS) St0 yX7_unit cX7_unit 5 none (fr + 1) (lo + 25) [.ref (o 0)] (pcX7 o cI v_d v_kept v_images v_found v_aside v_base v_at v_size v_fault v_opened v_isCold v_names v_code v_coded v_pile v_horn v_brass v_coldAhead v_which v_whichMany v_bestPass v_bestLive v_bestCode v_traced v_traceMany v_who v_bitsOf v_sizeOf v_number v_lifted) (pcX7 o cI v_d v_kept v_images v_found v_aside v_base w_at v_size w_fault w_opened v_isCold v_names w_code w_coded v_pile v_horn v_brass v_coldAhead v_which v_whichMany v_bestPass v_bestLive v_bestCode v_traced v_traceMany v_who v_bitsOf v_sizeOf v_number v_lifted) := by
  refine Ent.metV (by decide +kernel) (Nat.le_of_ble_eq_true rfl) ?_
  intro p e s m args below meth c A ls hx hb hr hml hown hts hlocks hA hK hSt hP hD hS hl
  have hown : s.vm.findClass RX7 = some m.cls := hown
  have S : XFix p m c cX7_unit 5 s args RX7 := ⟨hx, hb, hml, hown, hts⟩
  have hl : lv_has ls 5 [(0, .ref (o 0))] := hl
  unfold f_X7_unit at h
  refine lv_aload_n hx hb dX7_unit_0 rfl (lv_at hl 0 rfl) ?_
  obtain ⟨r_1, hc1, h⟩ := bd1_s h
  refine x_selfVi (As := []) (rest := []) St0_ok S (c_X7_here l D cI cS o hc1) yf_X7_here wd21_5 ⟨by show 0 + 1 ≤ (fr + 1); omega, by show 8 + (1 + 11) + 0 ≤ (lo + 25); omega⟩ hK hSt hA hP hD hS 0 rfl rfl rfl hl.1 rfl (Nat.le_of_ble_eq_true rfl) dX7_unit_1 (Nat.zero_le _) (Nat.zero_le _) (fun H locs hP hD hS => ?_)
  refine lv_istore_n (lv' := [(1, .int r_1), (0, .ref (o 0))]) hx hb dX7_unit_4 rfl hl (by decide) rfl (fun ls hl => ?_)
  refine lv_iload_n hx hb dX7_unit_5 rfl (lv_at hl 0 rfl) ?_
  refine lv_bipush (v := 33) hx hb dX7_unit_6 (by decide) ?_
  obtain ⟨J17, eJ17, h⟩ := jnA_s h
  have wJ17 : J17  = some (w_at, w_fault, w_opened, w_code, w_coded) → ∀ (H : Heap) (locs : List Loc), va_P D vwCl (pcX7 o cI v_d v_kept v_images v_found v_aside v_base v_at v_size v_fault v_opened v_isCold v_names v_code v_coded v_pile v_horn v_brass v_coldAhead v_which v_whichMany v_bestPass v_bestLive v_bestCode v_traced v_traceMany v_who v_bitsOf v_sizeOf v_number v_lifted) H → va_D A (pcX7 o cI v_d v_kept v_images v_found v_aside v_base v_at v_size v_fault v_opened v_isCold v_names v_code v_coded v_pile v_horn v_brass v_coldAhead v_which v_whichMany v_bestPass v_bestLive v_bestCode v_traced v_traceMany v_who v_bitsOf v_sizeOf v_number v_lifted) → va_S A s.heap H locs → ∀ ls : Array Slot, lv_has ls 5 [(0, .ref (o 0)), (1, .int r_1)] → WV p l e (fr + 1) (lo + 25) s m args below meth c D (tysX cI cS) A (pcX7 o cI v_d v_kept v_images v_found v_aside v_base w_at v_size w_fault w_opened v_isCold v_names w_code w_coded v_pile v_horn v_brass v_coldAhead v_which v_whichMany v_bestPass v_bestLive v_bestCode v_traced v_traceMany v_who v_bitsOf v_sizeOf v_number v_lifted) H locs (F0 m 17 ls []) := by
      intro h H locs hP hD hS ls hl
      subst eJ17
      refine lv_aload_n hx hb dX7_unit_17 rfl (lv_at hl 0 rfl) ?_
      refine lv_iload_n hx hb dX7_unit_18 rfl (lv_at hl 1 rfl) ?_
      obtain ⟨v_at_2, v_fault_3, v_opened_4, v_code_5, v_coded_6, hc19, h⟩ := bd5_s h
      refine x_selfVv (As := [.int r_1]) (rest := []) St0_ok S (hrc _ _ _ _ _ _ _ _ _ _ _ _ _ _ _ _ _ _ _ _ _ _ _ _ _ _ _ _ _ _ _ _ _ _ _ _ hc19) yf_X7_opens wd22_13 ⟨by show fr + 1 ≤ (fr + 1); omega, by show 8 + (2 + 11) + lo ≤ (lo + 25); omega⟩ hK hSt hA hP hD hS 0 rfl rfl rfl hl.1 rfl (Nat.le_of_ble_eq_true rfl) dX7_unit_19 (Nat.zero_le _) (Nat.zero_le _) (fun H locs hP hD hS => ?_)
      cases h
      exact x_vret hx hb hr hlocks hK hP hD hS rfl dX7_unit_22
  refine x_icmp_eq (tgt := 17) hx hb h dX7_unit_8 (by decide) (fun c8 h => ?_) (fun c8 h => ?_)
  · exact wJ17 h _ _ hP hD hS _ (lv_sub hl [1, 0] rfl)
  · refine lv_iload_n hx hb dX7_unit_11 rfl (lv_at hl 0 rfl) ?_
    refine lv_bipush (v := 40) hx hb dX7_unit_12 (by decide) ?_
    refine x_icmp_ne (tgt := 23) hx hb h dX7_unit_14 (by decide) (fun c14 h => ?_) (fun c14 h => ?_)
    · refine lv_aload_n hx hb dX7_unit_23 rfl (lv_at hl 1 rfl) ?_
      refine lv_iload_n hx hb dX7_unit_24 rfl (lv_at hl 0 rfl) ?_
      obtain ⟨r_7, hc25, h⟩ := bd1_s h
      refine x_selfVi (As := [.int r_1]) (rest := []) St0_ok S (c_X7_nameOf l D cI cS o hc25) yf_X7_nameOf wd22_16 ⟨by show 0 + 1 ≤ (fr + 1); omega, by show 8 + (2 + 11) + 0 ≤ (lo + 25); omega⟩ hK hSt hA hP hD hS 0 rfl rfl rfl hl.1 rfl (Nat.le_of_ble_eq_true rfl) dX7_unit_25 (Nat.zero_le _) (Nat.zero_le _) (fun H locs hP hD hS => ?_)
      refine lv_istore_n (lv' := [(2, .int r_7), (1, .int r_1), (0, .ref (o 0))]) hx hb dX7_unit_28 rfl hl (by decide) rfl (fun ls hl => ?_)
      refine lv_iload_n hx hb dX7_unit_29 rfl (lv_at hl 0 rfl) ?_
      refine x_if_lt (tgt := 53) hx hb h dX7_unit_30 (by decide) (fun c30 h => ?_) (fun c30 h => ?_)
      · refine lv_iconst (v := 0) hx hb dX7_unit_53 (by decide) ?_
        refine lv_istore_n (lv' := [(3, .int 0), (2, .int r_7), (1, .int r_1), (0, .ref (o 0))]) hx hb dX7_unit_54 rfl hl (by decide) rfl (fun ls hl => ?_)
        refine lv_iconst (v := 0) hx hb dX7_unit_55 (by decide) ?_
        refine lv_istore (lv' := [(4, .int 0), (3, .int 0), (2, .int r_7), (1, .int r_1), (0, .ref (o 0))]) hx hb dX7_unit_56 hl (by decide) rfl (fun ls hl => ?_)
        obtain ⟨J110, eJ110, h⟩ := jnA_s h
        have wJ110 : ∀ (v_at_8 : Int32) (l3_9 : Int32) (l4_10 : Int32), J110 v_at_8 l3_9 l4_10 = some (w_at, w_fault, w_opened, w_code, w_coded) → ∀ (H : Heap) (locs : List Loc), va_P D vwCl (pcX7 o cI v_d v_kept v_images v_found v_aside v_base v_at_8 v_size v_fault v_opened v_isCold v_names v_code v_coded v_pile v_horn v_brass v_coldAhead v_which v_whichMany v_bestPass v_bestLive v_bestCode v_traced v_traceMany v_who v_bitsOf v_sizeOf v_number v_lifted) H → va_D A (pcX7 o cI v_d v_kept v_images v_found v_aside v_base v_at_8 v_size v_fault v_opened v_isCold v_names v_code v_coded v_pile v_horn v_brass v_coldAhead v_which v_whichMany v_bestPass v_bestLive v_bestCode v_traced v_traceMany v_who v_bitsOf v_sizeOf v_number v_lifted) → va_S A s.heap H locs → ∀ ls : Array Slot, lv_has ls 5 [(0, .ref (o 0)), (3, .int l3_9), (4, .int l4_10)] → WV p l e (fr + 1) (lo + 25) s m args below meth c D (tysX cI cS) A (pcX7 o cI v_d v_kept v_images v_found v_aside v_base w_at v_size w_fault w_opened v_isCold v_names w_code w_coded v_pile v_horn v_brass v_coldAhead v_which v_whichMany v_bestPass v_bestLive v_bestCode v_traced v_traceMany v_who v_bitsOf v_sizeOf v_number v_lifted) H locs (F0 m 110 ls []) := by
            intro v_at_8 l3_9 l4_10 h H locs hP hD hS ls hl
            subst eJ110
            dsimp only at h
            refine lv_iload hx hb dX7_unit_110 (lv_at hl 2 rfl) ?_
            obtain ⟨J119, eJ119, h⟩ := jnA_s h
            have wJ119 : ∀ (v_fault_11 : Int32), J119 v_fault_11 = some (w_at, w_fault, w_opened, w_code, w_coded) → ∀ (H : Heap) (locs : List Loc), va_P D vwCl (pcX7 o cI v_d v_kept v_images v_found v_aside v_base v_at_8 v_size v_fault_11 v_opened v_isCold v_names v_code v_coded v_pile v_horn v_brass v_coldAhead v_which v_whichMany v_bestPass v_bestLive v_bestCode v_traced v_traceMany v_who v_bitsOf v_sizeOf v_number v_lifted) H → va_D A (pcX7 o cI v_d v_kept v_images v_found v_aside v_base v_at_8 v_size v_fault_11 v_opened v_isCold v_names v_code v_coded v_pile v_horn v_brass v_coldAhead v_which v_whichMany v_bestPass v_bestLive v_bestCode v_traced v_traceMany v_who v_bitsOf v_sizeOf v_number v_lifted) → va_S A s.heap H locs → ∀ ls : Array Slot, lv_has ls 5 [(0, .ref (o 0)), (3, .int l3_9)] → WV p l e (fr + 1) (lo + 25) s m args below meth c D (tysX cI cS) A (pcX7 o cI v_d v_kept v_images v_found v_aside v_base w_at v_size w_fault w_opened v_isCold v_names w_code w_coded v_pile v_horn v_brass v_coldAhead v_which v_whichMany v_bestPass v_bestLive v_bestCode v_traced v_traceMany v_who v_bitsOf v_sizeOf v_number v_lifted) H locs (F0 m 119 ls []) := by
                intro v_fault_11 h H locs hP hD hS ls hl
                subst eJ119
                dsimp only at h
                refine lv_aload_n hx hb dX7_unit_119 rfl (lv_at hl 0 rfl) ?_
                refine lv_iload_n hx hb dX7_unit_120 rfl (lv_at hl 1 rfl) ?_
                obtain ⟨v_code_12, v_coded_13, hc121, h⟩ := bd2_s h
                refine x_selfVv (As := [.int l3_9]) (rest := []) St0_ok S (c_X7_lay l D cI cS o hc121) yf_X7_lay wd21_9 ⟨by show 0 + 1 ≤ (fr + 1); omega, by show 8 + (2 + 11) + 0 ≤ (lo + 25); omega⟩ hK hSt hA hP hD hS 0 rfl rfl rfl hl.1 rfl (Nat.le_of_ble_eq_true rfl) dX7_unit_121 (Nat.zero_le _) (Nat.zero_le _) (fun H locs hP hD hS => ?_)
                cases h
                exact x_vret hx hb hr hlocks hK hP hD hS rfl dX7_unit_124
            refine x_if_ne (tgt := 119) hx hb h dX7_unit_112 (by decide) (fun c112 h => ?_) (fun c112 h => ?_)
            · exact wJ119 v_fault h _ _ hP hD hS _ (lv_sub hl [0, 1] rfl)
            · refine lv_aload_n hx hb dX7_unit_115 rfl (lv_at hl 0 rfl) ?_
              obtain ⟨v_fault_14, hc116, h⟩ := bd1_s h
              refine x_selfVv (As := []) (rest := []) St0_ok S (c_X7_wrong l D cI cS o hc116) yf_X7_wrong wd21_22 ⟨by show 0 + 1 ≤ (fr + 1); omega, by show 8 + (1 + 11) + 0 ≤ (lo + 25); omega⟩ hK hSt hA hP hD hS 0 rfl rfl rfl hl.1 rfl (Nat.le_of_ble_eq_true rfl) dX7_unit_116 (Nat.zero_le _) (Nat.zero_le _) (fun H locs hP hD hS => ?_)
              exact wJ119 v_fault_14 h _ _ hP hD hS _ (lv_sub hl [0, 1] rfl)
        have wf_X7_unit_L58 : ∀ (k_n : Nat) (v_at_15 : Int32) (l3_16 : Int32) (l4_17 : Int32), f_X7_unit_L58 v_d v_base v_size v_fault J110 k_n v_at_15 l3_16 l4_17 = some (w_at, w_fault, w_opened, w_code, w_coded) → ∀ (H : Heap) (locs : List Loc), va_P D vwCl (pcX7 o cI v_d v_kept v_images v_found v_aside v_base v_at_15 v_size v_fault v_opened v_isCold v_names v_code v_coded v_pile v_horn v_brass v_coldAhead v_which v_whichMany v_bestPass v_bestLive v_bestCode v_traced v_traceMany v_who v_bitsOf v_sizeOf v_number v_lifted) H → va_D A (pcX7 o cI v_d v_kept v_images v_found v_aside v_base v_at_15 v_size v_fault v_opened v_isCold v_names v_code v_coded v_pile v_horn v_brass v_coldAhead v_which v_whichMany v_bestPass v_bestLive v_bestCode v_traced v_traceMany v_who v_bitsOf v_sizeOf v_number v_lifted) → va_S A s.heap H locs → ∀ ls : Array Slot, lv_has ls 5 [(0, .ref (o 0)), (3, .int l3_16), (4, .int l4_17)] → WV p l e (fr + 1) (lo + 25) s m args below meth c D (tysX cI cS) A (pcX7 o cI v_d v_kept v_images v_found v_aside v_base w_at v_size w_fault w_opened v_isCold v_names w_code w_coded v_pile v_horn v_brass v_coldAhead v_which v_whichMany v_bestPass v_bestLive v_bestCode v_traced v_traceMany v_who v_bitsOf v_sizeOf v_number v_lifted) H locs (F0 m 58 ls []) := by
            intro k_n
            induction k_n with
            | zero => intro v_at_15 l3_16 l4_17 h; rw [f_X7_unit_L58] at h; cases h
            | succ k_n ih =>
              intro v_at_15 l3_16 l4_17 h H locs hP hD hS ls hl
              rw [f_X7_unit_L58] at h
              refine lv_iload hx hb dX7_unit_58 (lv_at hl 2 rfl) ?_
              refine lv_iconst (v := 4) hx hb dX7_unit_60 (by decide) ?_
              refine x_icmp_ge (tgt := 110) hx hb h dX7_unit_61 (by decide) (fun c61 h => ?_) (fun c61 h => ?_)
              · exact wJ110 v_at_15 l3_16 l4_17 h _ _ hP hD hS _ (lv_sub hl [0, 1, 2] rfl)
              · refine lv_aload_n hx hb dX7_unit_64 rfl (lv_at hl 0 rfl) ?_
                obtain ⟨r_18, hc65, h⟩ := bd1_s h
                refine x_selfVi (As := []) (rest := []) St0_ok S (c_X7_here l D cI cS o hc65) yf_X7_here wd21_5 ⟨by show 0 + 1 ≤ (fr + 1); omega, by show 8 + (1 + 11) + 0 ≤ (lo + 25); omega⟩ hK hSt hA hP hD hS 0 rfl rfl rfl hl.1 rfl (Nat.le_of_ble_eq_true rfl) dX7_unit_65 (Nat.zero_le _) (Nat.zero_le _) (fun H locs hP hD hS => ?_)
                refine lv_i2l (v := (r_18.toInt64)) hx hb dX7_unit_68 rfl ?_
                refine lv_ldc2 (v := 48) hx hb hown (hts _ wd22_11) dX7_unit_69 ?_
                refine lv_ldc2 (v := 57) hx hb hown (hts _ wd22_12) dX7_unit_72 ?_
                obtain ⟨r_19, hc75, h⟩ := bd1_s h
                refine x_statI (As := [.long (r_18.toInt64), .long 48, .long 57]) (rest := []) St0_ok S (c_X7_in l D cI cS o hc75) ys_X7_in wd6_7 ⟨by show 0 + 1 ≤ (fr + 1); omega, by show 8 + (6 + 11) + 0 ≤ (lo + 25); omega⟩ hK hSt hA hP hD hS rfl hl.1 rfl (Nat.le_of_ble_eq_true rfl) dX7_unit_75 (Nat.zero_le _) (Nat.zero_le _) (fun H locs hP hD hS => ?_)
                refine x_if_eq (tgt := 110) hx hb h dX7_unit_78 (by decide) (fun c78 h => ?_) (fun c78 h => ?_)
                · exact wJ110 v_at_15 l3_16 l4_17 h _ _ hP hD hS _ (lv_sub hl [0, 1, 2] rfl)
                · refine lv_bipush (v := 10) hx hb dX7_unit_81 (by decide) ?_
                  refine lv_iload_n hx hb dX7_unit_83 rfl (lv_at hl 1 rfl) ?_
                  refine lv_imul hx hb dX7_unit_84 ?_
                  refine lv_aload_n hx hb dX7_unit_85 rfl (lv_at hl 0 rfl) ?_
                  obtain ⟨r_20, hc86, h⟩ := bd1_s h
                  refine x_selfVi (As := []) (rest := [.int (10 * l3_16)]) St0_ok S (c_X7_here l D cI cS o hc86) yf_X7_here wd21_5 ⟨by show 0 + 1 ≤ (fr + 1); omega, by show 8 + (1 + 11) + 0 ≤ (lo + 25); omega⟩ hK hSt hA hP hD hS 0 rfl rfl rfl hl.1 rfl (Nat.le_of_ble_eq_true rfl) dX7_unit_86 (Nat.zero_le _) (Nat.zero_le _) (fun H locs hP hD hS => ?_)
                  refine lv_iadd hx hb dX7_unit_89 ?_
                  refine lv_bipush (v := 48) hx hb dX7_unit_90 (by decide) ?_
                  refine lv_isub hx hb dX7_unit_92 ?_
                  refine x_nm h (fun l3_21 el3_21 h => ?_)
                  refine lv_istore_n (lv' := [(3, .int l3_21), (0, .ref (o 0)), (4, .int l4_17)]) hx hb dX7_unit_93 rfl hl (by decide) rfl (fun ls hl => ?_)
                  refine lv_aload_n hx hb dX7_unit_94 rfl (lv_at hl 1 rfl) ?_
                  refine lv_dup hx hb dX7_unit_95 rfl ?_
                  refine gt_X7_57 S hK hP 0 rfl rfl dX7_unit_96 ?_
                  refine lv_iconst (v := 1) hx hb dX7_unit_99 (by decide) ?_
                  refine lv_iadd hx hb dX7_unit_100 ?_
                  refine x_nm h (fun v_at_22 ev_at_22 h => ?_)
                  refine pt_X7_57 S hK hP hD hS 0 rfl (Nat.le_of_ble_eq_true rfl) dX7_unit_101 (fun H locs hP hD hS => ?_)
                  have hP : va_P D vwCl (pcX7 o cI v_d v_kept v_images v_found v_aside v_base v_at_22 v_size v_fault v_opened v_isCold v_names v_code v_coded v_pile v_horn v_brass v_coldAhead v_which v_whichMany v_bestPass v_bestLive v_bestCode v_traced v_traceMany v_who v_bitsOf v_sizeOf v_number v_lifted) H := hP
                  have hD : va_D A (pcX7 o cI v_d v_kept v_images v_found v_aside v_base v_at_22 v_size v_fault v_opened v_isCold v_names v_code v_coded v_pile v_horn v_brass v_coldAhead v_which v_whichMany v_bestPass v_bestLive v_bestCode v_traced v_traceMany v_who v_bitsOf v_sizeOf v_number v_lifted) := hD
                  obtain ⟨l4_23, el4_23, h⟩ := nmA_s h
                  refine lv_iinc (v := l4_23) (lv' := [(4, .int l4_23), (3, .int l3_21), (0, .ref (o 0))]) hx hb dX7_unit_104 hl (k := 2) rfl (by rw [el4_23]; exact congrArg _ (by decide)) (by decide) rfl (fun ls hl => ?_)
                  refine lv_goto (tgt := 58) hx hb dX7_unit_107 (by decide) ?_
                  exact ih v_at_22 l3_21 l4_23 h _ _ hP hD hS _ (lv_sub hl [2, 1, 0] rfl)
        exact wf_X7_unit_L58 300 v_at 0 0 h _ _ hP hD hS _ (lv_sub hl [4, 1, 0] rfl)
      · refine lv_aload_n hx hb dX7_unit_33 rfl (lv_at hl 2 rfl) ?_
        refine lv_dup hx hb dX7_unit_34 rfl ?_
        refine gt_X7_57 S hK hP 0 rfl rfl dX7_unit_35 ?_
        refine lv_iconst (v := 1) hx hb dX7_unit_38 (by decide) ?_
        refine lv_iadd hx hb dX7_unit_39 ?_
        refine x_nm h (fun v_at_24 ev_at_24 h => ?_)
        refine pt_X7_57 S hK hP hD hS 0 rfl (Nat.le_of_ble_eq_true rfl) dX7_unit_40 (fun H locs hP hD hS => ?_)
        have hP : va_P D vwCl (pcX7 o cI v_d v_kept v_images v_found v_aside v_base v_at_24 v_size v_fault v_opened v_isCold v_names v_code v_coded v_pile v_horn v_brass v_coldAhead v_which v_whichMany v_bestPass v_bestLive v_bestCode v_traced v_traceMany v_who v_bitsOf v_sizeOf v_number v_lifted) H := hP
        have hD : va_D A (pcX7 o cI v_d v_kept v_images v_found v_aside v_base v_at_24 v_size v_fault v_opened v_isCold v_names v_code v_coded v_pile v_horn v_brass v_coldAhead v_which v_whichMany v_bestPass v_bestLive v_bestCode v_traced v_traceMany v_who v_bitsOf v_sizeOf v_number v_lifted) := hD
        refine lv_aload_n hx hb dX7_unit_43 rfl (lv_at hl 2 rfl) ?_
        refine lv_sipush (v := 10000) hx hb dX7_unit_44 (by decide) ?_
        refine lv_iload_n hx hb dX7_unit_47 rfl (lv_at hl 0 rfl) ?_
        refine lv_iadd hx hb dX7_unit_48 ?_
        obtain ⟨v_code_25, v_coded_26, hc49, h⟩ := bd2_s h
        refine x_selfVv (As := [.int (10000 + r_7)]) (rest := []) St0_ok S (c_X7_lay l D cI cS o hc49) yf_X7_lay wd21_9 ⟨by show 0 + 1 ≤ (fr + 1); omega, by show 8 + (2 + 11) + 0 ≤ (lo + 25); omega⟩ hK hSt hA hP hD hS 0 rfl rfl rfl hl.1 rfl (Nat.le_of_ble_eq_true rfl) dX7_unit_49 (Nat.zero_le _) (Nat.zero_le _) (fun H locs hP hD hS => ?_)
        cases h
        exact x_vret hx hb hr hlocks hK hP hD hS rfl dX7_unit_52
    · exact wJ17 h _ _ hP hD hS _ (lv_sub hl [1, 0] rfl)

def f_X7_product_L4 (rc : (Nat → Int32) → (Int32) → (Int32) → (Int32) → (Int32) → (Int32) → (Int32) → (Nat → Int32) → (Int32) → Int32 → Option ((Int32) × (Int32) × (Int32) × (Nat → Int32) × (Int32))) (v_d : Nat → Int32) (v_base : Int32) (v_size : Int32) (v_isCold : Int32) : Nat → Int32 → Int32 → Int32 → (Nat → Int32) → Int32 → Option ((Int32) × (Int32) × (Int32) × (Nat → Int32) × (Int32))
  | 0, _, _, _, _, _ => none
  | k_n + 1, v_at_6, v_fault_7, v_opened_8, v_code_9, v_coded_10 => bd1 (f_X7_here v_d v_base v_at_6 v_size v_fault_7) (fun r_11 => jnA (bd1 (f_X7_here v_d v_base v_at_6 v_size v_fault_7) (fun r_12 => nmA (v_at_6 + 1) (fun v_at_13 => bd5 (f_X7_unit rc v_d v_base v_at_13 v_size v_fault_7 v_opened_8 v_isCold v_code_9 v_coded_10) (fun v_at_14 v_fault_15 v_opened_16 v_code_17 v_coded_18 => bd2 (f_X7_lay v_fault_15 v_code_17 v_coded_18 (20000 + r_12)) (fun v_code_19 v_coded_20 => f_X7_product_L4 rc v_d v_base v_size v_isCold k_n v_at_14 v_fault_15 v_opened_16 v_code_19 v_coded_20))))) (fun J31 => (if r_11 = 42 then J31 else bd1 (f_X7_here v_d v_base v_at_6 v_size v_fault_7) (fun r_21 => (if r_21 = 47 then J31 else bd1 (f_X7_here v_d v_base v_at_6 v_size v_fault_7) (fun r_22 => (if r_22 = 37 then J31 else some (v_at_6, v_fault_7, v_opened_8, v_code_9, v_coded_10))))))))
def f_X7_product (rc : (Nat → Int32) → (Int32) → (Int32) → (Int32) → (Int32) → (Int32) → (Int32) → (Nat → Int32) → (Int32) → Int32 → Option ((Int32) × (Int32) × (Int32) × (Nat → Int32) × (Int32))) (v_d : Nat → Int32) (v_base : Int32) (v_at : Int32) (v_size : Int32) (v_fault : Int32) (v_opened : Int32) (v_isCold : Int32) (v_code : Nat → Int32) (v_coded : Int32)  : Option ((Int32) × (Int32) × (Int32) × (Nat → Int32) × (Int32)) :=
  bd5 (f_X7_unit rc v_d v_base v_at v_size v_fault v_opened v_isCold v_code v_coded) (fun v_at_1 v_fault_2 v_opened_3 v_code_4 v_coded_5 => f_X7_product_L4 rc v_d v_base v_size v_isCold 300 v_at_1 v_fault_2 v_opened_3 v_code_4 v_coded_5)
set_option maxHeartbeats 600000 in
set_option maxRecDepth 100000 in
theorem c_X7_product (l : Launch) (D : va_G) (cI cS : ClassId) (o : Nat → Nat) (rc : (Nat → Int32) → (Int32) → (Int32) → (Int32) → (Int32) → (Int32) → (Int32) → (Nat → Int32) → (Int32) → Int32 → Option ((Int32) × (Int32) × (Int32) × (Nat → Int32) × (Int32))) (fr lo : Nat) (hrc : ∀ (v_d : Nat → Int32) (v_kept : Nat → Int32) (v_images : Int32) (v_found : Nat → Int32) (v_aside : Nat → Int32) (v_base : Int32) (v_at : Int32) (v_size : Int32) (v_fault : Int32) (v_opened : Int32) (v_isCold : Int32) (v_names : Nat → Int32) (v_code : Nat → Int32) (v_coded : Int32) (v_pile : Nat → Int32) (v_horn : Int32) (v_brass : Int32) (v_coldAhead : Nat → Int32) (v_which : Nat → Int32) (v_whichMany : Int32) (v_bestPass : Int32) (v_bestLive : Int32) (v_bestCode : Int32) (v_traced : Nat → Int32) (v_traceMany : Int32) (v_who : Int32) (v_bitsOf : Nat → Int32) (v_sizeOf : Nat → Int32) (v_number : Nat → Int32) (v_lifted : Nat → Int32) (p0 : Int32) (w_at : Int32) (w_fault : Int32) (w_opened : Int32) (w_code : Nat → Int32) (w_coded : Int32), rc v_d v_base v_at v_size v_fault v_opened v_isCold v_code v_coded p0 = some (w_at, w_fault, w_opened, w_code, w_coded) → MetV l D (tysX cI cS) St0 yX7_opens cX7_opens 2 none fr lo [.ref (o 0), .int p0] (pcX7 o cI v_d v_kept v_images v_found v_aside v_base v_at v_size v_fault v_opened v_isCold v_names v_code v_coded v_pile v_horn v_brass v_coldAhead v_which v_whichMany v_bestPass v_bestLive v_bestCode v_traced v_traceMany v_who v_bitsOf v_sizeOf v_number v_lifted) (pcX7 o cI v_d v_kept v_images v_found v_aside v_base w_at v_size w_fault w_opened v_isCold v_names w_code w_coded v_pile v_horn v_brass v_coldAhead v_which v_whichMany v_bestPass v_bestLive v_bestCode v_traced v_traceMany v_who v_bitsOf v_sizeOf v_number v_lifted)) {v_d : Nat → Int32} {v_kept : Nat → Int32} {v_images : Int32} {v_found : Nat → Int32} {v_aside : Nat → Int32} {v_base : Int32} {v_at : Int32} {v_size : Int32} {v_fault : Int32} {v_opened : Int32} {v_isCold : Int32} {v_names : Nat → Int32} {v_code : Nat → Int32} {v_coded : Int32} {v_pile : Nat → Int32} {v_horn : Int32} {v_brass : Int32} {v_coldAhead : Nat → Int32} {v_which : Nat → Int32} {v_whichMany : Int32} {v_bestPass : Int32} {v_bestLive : Int32} {v_bestCode : Int32} {v_traced : Nat → Int32} {v_traceMany : Int32} {v_who : Int32} {v_bitsOf : Nat → Int32} {v_sizeOf : Nat → Int32} {v_number : Nat → Int32} {v_lifted : Nat → Int32}  {w_at : Int32} {w_fault : Int32} {w_opened : Int32} {w_code : Nat → Int32} {w_coded : Int32} (h : f_X7_product rc v_d v_base v_at v_size v_fault v_opened v_isCold v_code v_coded  = some (w_at, w_fault, w_opened, w_code, w_coded)) : MetV l D (tysX cI cS) St0 yX7_product cX7_product 2 none (fr + 2) (lo + 49) [.ref (o 0)] (pcX7 o cI v_d v_kept v_images v_found v_aside v_base v_at v_size v_fault v_opened v_isCold v_names v_code v_coded v_pile v_horn v_brass v_coldAhead v_which v_whichMany v_bestPass v_bestLive v_bestCode v_traced v_traceMany v_who v_bitsOf v_sizeOf v_number v_lifted) (pcX7 o cI v_d v_kept v_images v_found v_aside v_base w_at v_size w_fault w_opened v_isCold v_names w_code w_coded v_pile v_horn v_brass v_coldAhead v_which v_whichMany v_bestPass v_bestLive v_bestCode v_traced v_traceMany v_who v_bitsOf v_sizeOf v_number v_lifted) := by
  refine Ent.metV (by decide +kernel) (Nat.le_of_ble_eq_true rfl) ?_
  intro p e s m args below meth c A ls hx hb hr hml hown hts hlocks hA hK hSt hP hD hS hl
  have hown : s.vm.findClass RX7 = some m.cls := hown
  have S : XFix p m c cX7_product 2 s args RX7 := ⟨hx, hb, hml, hown, hts⟩
  have hl : lv_has ls 2 [(0, .ref (o 0))] := hl
  unfold f_X7_product at h
  refine lv_aload_n hx hb dX7_product_0 rfl (lv_at hl 0 rfl) ?_
  obtain ⟨v_at_1, v_fault_2, v_opened_3, v_code_4, v_coded_5, hc1, h⟩ := bd5_s h
  refine x_selfVv (As := []) (rest := []) St0_ok S (c_X7_unit l D cI cS o rc fr lo hrc hc1) yf_X7_unit wd22_2 ⟨by show (fr + 1) + 1 ≤ (fr + 2); omega, by show 8 + (5 + 11) + (lo + 25) ≤ (lo + 49); omega⟩ hK hSt hA hP hD hS 0 rfl rfl rfl hl.1 rfl (Nat.le_of_ble_eq_true rfl) dX7_product_1 (Nat.zero_le _) (Nat.zero_le _) (fun H locs hP hD hS => ?_)
  have wf_X7_product_L4 : ∀ (k_n : Nat) (v_at_6 : Int32) (v_fault_7 : Int32) (v_opened_8 : Int32) (v_code_9 : Nat → Int32) (v_coded_10 : Int32), f_X7_product_L4 rc v_d v_base v_size v_isCold k_n v_at_6 v_fault_7 v_opened_8 v_code_9 v_coded_10 = some (w_at, w_fault, w_opened, w_code, w_coded) → ∀ (H : Heap) (locs : List Loc), va_P D vwCl (pcX7 o cI v_d v_kept v_images v_found v_aside v_base v_at_6 v_size v_fault_7 v_opened_8 v_isCold v_names v_code_9 v_coded_10 v_pile v_horn v_brass v_coldAhead v_which v_whichMany v_bestPass v_bestLive v_bestCode v_traced v_traceMany v_who v_bitsOf v_sizeOf v_number v_lifted) H → va_D A (pcX7 o cI v_d v_kept v_images v_found v_aside v_base v_at_6 v_size v_fault_7 v_opened_8 v_isCold v_names v_code_9 v_coded_10 v_pile v_horn v_brass v_coldAhead v_which v_whichMany v_bestPass v_bestLive v_bestCode v_traced v_traceMany v_who v_bitsOf v_sizeOf v_number v_lifted) → va_S A s.heap H locs → ∀ ls : Array Slot, lv_has ls 2 [(0, .ref (o 0))] → WV p l e (fr + 2) (lo + 49) s m args below meth c D (tysX cI cS) A (pcX7 o cI v_d v_kept v_images v_found v_aside v_base w_at v_size w_fault w_opened v_isCold v_names w_code w_coded v_pile v_horn v_brass v_coldAhead v_which v_whichMany v_bestPass v_bestLive v_bestCode v_traced v_traceMany v_who v_bitsOf v_sizeOf v_number v_lifted) H locs (F0 m 4 ls []) := by
      intro k_n
      induction k_n with
      | zero => intro v_at_6 v_fault_7 v_opened_8 v_code_9 v_coded_10 h; rw [f_X7_product_L4] at h; cases h
      | succ k_n ih =>
        intro v_at_6 v_fault_7 v_opened_8 v_code_9 v_coded_10 h H locs hP hD hS ls hl
        rw [f_X7_product_L4] at h
        refine lv_aload_n hx hb dX7_product_4 rfl (lv_at hl 0 rfl) ?_
        obtain ⟨r_11, hc5, h⟩ := bd1_s h
        refine x_selfVi (As := []) (rest := []) St0_ok S (c_X7_here l D cI cS o hc5) yf_X7_here wd21_5 ⟨by show 0 + 1 ≤ (fr + 2); omega, by show 8 + (1 + 11) + 0 ≤ (lo + 49); omega⟩ hK hSt hA hP hD hS 0 rfl rfl rfl hl.1 rfl (Nat.le_of_ble_eq_true rfl) dX7_product_5 (Nat.zero_le _) (Nat.zero_le _) (fun H locs hP hD hS => ?_)
        refine lv_bipush (v := 42) hx hb dX7_product_8 (by decide) ?_
        obtain ⟨J31, eJ31, h⟩ := jnA_s h
        have wJ31 : J31  = some (w_at, w_fault, w_opened, w_code, w_coded) → ∀ (H : Heap) (locs : List Loc), va_P D vwCl (pcX7 o cI v_d v_kept v_images v_found v_aside v_base v_at_6 v_size v_fault_7 v_opened_8 v_isCold v_names v_code_9 v_coded_10 v_pile v_horn v_brass v_coldAhead v_which v_whichMany v_bestPass v_bestLive v_bestCode v_traced v_traceMany v_who v_bitsOf v_sizeOf v_number v_lifted) H → va_D A (pcX7 o cI v_d v_kept v_images v_found v_aside v_base v_at_6 v_size v_fault_7 v_opened_8 v_isCold v_names v_code_9 v_coded_10 v_pile v_horn v_brass v_coldAhead v_which v_whichMany v_bestPass v_bestLive v_bestCode v_traced v_traceMany v_who v_bitsOf v_sizeOf v_number v_lifted) → va_S A s.heap H locs → ∀ ls : Array Slot, lv_has ls 2 [(0, .ref (o 0))] → WV p l e (fr + 2) (lo + 49) s m args below meth c D (tysX cI cS) A (pcX7 o cI v_d v_kept v_images v_found v_aside v_base w_at v_size w_fault w_opened v_isCold v_names w_code w_coded v_pile v_horn v_brass v_coldAhead v_which v_whichMany v_bestPass v_bestLive v_bestCode v_traced v_traceMany v_who v_bitsOf v_sizeOf v_number v_lifted) H locs (F0 m 31 ls []) := by
            intro h H locs hP hD hS ls hl
            subst eJ31
            refine lv_aload_n hx hb dX7_product_31 rfl (lv_at hl 0 rfl) ?_
            obtain ⟨r_12, hc32, h⟩ := bd1_s h
            refine x_selfVi (As := []) (rest := []) St0_ok S (c_X7_here l D cI cS o hc32) yf_X7_here wd21_5 ⟨by show 0 + 1 ≤ (fr + 2); omega, by show 8 + (1 + 11) + 0 ≤ (lo + 49); omega⟩ hK hSt hA hP hD hS 0 rfl rfl rfl hl.1 rfl (Nat.le_of_ble_eq_true rfl) dX7_product_32 (Nat.zero_le _) (Nat.zero_le _) (fun H locs hP hD hS => ?_)
            refine lv_istore_n (lv' := [(1, .int r_12), (0, .ref (o 0))]) hx hb dX7_product_35 rfl hl (by decide) rfl (fun ls hl => ?_)
            refine lv_aload_n hx hb dX7_product_36 rfl (lv_at hl 1 rfl) ?_
            refine lv_dup hx hb dX7_product_37 rfl ?_
            refine gt_X7_57 S hK hP 0 rfl rfl dX7_product_38 ?_
            refine lv_iconst (v := 1) hx hb dX7_product_41 (by decide) ?_
            refine lv_iadd hx hb dX7_product_42 ?_
            refine x_nm h (fun v_at_13 ev_at_13 h => ?_)
            refine pt_X7_57 S hK hP hD hS 0 rfl (Nat.le_of_ble_eq_true rfl) dX7_product_43 (fun H locs hP hD hS => ?_)
            have hP : va_P D vwCl (pcX7 o cI v_d v_kept v_images v_found v_aside v_base v_at_13 v_size v_fault_7 v_opened_8 v_isCold v_names v_code_9 v_coded_10 v_pile v_horn v_brass v_coldAhead v_which v_whichMany v_bestPass v_bestLive v_bestCode v_traced v_traceMany v_who v_bitsOf v_sizeOf v_number v_lifted) H := hP
            have hD : va_D A (pcX7 o cI v_d v_kept v_images v_found v_aside v_base v_at_13 v_size v_fault_7 v_opened_8 v_isCold v_names v_code_9 v_coded_10 v_pile v_horn v_brass v_coldAhead v_which v_whichMany v_bestPass v_bestLive v_bestCode v_traced v_traceMany v_who v_bitsOf v_sizeOf v_number v_lifted) := hD
            refine lv_aload_n hx hb dX7_product_46 rfl (lv_at hl 1 rfl) ?_
            obtain ⟨v_at_14, v_fault_15, v_opened_16, v_code_17, v_coded_18, hc47, h⟩ := bd5_s h
            refine x_selfVv (As := []) (rest := []) St0_ok S (c_X7_unit l D cI cS o rc fr lo hrc hc47) yf_X7_unit wd22_2 ⟨by show (fr + 1) + 1 ≤ (fr + 2); omega, by show 8 + (5 + 11) + (lo + 25) ≤ (lo + 49); omega⟩ hK hSt hA hP hD hS 0 rfl rfl rfl hl.1 rfl (Nat.le_of_ble_eq_true rfl) dX7_product_47 (Nat.zero_le _) (Nat.zero_le _) (fun H locs hP hD hS => ?_)
            refine lv_aload_n hx hb dX7_product_50 rfl (lv_at hl 1 rfl) ?_
            refine lv_sipush (v := 20000) hx hb dX7_product_51 (by decide) ?_
            refine lv_iload_n hx hb dX7_product_54 rfl (lv_at hl 0 rfl) ?_
            refine lv_iadd hx hb dX7_product_55 ?_
            obtain ⟨v_code_19, v_coded_20, hc56, h⟩ := bd2_s h
            refine x_selfVv (As := [.int (20000 + r_12)]) (rest := []) St0_ok S (c_X7_lay l D cI cS o hc56) yf_X7_lay wd21_9 ⟨by show 0 + 1 ≤ (fr + 2); omega, by show 8 + (2 + 11) + 0 ≤ (lo + 49); omega⟩ hK hSt hA hP hD hS 0 rfl rfl rfl hl.1 rfl (Nat.le_of_ble_eq_true rfl) dX7_product_56 (Nat.zero_le _) (Nat.zero_le _) (fun H locs hP hD hS => ?_)
            refine lv_goto (tgt := 4) hx hb dX7_product_59 (by decide) ?_
            exact ih v_at_14 v_fault_15 v_opened_16 v_code_19 v_coded_20 h _ _ hP hD hS _ (lv_sub hl [1] rfl)
        refine x_icmp_eq (tgt := 31) hx hb h dX7_product_10 (by decide) (fun c10 h => ?_) (fun c10 h => ?_)
        · exact wJ31 h _ _ hP hD hS _ (lv_sub hl [0] rfl)
        · refine lv_aload_n hx hb dX7_product_13 rfl (lv_at hl 0 rfl) ?_
          obtain ⟨r_21, hc14, h⟩ := bd1_s h
          refine x_selfVi (As := []) (rest := []) St0_ok S (c_X7_here l D cI cS o hc14) yf_X7_here wd21_5 ⟨by show 0 + 1 ≤ (fr + 2); omega, by show 8 + (1 + 11) + 0 ≤ (lo + 49); omega⟩ hK hSt hA hP hD hS 0 rfl rfl rfl hl.1 rfl (Nat.le_of_ble_eq_true rfl) dX7_product_14 (Nat.zero_le _) (Nat.zero_le _) (fun H locs hP hD hS => ?_)
          refine lv_bipush (v := 47) hx hb dX7_product_17 (by decide) ?_
          refine x_icmp_eq (tgt := 31) hx hb h dX7_product_19 (by decide) (fun c19 h => ?_) (fun c19 h => ?_)
          · exact wJ31 h _ _ hP hD hS _ (lv_sub hl [0] rfl)
          · refine lv_aload_n hx hb dX7_product_22 rfl (lv_at hl 0 rfl) ?_
            obtain ⟨r_22, hc23, h⟩ := bd1_s h
            refine x_selfVi (As := []) (rest := []) St0_ok S (c_X7_here l D cI cS o hc23) yf_X7_here wd21_5 ⟨by show 0 + 1 ≤ (fr + 2); omega, by show 8 + (1 + 11) + 0 ≤ (lo + 49); omega⟩ hK hSt hA hP hD hS 0 rfl rfl rfl hl.1 rfl (Nat.le_of_ble_eq_true rfl) dX7_product_23 (Nat.zero_le _) (Nat.zero_le _) (fun H locs hP hD hS => ?_)
            refine lv_bipush (v := 37) hx hb dX7_product_26 (by decide) ?_
            refine x_icmp_ne (tgt := 62) hx hb h dX7_product_28 (by decide) (fun c28 h => ?_) (fun c28 h => ?_)
            · cases h
              exact x_vret hx hb hr hlocks hK hP hD hS rfl dX7_product_62
            · exact wJ31 h _ _ hP hD hS _ (lv_sub hl [0] rfl)
  exact wf_X7_product_L4 300 v_at_1 v_fault_2 v_opened_3 v_code_4 v_coded_5 h _ _ hP hD hS _ (lv_sub hl [0] rfl)

def f_X7_sum_L4 (rc : (Nat → Int32) → (Int32) → (Int32) → (Int32) → (Int32) → (Int32) → (Int32) → (Nat → Int32) → (Int32) → Int32 → Option ((Int32) × (Int32) × (Int32) × (Nat → Int32) × (Int32))) (v_d : Nat → Int32) (v_base : Int32) (v_size : Int32) (v_isCold : Int32) : Nat → Int32 → Int32 → Int32 → (Nat → Int32) → Int32 → Option ((Int32) × (Int32) × (Int32) × (Nat → Int32) × (Int32))
  | 0, _, _, _, _, _ => none
  | k_n + 1, v_at_6, v_fault_7, v_opened_8, v_code_9, v_coded_10 => bd1 (f_X7_here v_d v_base v_at_6 v_size v_fault_7) (fun r_11 => jnA (bd1 (f_X7_here v_d v_base v_at_6 v_size v_fault_7) (fun r_12 => nmA (v_at_6 + 1) (fun v_at_13 => bd5 (f_X7_product rc v_d v_base v_at_13 v_size v_fault_7 v_opened_8 v_isCold v_code_9 v_coded_10) (fun v_at_14 v_fault_15 v_opened_16 v_code_17 v_coded_18 => bd2 (f_X7_lay v_fault_15 v_code_17 v_coded_18 (20000 + r_12)) (fun v_code_19 v_coded_20 => f_X7_sum_L4 rc v_d v_base v_size v_isCold k_n v_at_14 v_fault_15 v_opened_16 v_code_19 v_coded_20))))) (fun J22 => (if r_11 = 43 then J22 else bd1 (f_X7_here v_d v_base v_at_6 v_size v_fault_7) (fun r_21 => (if r_21 = 45 then J22 else some (v_at_6, v_fault_7, v_opened_8, v_code_9, v_coded_10))))))
def f_X7_sum (rc : (Nat → Int32) → (Int32) → (Int32) → (Int32) → (Int32) → (Int32) → (Int32) → (Nat → Int32) → (Int32) → Int32 → Option ((Int32) × (Int32) × (Int32) × (Nat → Int32) × (Int32))) (v_d : Nat → Int32) (v_base : Int32) (v_at : Int32) (v_size : Int32) (v_fault : Int32) (v_opened : Int32) (v_isCold : Int32) (v_code : Nat → Int32) (v_coded : Int32)  : Option ((Int32) × (Int32) × (Int32) × (Nat → Int32) × (Int32)) :=
  bd5 (f_X7_product rc v_d v_base v_at v_size v_fault v_opened v_isCold v_code v_coded) (fun v_at_1 v_fault_2 v_opened_3 v_code_4 v_coded_5 => f_X7_sum_L4 rc v_d v_base v_size v_isCold 300 v_at_1 v_fault_2 v_opened_3 v_code_4 v_coded_5)
set_option maxHeartbeats 600000 in
set_option maxRecDepth 100000 in
theorem c_X7_sum (l : Launch) (D : va_G) (cI cS : ClassId) (o : Nat → Nat) (rc : (Nat → Int32) → (Int32) → (Int32) → (Int32) → (Int32) → (Int32) → (Int32) → (Nat → Int32) → (Int32) → Int32 → Option ((Int32) × (Int32) × (Int32) × (Nat → Int32) × (Int32))) (fr lo : Nat) (hrc : ∀ (v_d : Nat → Int32) (v_kept : Nat → Int32) (v_images : Int32) (v_found : Nat → Int32) (v_aside : Nat → Int32) (v_base : Int32) (v_at : Int32) (v_size : Int32) (v_fault : Int32) (v_opened : Int32) (v_isCold : Int32) (v_names : Nat → Int32) (v_code : Nat → Int32) (v_coded : Int32) (v_pile : Nat → Int32) (v_horn : Int32) (v_brass : Int32) (v_coldAhead : Nat → Int32) (v_which : Nat → Int32) (v_whichMany : Int32) (v_bestPass : Int32) (v_bestLive : Int32) (v_bestCode : Int32) (v_traced : Nat → Int32) (v_traceMany : Int32) (v_who : Int32) (v_bitsOf : Nat → Int32) (v_sizeOf : Nat → Int32) (v_number : Nat → Int32) (v_lifted : Nat → Int32) (p0 : Int32) (w_at : Int32) (w_fault : Int32) (w_opened : Int32) (w_code : Nat → Int32) (w_coded : Int32), rc v_d v_base v_at v_size v_fault v_opened v_isCold v_code v_coded p0 = some (w_at, w_fault, w_opened, w_code, w_coded) → MetV l D (tysX cI cS) St0 yX7_opens cX7_opens 2 none fr lo [.ref (o 0), .int p0] (pcX7 o cI v_d v_kept v_images v_found v_aside v_base v_at v_size v_fault v_opened v_isCold v_names v_code v_coded v_pile v_horn v_brass v_coldAhead v_which v_whichMany v_bestPass v_bestLive v_bestCode v_traced v_traceMany v_who v_bitsOf v_sizeOf v_number v_lifted) (pcX7 o cI v_d v_kept v_images v_found v_aside v_base w_at v_size w_fault w_opened v_isCold v_names w_code w_coded v_pile v_horn v_brass v_coldAhead v_which v_whichMany v_bestPass v_bestLive v_bestCode v_traced v_traceMany v_who v_bitsOf v_sizeOf v_number v_lifted)) {v_d : Nat → Int32} {v_kept : Nat → Int32} {v_images : Int32} {v_found : Nat → Int32} {v_aside : Nat → Int32} {v_base : Int32} {v_at : Int32} {v_size : Int32} {v_fault : Int32} {v_opened : Int32} {v_isCold : Int32} {v_names : Nat → Int32} {v_code : Nat → Int32} {v_coded : Int32} {v_pile : Nat → Int32} {v_horn : Int32} {v_brass : Int32} {v_coldAhead : Nat → Int32} {v_which : Nat → Int32} {v_whichMany : Int32} {v_bestPass : Int32} {v_bestLive : Int32} {v_bestCode : Int32} {v_traced : Nat → Int32} {v_traceMany : Int32} {v_who : Int32} {v_bitsOf : Nat → Int32} {v_sizeOf : Nat → Int32} {v_number : Nat → Int32} {v_lifted : Nat → Int32}  {w_at : Int32} {w_fault : Int32} {w_opened : Int32} {w_code : Nat → Int32} {w_coded : Int32} (h : f_X7_sum rc v_d v_base v_at v_size v_fault v_opened v_isCold v_code v_coded  = some (w_at, w_fault, w_opened, w_code, w_coded)) : MetV l D (tysX cI cS) St0 yX7_sum cX7_sum 2 none (fr + 3) (lo + 70) [.ref (o 0)] (pcX7 o cI v_d v_kept v_images v_found v_aside v_base v_at v_size v_fault v_opened v_isCold v_names v_code v_coded v_pile v_horn v_brass v_coldAhead v_which v_whichMany v_bestPass v_bestLive v_bestCode v_traced v_traceMany v_who v_bitsOf v_sizeOf v_number v_lifted) (pcX7 o cI v_d v_kept v_images v_found v_aside v_base w_at v_size w_fault w_opened v_isCold v_names w_code w_coded v_pile v_horn v_brass v_coldAhead v_which v_whichMany v_bestPass v_bestLive v_bestCode v_traced v_traceMany v_who v_bitsOf v_sizeOf v_number v_lifted) := by
  refine Ent.metV (by decide +kernel) (Nat.le_of_ble_eq_true rfl) ?_
  intro p e s m args below meth c A ls hx hb hr hml hown hts hlocks hA hK hSt hP hD hS hl
  have hown : s.vm.findClass RX7 = some m.cls := hown
  have S : XFix p m c cX7_sum 2 s args RX7 := ⟨hx, hb, hml, hown, hts⟩
  have hl : lv_has ls 2 [(0, .ref (o 0))] := hl
  unfold f_X7_sum at h
  refine lv_aload_n hx hb dX7_sum_0 rfl (lv_at hl 0 rfl) ?_
  obtain ⟨v_at_1, v_fault_2, v_opened_3, v_code_4, v_coded_5, hc1, h⟩ := bd5_s h
  refine x_selfVv (As := []) (rest := []) St0_ok S (c_X7_product l D cI cS o rc fr lo hrc hc1) yf_X7_product wd22_7 ⟨by show (fr + 2) + 1 ≤ (fr + 3); omega, by show 8 + (2 + 11) + (lo + 49) ≤ (lo + 70); omega⟩ hK hSt hA hP hD hS 0 rfl rfl rfl hl.1 rfl (Nat.le_of_ble_eq_true rfl) dX7_sum_1 (Nat.zero_le _) (Nat.zero_le _) (fun H locs hP hD hS => ?_)
  have wf_X7_sum_L4 : ∀ (k_n : Nat) (v_at_6 : Int32) (v_fault_7 : Int32) (v_opened_8 : Int32) (v_code_9 : Nat → Int32) (v_coded_10 : Int32), f_X7_sum_L4 rc v_d v_base v_size v_isCold k_n v_at_6 v_fault_7 v_opened_8 v_code_9 v_coded_10 = some (w_at, w_fault, w_opened, w_code, w_coded) → ∀ (H : Heap) (locs : List Loc), va_P D vwCl (pcX7 o cI v_d v_kept v_images v_found v_aside v_base v_at_6 v_size v_fault_7 v_opened_8 v_isCold v_names v_code_9 v_coded_10 v_pile v_horn v_brass v_coldAhead v_which v_whichMany v_bestPass v_bestLive v_bestCode v_traced v_traceMany v_who v_bitsOf v_sizeOf v_number v_lifted) H → va_D A (pcX7 o cI v_d v_kept v_images v_found v_aside v_base v_at_6 v_size v_fault_7 v_opened_8 v_isCold v_names v_code_9 v_coded_10 v_pile v_horn v_brass v_coldAhead v_which v_whichMany v_bestPass v_bestLive v_bestCode v_traced v_traceMany v_who v_bitsOf v_sizeOf v_number v_lifted) → va_S A s.heap H locs → ∀ ls : Array Slot, lv_has ls 2 [(0, .ref (o 0))] → WV p l e (fr + 3) (lo + 70) s m args below meth c D (tysX cI cS) A (pcX7 o cI v_d v_kept v_images v_found v_aside v_base w_at v_size w_fault w_opened v_isCold v_names w_code w_coded v_pile v_horn v_brass v_coldAhead v_which v_whichMany v_bestPass v_bestLive v_bestCode v_traced v_traceMany v_who v_bitsOf v_sizeOf v_number v_lifted) H locs (F0 m 4 ls []) := by
      intro k_n
      induction k_n with
      | zero => intro v_at_6 v_fault_7 v_opened_8 v_code_9 v_coded_10 h; rw [f_X7_sum_L4] at h; cases h
      | succ k_n ih =>
        intro v_at_6 v_fault_7 v_opened_8 v_code_9 v_coded_10 h H locs hP hD hS ls hl
        rw [f_X7_sum_L4] at h
        refine lv_aload_n hx hb dX7_sum_4 rfl (lv_at hl 0 rfl) ?_
        obtain ⟨r_11, hc5, h⟩ := bd1_s h
        refine x_selfVi (As := []) (rest := []) St0_ok S (c_X7_here l D cI cS o hc5) yf_X7_here wd21_5 ⟨by show 0 + 1 ≤ (fr + 3); omega, by show 8 + (1 + 11) + 0 ≤ (lo + 70); omega⟩ hK hSt hA hP hD hS 0 rfl rfl rfl hl.1 rfl (Nat.le_of_ble_eq_true rfl) dX7_sum_5 (Nat.zero_le _) (Nat.zero_le _) (fun H locs hP hD hS => ?_)
        refine lv_bipush (v := 43) hx hb dX7_sum_8 (by decide) ?_
        obtain ⟨J22, eJ22, h⟩ := jnA_s h
        have wJ22 : J22  = some (w_at, w_fault, w_opened, w_code, w_coded) → ∀ (H : Heap) (locs : List Loc), va_P D vwCl (pcX7 o cI v_d v_kept v_images v_found v_aside v_base v_at_6 v_size v_fault_7 v_opened_8 v_isCold v_names v_code_9 v_coded_10 v_pile v_horn v_brass v_coldAhead v_which v_whichMany v_bestPass v_bestLive v_bestCode v_traced v_traceMany v_who v_bitsOf v_sizeOf v_number v_lifted) H → va_D A (pcX7 o cI v_d v_kept v_images v_found v_aside v_base v_at_6 v_size v_fault_7 v_opened_8 v_isCold v_names v_code_9 v_coded_10 v_pile v_horn v_brass v_coldAhead v_which v_whichMany v_bestPass v_bestLive v_bestCode v_traced v_traceMany v_who v_bitsOf v_sizeOf v_number v_lifted) → va_S A s.heap H locs → ∀ ls : Array Slot, lv_has ls 2 [(0, .ref (o 0))] → WV p l e (fr + 3) (lo + 70) s m args below meth c D (tysX cI cS) A (pcX7 o cI v_d v_kept v_images v_found v_aside v_base w_at v_size w_fault w_opened v_isCold v_names w_code w_coded v_pile v_horn v_brass v_coldAhead v_which v_whichMany v_bestPass v_bestLive v_bestCode v_traced v_traceMany v_who v_bitsOf v_sizeOf v_number v_lifted) H locs (F0 m 22 ls []) := by
            intro h H locs hP hD hS ls hl
            subst eJ22
            refine lv_aload_n hx hb dX7_sum_22 rfl (lv_at hl 0 rfl) ?_
            obtain ⟨r_12, hc23, h⟩ := bd1_s h
            refine x_selfVi (As := []) (rest := []) St0_ok S (c_X7_here l D cI cS o hc23) yf_X7_here wd21_5 ⟨by show 0 + 1 ≤ (fr + 3); omega, by show 8 + (1 + 11) + 0 ≤ (lo + 70); omega⟩ hK hSt hA hP hD hS 0 rfl rfl rfl hl.1 rfl (Nat.le_of_ble_eq_true rfl) dX7_sum_23 (Nat.zero_le _) (Nat.zero_le _) (fun H locs hP hD hS => ?_)
            refine lv_istore_n (lv' := [(1, .int r_12), (0, .ref (o 0))]) hx hb dX7_sum_26 rfl hl (by decide) rfl (fun ls hl => ?_)
            refine lv_aload_n hx hb dX7_sum_27 rfl (lv_at hl 1 rfl) ?_
            refine lv_dup hx hb dX7_sum_28 rfl ?_
            refine gt_X7_57 S hK hP 0 rfl rfl dX7_sum_29 ?_
            refine lv_iconst (v := 1) hx hb dX7_sum_32 (by decide) ?_
            refine lv_iadd hx hb dX7_sum_33 ?_
            refine x_nm h (fun v_at_13 ev_at_13 h => ?_)
            refine pt_X7_57 S hK hP hD hS 0 rfl (Nat.le_of_ble_eq_true rfl) dX7_sum_34 (fun H locs hP hD hS => ?_)
            have hP : va_P D vwCl (pcX7 o cI v_d v_kept v_images v_found v_aside v_base v_at_13 v_size v_fault_7 v_opened_8 v_isCold v_names v_code_9 v_coded_10 v_pile v_horn v_brass v_coldAhead v_which v_whichMany v_bestPass v_bestLive v_bestCode v_traced v_traceMany v_who v_bitsOf v_sizeOf v_number v_lifted) H := hP
            have hD : va_D A (pcX7 o cI v_d v_kept v_images v_found v_aside v_base v_at_13 v_size v_fault_7 v_opened_8 v_isCold v_names v_code_9 v_coded_10 v_pile v_horn v_brass v_coldAhead v_which v_whichMany v_bestPass v_bestLive v_bestCode v_traced v_traceMany v_who v_bitsOf v_sizeOf v_number v_lifted) := hD
            refine lv_aload_n hx hb dX7_sum_37 rfl (lv_at hl 1 rfl) ?_
            obtain ⟨v_at_14, v_fault_15, v_opened_16, v_code_17, v_coded_18, hc38, h⟩ := bd5_s h
            refine x_selfVv (As := []) (rest := []) St0_ok S (c_X7_product l D cI cS o rc fr lo hrc hc38) yf_X7_product wd22_7 ⟨by show (fr + 2) + 1 ≤ (fr + 3); omega, by show 8 + (2 + 11) + (lo + 49) ≤ (lo + 70); omega⟩ hK hSt hA hP hD hS 0 rfl rfl rfl hl.1 rfl (Nat.le_of_ble_eq_true rfl) dX7_sum_38 (Nat.zero_le _) (Nat.zero_le _) (fun H locs hP hD hS => ?_)
            refine lv_aload_n hx hb dX7_sum_41 rfl (lv_at hl 1 rfl) ?_
            refine lv_sipush (v := 20000) hx hb dX7_sum_42 (by decide) ?_
            refine lv_iload_n hx hb dX7_sum_45 rfl (lv_at hl 0 rfl) ?_
            refine lv_iadd hx hb dX7_sum_46 ?_
            obtain ⟨v_code_19, v_coded_20, hc47, h⟩ := bd2_s h
            refine x_selfVv (As := [.int (20000 + r_12)]) (rest := []) St0_ok S (c_X7_lay l D cI cS o hc47) yf_X7_lay wd21_9 ⟨by show 0 + 1 ≤ (fr + 3); omega, by show 8 + (2 + 11) + 0 ≤ (lo + 70); omega⟩ hK hSt hA hP hD hS 0 rfl rfl rfl hl.1 rfl (Nat.le_of_ble_eq_true rfl) dX7_sum_47 (Nat.zero_le _) (Nat.zero_le _) (fun H locs hP hD hS => ?_)
            refine lv_goto (tgt := 4) hx hb dX7_sum_50 (by decide) ?_
            exact ih v_at_14 v_fault_15 v_opened_16 v_code_19 v_coded_20 h _ _ hP hD hS _ (lv_sub hl [1] rfl)
        refine x_icmp_eq (tgt := 22) hx hb h dX7_sum_10 (by decide) (fun c10 h => ?_) (fun c10 h => ?_)
        · exact wJ22 h _ _ hP hD hS _ (lv_sub hl [0] rfl)
        · refine lv_aload_n hx hb dX7_sum_13 rfl (lv_at hl 0 rfl) ?_
          obtain ⟨r_21, hc14, h⟩ := bd1_s h
          refine x_selfVi (As := []) (rest := []) St0_ok S (c_X7_here l D cI cS o hc14) yf_X7_here wd21_5 ⟨by show 0 + 1 ≤ (fr + 3); omega, by show 8 + (1 + 11) + 0 ≤ (lo + 70); omega⟩ hK hSt hA hP hD hS 0 rfl rfl rfl hl.1 rfl (Nat.le_of_ble_eq_true rfl) dX7_sum_14 (Nat.zero_le _) (Nat.zero_le _) (fun H locs hP hD hS => ?_)
          refine lv_bipush (v := 45) hx hb dX7_sum_17 (by decide) ?_
          refine x_icmp_ne (tgt := 53) hx hb h dX7_sum_19 (by decide) (fun c19 h => ?_) (fun c19 h => ?_)
          · cases h
            exact x_vret hx hb hr hlocks hK hP hD hS rfl dX7_sum_53
          · exact wJ22 h _ _ hP hD hS _ (lv_sub hl [0] rfl)
  exact wf_X7_sum_L4 300 v_at_1 v_fault_2 v_opened_3 v_code_4 v_coded_5 h _ _ hP hD hS _ (lv_sub hl [0] rfl)

def f_X7_compared (rc : (Nat → Int32) → (Int32) → (Int32) → (Int32) → (Int32) → (Int32) → (Int32) → (Nat → Int32) → (Int32) → Int32 → Option ((Int32) × (Int32) × (Int32) × (Nat → Int32) × (Int32))) (v_d : Nat → Int32) (v_base : Int32) (v_at : Int32) (v_size : Int32) (v_fault : Int32) (v_opened : Int32) (v_isCold : Int32) (v_code : Nat → Int32) (v_coded : Int32)  : Option ((Int32) × (Int32) × (Int32) × (Nat → Int32) × (Int32)) :=
  bd5 (f_X7_sum rc v_d v_base v_at v_size v_fault v_opened v_isCold v_code v_coded) (fun v_at_1 v_fault_2 v_opened_3 v_code_4 v_coded_5 => bd1 (f_X7_here v_d v_base v_at_1 v_size v_fault_2) (fun r_6 => jnA (nmA (v_at_1 + 1) (fun v_at_7 => bd5 (f_X7_sum rc v_d v_base v_at_7 v_size v_fault_2 v_opened_3 v_isCold v_code_4 v_coded_5) (fun v_at_8 v_fault_9 v_opened_10 v_code_11 v_coded_12 => bd2 (f_X7_lay v_fault_9 v_code_11 v_coded_12 (20000 + r_6)) (fun v_code_13 v_coded_14 => some (v_at_8, v_fault_9, v_opened_10, v_code_13, v_coded_14))))) (fun J27 => (if r_6 = 60 then J27 else (if r_6 = 61 then J27 else (if r_6 = 62 then J27 else some (v_at_1, v_fault_2, v_opened_3, v_code_4, v_coded_5)))))))
set_option maxHeartbeats 600000 in
set_option maxRecDepth 100000 in
theorem c_X7_compared (l : Launch) (D : va_G) (cI cS : ClassId) (o : Nat → Nat) (rc : (Nat → Int32) → (Int32) → (Int32) → (Int32) → (Int32) → (Int32) → (Int32) → (Nat → Int32) → (Int32) → Int32 → Option ((Int32) × (Int32) × (Int32) × (Nat → Int32) × (Int32))) (fr lo : Nat) (hrc : ∀ (v_d : Nat → Int32) (v_kept : Nat → Int32) (v_images : Int32) (v_found : Nat → Int32) (v_aside : Nat → Int32) (v_base : Int32) (v_at : Int32) (v_size : Int32) (v_fault : Int32) (v_opened : Int32) (v_isCold : Int32) (v_names : Nat → Int32) (v_code : Nat → Int32) (v_coded : Int32) (v_pile : Nat → Int32) (v_horn : Int32) (v_brass : Int32) (v_coldAhead : Nat → Int32) (v_which : Nat → Int32) (v_whichMany : Int32) (v_bestPass : Int32) (v_bestLive : Int32) (v_bestCode : Int32) (v_traced : Nat → Int32) (v_traceMany : Int32) (v_who : Int32) (v_bitsOf : Nat → Int32) (v_sizeOf : Nat → Int32) (v_number : Nat → Int32) (v_lifted : Nat → Int32) (p0 : Int32) (w_at : Int32) (w_fault : Int32) (w_opened : Int32) (w_code : Nat → Int32) (w_coded : Int32), rc v_d v_base v_at v_size v_fault v_opened v_isCold v_code v_coded p0 = some (w_at, w_fault, w_opened, w_code, w_coded) → MetV l D (tysX cI cS) St0 yX7_opens cX7_opens 2 none fr lo [.ref (o 0), .int p0] (pcX7 o cI v_d v_kept v_images v_found v_aside v_base v_at v_size v_fault v_opened v_isCold v_names v_code v_coded v_pile v_horn v_brass v_coldAhead v_which v_whichMany v_bestPass v_bestLive v_bestCode v_traced v_traceMany v_who v_bitsOf v_sizeOf v_number v_lifted) (pcX7 o cI v_d v_kept v_images v_found v_aside v_base w_at v_size w_fault w_opened v_isCold v_names w_code w_coded v_pile v_horn v_brass v_coldAhead v_which v_whichMany v_bestPass v_bestLive v_bestCode v_traced v_traceMany v_who v_bitsOf v_sizeOf v_number v_lifted)) {v_d : Nat → Int32} {v_kept : Nat → Int32} {v_images : Int32} {v_found : Nat → Int32} {v_aside : Nat → Int32} {v_base : Int32} {v_at : Int32} {v_size : Int32} {v_fault : Int32} {v_opened : Int32} {v_isCold : Int32} {v_names : Nat → Int32} {v_code : Nat → Int32} {v_coded : Int32} {v_pile : Nat → Int32} {v_horn : Int32} {v_brass : Int32} {v_coldAhead : Nat → Int32} {v_which : Nat → Int32} {v_whichMany : Int32} {v_bestPass : Int32} {v_bestLive : Int32} {v_bestCode : Int32} {v_traced : Nat → Int32} {v_traceMany : Int32} {v_who : Int32} {v_bitsOf : Nat → Int32} {v_sizeOf : Nat → Int32} {v_number : Nat → Int32} {v_lifted : Nat → Int32}  {w_at : Int32} {w_fault : Int32} {w_opened : Int32} {w_code : Nat → Int32} {w_coded : Int32} (h : f_X7_compared rc v_d v_base v_at v_size v_fault v_opened v_isCold v_code v_coded  = some (w_at, w_fault, w_opened, w_code, w_coded)) : MetV l D (tysX cI cS) St0 yX7_compared cX7_compared 2 none (fr + 4) (lo + 91) [.ref (o 0)] (pcX7 o cI v_d v_kept v_images v_found v_aside v_base v_at v_size v_fault v_opened v_isCold v_names v_code v_coded v_pile v_horn v_brass v_coldAhead v_which v_whichMany v_bestPass v_bestLive v_bestCode v_traced v_traceMany v_who v_bitsOf v_sizeOf v_number v_lifted) (pcX7 o cI v_d v_kept v_images v_found v_aside v_base w_at v_size w_fault w_opened v_isCold v_names w_code w_coded v_pile v_horn v_brass v_coldAhead v_which v_whichMany v_bestPass v_bestLive v_bestCode v_traced v_traceMany v_who v_bitsOf v_sizeOf v_number v_lifted) := by
  refine Ent.metV (by decide +kernel) (Nat.le_of_ble_eq_true rfl) ?_
  intro p e s m args below meth c A ls hx hb hr hml hown hts hlocks hA hK hSt hP hD hS hl
  have hown : s.vm.findClass RX7 = some m.cls := hown
  have S : XFix p m c cX7_compared 2 s args RX7 := ⟨hx, hb, hml, hown, hts⟩
  have hl : lv_has ls 2 [(0, .ref (o 0))] := hl
  unfold f_X7_compared at h
  refine lv_aload_n hx hb dX7_compared_0 rfl (lv_at hl 0 rfl) ?_
  obtain ⟨v_at_1, v_fault_2, v_opened_3, v_code_4, v_coded_5, hc1, h⟩ := bd5_s h
  refine x_selfVv (As := []) (rest := []) St0_ok S (c_X7_sum l D cI cS o rc fr lo hrc hc1) yf_X7_sum wd21_18 ⟨by show (fr + 3) + 1 ≤ (fr + 4); omega, by show 8 + (2 + 11) + (lo + 70) ≤ (lo + 91); omega⟩ hK hSt hA hP hD hS 0 rfl rfl rfl hl.1 rfl (Nat.le_of_ble_eq_true rfl) dX7_compared_1 (Nat.zero_le _) (Nat.zero_le _) (fun H locs hP hD hS => ?_)
  refine lv_aload_n hx hb dX7_compared_4 rfl (lv_at hl 0 rfl) ?_
  obtain ⟨r_6, hc5, h⟩ := bd1_s h
  refine x_selfVi (As := []) (rest := []) St0_ok S (c_X7_here l D cI cS o hc5) yf_X7_here wd21_5 ⟨by show 0 + 1 ≤ (fr + 4); omega, by show 8 + (1 + 11) + 0 ≤ (lo + 91); omega⟩ hK hSt hA hP hD hS 0 rfl rfl rfl hl.1 rfl (Nat.le_of_ble_eq_true rfl) dX7_compared_5 (Nat.zero_le _) (Nat.zero_le _) (fun H locs hP hD hS => ?_)
  refine lv_istore_n (lv' := [(1, .int r_6), (0, .ref (o 0))]) hx hb dX7_compared_8 rfl hl (by decide) rfl (fun ls hl => ?_)
  refine lv_iload_n hx hb dX7_compared_9 rfl (lv_at hl 0 rfl) ?_
  refine lv_bipush (v := 60) hx hb dX7_compared_10 (by decide) ?_
  obtain ⟨J27, eJ27, h⟩ := jnA_s h
  have wJ27 : J27  = some (w_at, w_fault, w_opened, w_code, w_coded) → ∀ (H : Heap) (locs : List Loc), va_P D vwCl (pcX7 o cI v_d v_kept v_images v_found v_aside v_base v_at_1 v_size v_fault_2 v_opened_3 v_isCold v_names v_code_4 v_coded_5 v_pile v_horn v_brass v_coldAhead v_which v_whichMany v_bestPass v_bestLive v_bestCode v_traced v_traceMany v_who v_bitsOf v_sizeOf v_number v_lifted) H → va_D A (pcX7 o cI v_d v_kept v_images v_found v_aside v_base v_at_1 v_size v_fault_2 v_opened_3 v_isCold v_names v_code_4 v_coded_5 v_pile v_horn v_brass v_coldAhead v_which v_whichMany v_bestPass v_bestLive v_bestCode v_traced v_traceMany v_who v_bitsOf v_sizeOf v_number v_lifted) → va_S A s.heap H locs → ∀ ls : Array Slot, lv_has ls 2 [(0, .ref (o 0)), (1, .int r_6)] → WV p l e (fr + 4) (lo + 91) s m args below meth c D (tysX cI cS) A (pcX7 o cI v_d v_kept v_images v_found v_aside v_base w_at v_size w_fault w_opened v_isCold v_names w_code w_coded v_pile v_horn v_brass v_coldAhead v_which v_whichMany v_bestPass v_bestLive v_bestCode v_traced v_traceMany v_who v_bitsOf v_sizeOf v_number v_lifted) H locs (F0 m 27 ls []) := by
      intro h H locs hP hD hS ls hl
      subst eJ27
      refine lv_aload_n hx hb dX7_compared_27 rfl (lv_at hl 0 rfl) ?_
      refine lv_dup hx hb dX7_compared_28 rfl ?_
      refine gt_X7_57 S hK hP 0 rfl rfl dX7_compared_29 ?_
      refine lv_iconst (v := 1) hx hb dX7_compared_32 (by decide) ?_
      refine lv_iadd hx hb dX7_compared_33 ?_
      refine x_nm h (fun v_at_7 ev_at_7 h => ?_)
      refine pt_X7_57 S hK hP hD hS 0 rfl (Nat.le_of_ble_eq_true rfl) dX7_compared_34 (fun H locs hP hD hS => ?_)
      have hP : va_P D vwCl (pcX7 o cI v_d v_kept v_images v_found v_aside v_base v_at_7 v_size v_fault_2 v_opened_3 v_isCold v_names v_code_4 v_coded_5 v_pile v_horn v_brass v_coldAhead v_which v_whichMany v_bestPass v_bestLive v_bestCode v_traced v_traceMany v_who v_bitsOf v_sizeOf v_number v_lifted) H := hP
      have hD : va_D A (pcX7 o cI v_d v_kept v_images v_found v_aside v_base v_at_7 v_size v_fault_2 v_opened_3 v_isCold v_names v_code_4 v_coded_5 v_pile v_horn v_brass v_coldAhead v_which v_whichMany v_bestPass v_bestLive v_bestCode v_traced v_traceMany v_who v_bitsOf v_sizeOf v_number v_lifted) := hD
      refine lv_aload_n hx hb dX7_compared_37 rfl (lv_at hl 0 rfl) ?_
      obtain ⟨v_at_8, v_fault_9, v_opened_10, v_code_11, v_coded_12, hc38, h⟩ := bd5_s h
      refine x_selfVv (As := []) (rest := []) St0_ok S (c_X7_sum l D cI cS o rc fr lo hrc hc38) yf_X7_sum wd21_18 ⟨by show (fr + 3) + 1 ≤ (fr + 4); omega, by show 8 + (2 + 11) + (lo + 70) ≤ (lo + 91); omega⟩ hK hSt hA hP hD hS 0 rfl rfl rfl hl.1 rfl (Nat.le_of_ble_eq_true rfl) dX7_compared_38 (Nat.zero_le _) (Nat.zero_le _) (fun H locs hP hD hS => ?_)
      refine lv_aload_n hx hb dX7_compared_41 rfl (lv_at hl 0 rfl) ?_
      refine lv_sipush (v := 20000) hx hb dX7_compared_42 (by decide) ?_
      refine lv_iload_n hx hb dX7_compared_45 rfl (lv_at hl 1 rfl) ?_
      refine lv_iadd hx hb dX7_compared_46 ?_
      obtain ⟨v_code_13, v_coded_14, hc47, h⟩ := bd2_s h
      refine x_selfVv (As := [.int (20000 + r_6)]) (rest := []) St0_ok S (c_X7_lay l D cI cS o hc47) yf_X7_lay wd21_9 ⟨by show 0 + 1 ≤ (fr + 4); omega, by show 8 + (2 + 11) + 0 ≤ (lo + 91); omega⟩ hK hSt hA hP hD hS 0 rfl rfl rfl hl.1 rfl (Nat.le_of_ble_eq_true rfl) dX7_compared_47 (Nat.zero_le _) (Nat.zero_le _) (fun H locs hP hD hS => ?_)
      cases h
      exact x_vret hx hb hr hlocks hK hP hD hS rfl dX7_compared_50
  refine x_icmp_eq (tgt := 27) hx hb h dX7_compared_12 (by decide) (fun c12 h => ?_) (fun c12 h => ?_)
  · exact wJ27 h _ _ hP hD hS _ (lv_sub hl [1, 0] rfl)
  · refine lv_iload_n hx hb dX7_compared_15 rfl (lv_at hl 0 rfl) ?_
    refine lv_bipush (v := 61) hx hb dX7_compared_16 (by decide) ?_
    refine x_icmp_eq (tgt := 27) hx hb h dX7_compared_18 (by decide) (fun c18 h => ?_) (fun c18 h => ?_)
    · exact wJ27 h _ _ hP hD hS _ (lv_sub hl [1, 0] rfl)
    · refine lv_iload_n hx hb dX7_compared_21 rfl (lv_at hl 0 rfl) ?_
      refine lv_bipush (v := 62) hx hb dX7_compared_22 (by decide) ?_
      refine x_icmp_ne (tgt := 50) hx hb h dX7_compared_24 (by decide) (fun c24 h => ?_) (fun c24 h => ?_)
      · cases h
        exact x_vret hx hb hr hlocks hK hP hD hS rfl dX7_compared_50
      · exact wJ27 h _ _ hP hD hS _ (lv_sub hl [1, 0] rfl)

def f_X7_both_L4 (rc : (Nat → Int32) → (Int32) → (Int32) → (Int32) → (Int32) → (Int32) → (Int32) → (Nat → Int32) → (Int32) → Int32 → Option ((Int32) × (Int32) × (Int32) × (Nat → Int32) × (Int32))) (v_d : Nat → Int32) (v_base : Int32) (v_size : Int32) (v_isCold : Int32) : Nat → Int32 → Int32 → Int32 → (Nat → Int32) → Int32 → Option ((Int32) × (Int32) × (Int32) × (Nat → Int32) × (Int32))
  | 0, _, _, _, _, _ => none
  | k_n + 1, v_at_6, v_fault_7, v_opened_8, v_code_9, v_coded_10 => bd2 (f_X7_takes v_d v_base v_at_6 v_size v_fault_7 38) (fun v_at_11 r_12 => (if r_12 = 0 then some (v_at_11, v_fault_7, v_opened_8, v_code_9, v_coded_10) else bd5 (f_X7_compared rc v_d v_base v_at_11 v_size v_fault_7 v_opened_8 v_isCold v_code_9 v_coded_10) (fun v_at_13 v_fault_14 v_opened_15 v_code_16 v_coded_17 => bd2 (f_X7_lay v_fault_14 v_code_16 v_coded_17 20038) (fun v_code_18 v_coded_19 => f_X7_both_L4 rc v_d v_base v_size v_isCold k_n v_at_13 v_fault_14 v_opened_15 v_code_18 v_coded_19))))
def f_X7_both (rc : (Nat → Int32) → (Int32) → (Int32) → (Int32) → (Int32) → (Int32) → (Int32) → (Nat → Int32) → (Int32) → Int32 → Option ((Int32) × (Int32) × (Int32) × (Nat → Int32) × (Int32))) (v_d : Nat → Int32) (v_base : Int32) (v_at : Int32) (v_size : Int32) (v_fault : Int32) (v_opened : Int32) (v_isCold : Int32) (v_code : Nat → Int32) (v_coded : Int32)  : Option ((Int32) × (Int32) × (Int32) × (Nat → Int32) × (Int32)) :=
  bd5 (f_X7_compared rc v_d v_base v_at v_size v_fault v_opened v_isCold v_code v_coded) (fun v_at_1 v_fault_2 v_opened_3 v_code_4 v_coded_5 => f_X7_both_L4 rc v_d v_base v_size v_isCold 300 v_at_1 v_fault_2 v_opened_3 v_code_4 v_coded_5)
set_option maxHeartbeats 600000 in
set_option maxRecDepth 100000 in
theorem c_X7_both (l : Launch) (D : va_G) (cI cS : ClassId) (o : Nat → Nat) (rc : (Nat → Int32) → (Int32) → (Int32) → (Int32) → (Int32) → (Int32) → (Int32) → (Nat → Int32) → (Int32) → Int32 → Option ((Int32) × (Int32) × (Int32) × (Nat → Int32) × (Int32))) (fr lo : Nat) (hrc : ∀ (v_d : Nat → Int32) (v_kept : Nat → Int32) (v_images : Int32) (v_found : Nat → Int32) (v_aside : Nat → Int32) (v_base : Int32) (v_at : Int32) (v_size : Int32) (v_fault : Int32) (v_opened : Int32) (v_isCold : Int32) (v_names : Nat → Int32) (v_code : Nat → Int32) (v_coded : Int32) (v_pile : Nat → Int32) (v_horn : Int32) (v_brass : Int32) (v_coldAhead : Nat → Int32) (v_which : Nat → Int32) (v_whichMany : Int32) (v_bestPass : Int32) (v_bestLive : Int32) (v_bestCode : Int32) (v_traced : Nat → Int32) (v_traceMany : Int32) (v_who : Int32) (v_bitsOf : Nat → Int32) (v_sizeOf : Nat → Int32) (v_number : Nat → Int32) (v_lifted : Nat → Int32) (p0 : Int32) (w_at : Int32) (w_fault : Int32) (w_opened : Int32) (w_code : Nat → Int32) (w_coded : Int32), rc v_d v_base v_at v_size v_fault v_opened v_isCold v_code v_coded p0 = some (w_at, w_fault, w_opened, w_code, w_coded) → MetV l D (tysX cI cS) St0 yX7_opens cX7_opens 2 none fr lo [.ref (o 0), .int p0] (pcX7 o cI v_d v_kept v_images v_found v_aside v_base v_at v_size v_fault v_opened v_isCold v_names v_code v_coded v_pile v_horn v_brass v_coldAhead v_which v_whichMany v_bestPass v_bestLive v_bestCode v_traced v_traceMany v_who v_bitsOf v_sizeOf v_number v_lifted) (pcX7 o cI v_d v_kept v_images v_found v_aside v_base w_at v_size w_fault w_opened v_isCold v_names w_code w_coded v_pile v_horn v_brass v_coldAhead v_which v_whichMany v_bestPass v_bestLive v_bestCode v_traced v_traceMany v_who v_bitsOf v_sizeOf v_number v_lifted)) {v_d : Nat → Int32} {v_kept : Nat → Int32} {v_images : Int32} {v_found : Nat → Int32} {v_aside : Nat → Int32} {v_base : Int32} {v_at : Int32} {v_size : Int32} {v_fault : Int32} {v_opened : Int32} {v_isCold : Int32} {v_names : Nat → Int32} {v_code : Nat → Int32} {v_coded : Int32} {v_pile : Nat → Int32} {v_horn : Int32} {v_brass : Int32} {v_coldAhead : Nat → Int32} {v_which : Nat → Int32} {v_whichMany : Int32} {v_bestPass : Int32} {v_bestLive : Int32} {v_bestCode : Int32} {v_traced : Nat → Int32} {v_traceMany : Int32} {v_who : Int32} {v_bitsOf : Nat → Int32} {v_sizeOf : Nat → Int32} {v_number : Nat → Int32} {v_lifted : Nat → Int32}  {w_at : Int32} {w_fault : Int32} {w_opened : Int32} {w_code : Nat → Int32} {w_coded : Int32} (h : f_X7_both rc v_d v_base v_at v_size v_fault v_opened v_isCold v_code v_coded  = some (w_at, w_fault, w_opened, w_code, w_coded)) : MetV l D (tysX cI cS) St0 yX7_both cX7_both 1 none (fr + 5) (lo + 112) [.ref (o 0)] (pcX7 o cI v_d v_kept v_images v_found v_aside v_base v_at v_size v_fault v_opened v_isCold v_names v_code v_coded v_pile v_horn v_brass v_coldAhead v_which v_whichMany v_bestPass v_bestLive v_bestCode v_traced v_traceMany v_who v_bitsOf v_sizeOf v_number v_lifted) (pcX7 o cI v_d v_kept v_images v_found v_aside v_base w_at v_size w_fault w_opened v_isCold v_names w_code w_coded v_pile v_horn v_brass v_coldAhead v_which v_whichMany v_bestPass v_bestLive v_bestCode v_traced v_traceMany v_who v_bitsOf v_sizeOf v_number v_lifted) := by
  refine Ent.metV (by decide +kernel) (Nat.le_of_ble_eq_true rfl) ?_
  intro p e s m args below meth c A ls hx hb hr hml hown hts hlocks hA hK hSt hP hD hS hl
  have hown : s.vm.findClass RX7 = some m.cls := hown
  have S : XFix p m c cX7_both 1 s args RX7 := ⟨hx, hb, hml, hown, hts⟩
  have hl : lv_has ls 1 [(0, .ref (o 0))] := hl
  unfold f_X7_both at h
  refine lv_aload_n hx hb dX7_both_0 rfl (lv_at hl 0 rfl) ?_
  obtain ⟨v_at_1, v_fault_2, v_opened_3, v_code_4, v_coded_5, hc1, h⟩ := bd5_s h
  refine x_selfVv (As := []) (rest := []) St0_ok S (c_X7_compared l D cI cS o rc fr lo hrc hc1) yf_X7_compared wd21_14 ⟨by show (fr + 4) + 1 ≤ (fr + 5); omega, by show 8 + (2 + 11) + (lo + 91) ≤ (lo + 112); omega⟩ hK hSt hA hP hD hS 0 rfl rfl rfl hl.1 rfl (Nat.le_of_ble_eq_true rfl) dX7_both_1 (Nat.zero_le _) (Nat.zero_le _) (fun H locs hP hD hS => ?_)
  have wf_X7_both_L4 : ∀ (k_n : Nat) (v_at_6 : Int32) (v_fault_7 : Int32) (v_opened_8 : Int32) (v_code_9 : Nat → Int32) (v_coded_10 : Int32), f_X7_both_L4 rc v_d v_base v_size v_isCold k_n v_at_6 v_fault_7 v_opened_8 v_code_9 v_coded_10 = some (w_at, w_fault, w_opened, w_code, w_coded) → ∀ (H : Heap) (locs : List Loc), va_P D vwCl (pcX7 o cI v_d v_kept v_images v_found v_aside v_base v_at_6 v_size v_fault_7 v_opened_8 v_isCold v_names v_code_9 v_coded_10 v_pile v_horn v_brass v_coldAhead v_which v_whichMany v_bestPass v_bestLive v_bestCode v_traced v_traceMany v_who v_bitsOf v_sizeOf v_number v_lifted) H → va_D A (pcX7 o cI v_d v_kept v_images v_found v_aside v_base v_at_6 v_size v_fault_7 v_opened_8 v_isCold v_names v_code_9 v_coded_10 v_pile v_horn v_brass v_coldAhead v_which v_whichMany v_bestPass v_bestLive v_bestCode v_traced v_traceMany v_who v_bitsOf v_sizeOf v_number v_lifted) → va_S A s.heap H locs → ∀ ls : Array Slot, lv_has ls 1 [(0, .ref (o 0))] → WV p l e (fr + 5) (lo + 112) s m args below meth c D (tysX cI cS) A (pcX7 o cI v_d v_kept v_images v_found v_aside v_base w_at v_size w_fault w_opened v_isCold v_names w_code w_coded v_pile v_horn v_brass v_coldAhead v_which v_whichMany v_bestPass v_bestLive v_bestCode v_traced v_traceMany v_who v_bitsOf v_sizeOf v_number v_lifted) H locs (F0 m 4 ls []) := by
      intro k_n
      induction k_n with
      | zero => intro v_at_6 v_fault_7 v_opened_8 v_code_9 v_coded_10 h; rw [f_X7_both_L4] at h; cases h
      | succ k_n ih =>
        intro v_at_6 v_fault_7 v_opened_8 v_code_9 v_coded_10 h H locs hP hD hS ls hl
        rw [f_X7_both_L4] at h
        refine lv_aload_n hx hb dX7_both_4 rfl (lv_at hl 0 rfl) ?_
        refine lv_bipush (v := 38) hx hb dX7_both_5 (by decide) ?_
        obtain ⟨v_at_11, r_12, hc7, h⟩ := bd2_s h
        refine x_selfVi (As := [.int 38]) (rest := []) St0_ok S (c_X7_takes l D cI cS o hc7) yf_X7_takes wd21_1 ⟨by show 1 + 1 ≤ (fr + 5); omega, by show 8 + (2 + 11) + 20 ≤ (lo + 112); omega⟩ hK hSt hA hP hD hS 0 rfl rfl rfl hl.1 rfl (Nat.le_of_ble_eq_true rfl) dX7_both_7 (Nat.zero_le _) (Nat.zero_le _) (fun H locs hP hD hS => ?_)
        refine x_if_eq (tgt := 27) hx hb h dX7_both_10 (by decide) (fun c10 h => ?_) (fun c10 h => ?_)
        · cases h
          exact x_vret hx hb hr hlocks hK hP hD hS rfl dX7_both_27
        · refine lv_aload_n hx hb dX7_both_13 rfl (lv_at hl 0 rfl) ?_
          obtain ⟨v_at_13, v_fault_14, v_opened_15, v_code_16, v_coded_17, hc14, h⟩ := bd5_s h
          refine x_selfVv (As := []) (rest := []) St0_ok S (c_X7_compared l D cI cS o rc fr lo hrc hc14) yf_X7_compared wd21_14 ⟨by show (fr + 4) + 1 ≤ (fr + 5); omega, by show 8 + (2 + 11) + (lo + 91) ≤ (lo + 112); omega⟩ hK hSt hA hP hD hS 0 rfl rfl rfl hl.1 rfl (Nat.le_of_ble_eq_true rfl) dX7_both_14 (Nat.zero_le _) (Nat.zero_le _) (fun H locs hP hD hS => ?_)
          refine lv_aload_n hx hb dX7_both_17 rfl (lv_at hl 0 rfl) ?_
          refine lv_sipush (v := 20038) hx hb dX7_both_18 (by decide) ?_
          obtain ⟨v_code_18, v_coded_19, hc21, h⟩ := bd2_s h
          refine x_selfVv (As := [.int 20038]) (rest := []) St0_ok S (c_X7_lay l D cI cS o hc21) yf_X7_lay wd21_9 ⟨by show 0 + 1 ≤ (fr + 5); omega, by show 8 + (2 + 11) + 0 ≤ (lo + 112); omega⟩ hK hSt hA hP hD hS 0 rfl rfl rfl hl.1 rfl (Nat.le_of_ble_eq_true rfl) dX7_both_21 (Nat.zero_le _) (Nat.zero_le _) (fun H locs hP hD hS => ?_)
          refine lv_goto (tgt := 4) hx hb dX7_both_24 (by decide) ?_
          exact ih v_at_13 v_fault_14 v_opened_15 v_code_18 v_coded_19 h _ _ hP hD hS _ (lv_sub hl [0] rfl)
  exact wf_X7_both_L4 300 v_at_1 v_fault_2 v_opened_3 v_code_4 v_coded_5 h _ _ hP hD hS _ (lv_sub hl [0] rfl)

def f_X7_either_L4 (rc : (Nat → Int32) → (Int32) → (Int32) → (Int32) → (Int32) → (Int32) → (Int32) → (Nat → Int32) → (Int32) → Int32 → Option ((Int32) × (Int32) × (Int32) × (Nat → Int32) × (Int32))) (v_d : Nat → Int32) (v_base : Int32) (v_size : Int32) (v_isCold : Int32) : Nat → Int32 → Int32 → Int32 → (Nat → Int32) → Int32 → Option ((Int32) × (Int32) × (Int32) × (Nat → Int32) × (Int32))
  | 0, _, _, _, _, _ => none
  | k_n + 1, v_at_6, v_fault_7, v_opened_8, v_code_9, v_coded_10 => bd2 (f_X7_takes v_d v_base v_at_6 v_size v_fault_7 124) (fun v_at_11 r_12 => (if r_12 = 0 then some (v_at_11, v_fault_7, v_opened_8, v_code_9, v_coded_10) else bd5 (f_X7_both rc v_d v_base v_at_11 v_size v_fault_7 v_opened_8 v_isCold v_code_9 v_coded_10) (fun v_at_13 v_fault_14 v_opened_15 v_code_16 v_coded_17 => bd2 (f_X7_lay v_fault_14 v_code_16 v_coded_17 20124) (fun v_code_18 v_coded_19 => f_X7_either_L4 rc v_d v_base v_size v_isCold k_n v_at_13 v_fault_14 v_opened_15 v_code_18 v_coded_19))))
def f_X7_either (rc : (Nat → Int32) → (Int32) → (Int32) → (Int32) → (Int32) → (Int32) → (Int32) → (Nat → Int32) → (Int32) → Int32 → Option ((Int32) × (Int32) × (Int32) × (Nat → Int32) × (Int32))) (v_d : Nat → Int32) (v_base : Int32) (v_at : Int32) (v_size : Int32) (v_fault : Int32) (v_opened : Int32) (v_isCold : Int32) (v_code : Nat → Int32) (v_coded : Int32)  : Option ((Int32) × (Int32) × (Int32) × (Nat → Int32) × (Int32)) :=
  bd5 (f_X7_both rc v_d v_base v_at v_size v_fault v_opened v_isCold v_code v_coded) (fun v_at_1 v_fault_2 v_opened_3 v_code_4 v_coded_5 => f_X7_either_L4 rc v_d v_base v_size v_isCold 300 v_at_1 v_fault_2 v_opened_3 v_code_4 v_coded_5)
set_option maxHeartbeats 600000 in
set_option maxRecDepth 100000 in
theorem c_X7_either (l : Launch) (D : va_G) (cI cS : ClassId) (o : Nat → Nat) (rc : (Nat → Int32) → (Int32) → (Int32) → (Int32) → (Int32) → (Int32) → (Int32) → (Nat → Int32) → (Int32) → Int32 → Option ((Int32) × (Int32) × (Int32) × (Nat → Int32) × (Int32))) (fr lo : Nat) (hrc : ∀ (v_d : Nat → Int32) (v_kept : Nat → Int32) (v_images : Int32) (v_found : Nat → Int32) (v_aside : Nat → Int32) (v_base : Int32) (v_at : Int32) (v_size : Int32) (v_fault : Int32) (v_opened : Int32) (v_isCold : Int32) (v_names : Nat → Int32) (v_code : Nat → Int32) (v_coded : Int32) (v_pile : Nat → Int32) (v_horn : Int32) (v_brass : Int32) (v_coldAhead : Nat → Int32) (v_which : Nat → Int32) (v_whichMany : Int32) (v_bestPass : Int32) (v_bestLive : Int32) (v_bestCode : Int32) (v_traced : Nat → Int32) (v_traceMany : Int32) (v_who : Int32) (v_bitsOf : Nat → Int32) (v_sizeOf : Nat → Int32) (v_number : Nat → Int32) (v_lifted : Nat → Int32) (p0 : Int32) (w_at : Int32) (w_fault : Int32) (w_opened : Int32) (w_code : Nat → Int32) (w_coded : Int32), rc v_d v_base v_at v_size v_fault v_opened v_isCold v_code v_coded p0 = some (w_at, w_fault, w_opened, w_code, w_coded) → MetV l D (tysX cI cS) St0 yX7_opens cX7_opens 2 none fr lo [.ref (o 0), .int p0] (pcX7 o cI v_d v_kept v_images v_found v_aside v_base v_at v_size v_fault v_opened v_isCold v_names v_code v_coded v_pile v_horn v_brass v_coldAhead v_which v_whichMany v_bestPass v_bestLive v_bestCode v_traced v_traceMany v_who v_bitsOf v_sizeOf v_number v_lifted) (pcX7 o cI v_d v_kept v_images v_found v_aside v_base w_at v_size w_fault w_opened v_isCold v_names w_code w_coded v_pile v_horn v_brass v_coldAhead v_which v_whichMany v_bestPass v_bestLive v_bestCode v_traced v_traceMany v_who v_bitsOf v_sizeOf v_number v_lifted)) {v_d : Nat → Int32} {v_kept : Nat → Int32} {v_images : Int32} {v_found : Nat → Int32} {v_aside : Nat → Int32} {v_base : Int32} {v_at : Int32} {v_size : Int32} {v_fault : Int32} {v_opened : Int32} {v_isCold : Int32} {v_names : Nat → Int32} {v_code : Nat → Int32} {v_coded : Int32} {v_pile : Nat → Int32} {v_horn : Int32} {v_brass : Int32} {v_coldAhead : Nat → Int32} {v_which : Nat → Int32} {v_whichMany : Int32} {v_bestPass : Int32} {v_bestLive : Int32} {v_bestCode : Int32} {v_traced : Nat → Int32} {v_traceMany : Int32} {v_who : Int32} {v_bitsOf : Nat → Int32} {v_sizeOf : Nat → Int32} {v_number : Nat → Int32} {v_lifted : Nat → Int32}  {w_at : Int32} {w_fault : Int32} {w_opened : Int32} {w_code : Nat → Int32} {w_coded : Int32} (h : f_X7_either rc v_d v_base v_at v_size v_fault v_opened v_isCold v_code v_coded  = some (w_at, w_fault, w_opened, w_code, w_coded)) : MetV l D (tysX cI cS) St0 yX7_either cX7_either 1 none (fr + 6) (lo + 132) [.ref (o 0)] (pcX7 o cI v_d v_kept v_images v_found v_aside v_base v_at v_size v_fault v_opened v_isCold v_names v_code v_coded v_pile v_horn v_brass v_coldAhead v_which v_whichMany v_bestPass v_bestLive v_bestCode v_traced v_traceMany v_who v_bitsOf v_sizeOf v_number v_lifted) (pcX7 o cI v_d v_kept v_images v_found v_aside v_base w_at v_size w_fault w_opened v_isCold v_names w_code w_coded v_pile v_horn v_brass v_coldAhead v_which v_whichMany v_bestPass v_bestLive v_bestCode v_traced v_traceMany v_who v_bitsOf v_sizeOf v_number v_lifted) := by
  refine Ent.metV (by decide +kernel) (Nat.le_of_ble_eq_true rfl) ?_
  intro p e s m args below meth c A ls hx hb hr hml hown hts hlocks hA hK hSt hP hD hS hl
  have hown : s.vm.findClass RX7 = some m.cls := hown
  have S : XFix p m c cX7_either 1 s args RX7 := ⟨hx, hb, hml, hown, hts⟩
  have hl : lv_has ls 1 [(0, .ref (o 0))] := hl
  unfold f_X7_either at h
  refine lv_aload_n hx hb dX7_either_0 rfl (lv_at hl 0 rfl) ?_
  obtain ⟨v_at_1, v_fault_2, v_opened_3, v_code_4, v_coded_5, hc1, h⟩ := bd5_s h
  refine x_selfVv (As := []) (rest := []) St0_ok S (c_X7_both l D cI cS o rc fr lo hrc hc1) yf_X7_both wd20_22 ⟨by show (fr + 5) + 1 ≤ (fr + 6); omega, by show 8 + (1 + 11) + (lo + 112) ≤ (lo + 132); omega⟩ hK hSt hA hP hD hS 0 rfl rfl rfl hl.1 rfl (Nat.le_of_ble_eq_true rfl) dX7_either_1 (Nat.zero_le _) (Nat.zero_le _) (fun H locs hP hD hS => ?_)
  have wf_X7_either_L4 : ∀ (k_n : Nat) (v_at_6 : Int32) (v_fault_7 : Int32) (v_opened_8 : Int32) (v_code_9 : Nat → Int32) (v_coded_10 : Int32), f_X7_either_L4 rc v_d v_base v_size v_isCold k_n v_at_6 v_fault_7 v_opened_8 v_code_9 v_coded_10 = some (w_at, w_fault, w_opened, w_code, w_coded) → ∀ (H : Heap) (locs : List Loc), va_P D vwCl (pcX7 o cI v_d v_kept v_images v_found v_aside v_base v_at_6 v_size v_fault_7 v_opened_8 v_isCold v_names v_code_9 v_coded_10 v_pile v_horn v_brass v_coldAhead v_which v_whichMany v_bestPass v_bestLive v_bestCode v_traced v_traceMany v_who v_bitsOf v_sizeOf v_number v_lifted) H → va_D A (pcX7 o cI v_d v_kept v_images v_found v_aside v_base v_at_6 v_size v_fault_7 v_opened_8 v_isCold v_names v_code_9 v_coded_10 v_pile v_horn v_brass v_coldAhead v_which v_whichMany v_bestPass v_bestLive v_bestCode v_traced v_traceMany v_who v_bitsOf v_sizeOf v_number v_lifted) → va_S A s.heap H locs → ∀ ls : Array Slot, lv_has ls 1 [(0, .ref (o 0))] → WV p l e (fr + 6) (lo + 132) s m args below meth c D (tysX cI cS) A (pcX7 o cI v_d v_kept v_images v_found v_aside v_base w_at v_size w_fault w_opened v_isCold v_names w_code w_coded v_pile v_horn v_brass v_coldAhead v_which v_whichMany v_bestPass v_bestLive v_bestCode v_traced v_traceMany v_who v_bitsOf v_sizeOf v_number v_lifted) H locs (F0 m 4 ls []) := by
      intro k_n
      induction k_n with
      | zero => intro v_at_6 v_fault_7 v_opened_8 v_code_9 v_coded_10 h; rw [f_X7_either_L4] at h; cases h
      | succ k_n ih =>
        intro v_at_6 v_fault_7 v_opened_8 v_code_9 v_coded_10 h H locs hP hD hS ls hl
        rw [f_X7_either_L4] at h
        refine lv_aload_n hx hb dX7_either_4 rfl (lv_at hl 0 rfl) ?_
        refine lv_bipush (v := 124) hx hb dX7_either_5 (by decide) ?_
        obtain ⟨v_at_11, r_12, hc7, h⟩ := bd2_s h
        refine x_selfVi (As := [.int 124]) (rest := []) St0_ok S (c_X7_takes l D cI cS o hc7) yf_X7_takes wd21_1 ⟨by show 1 + 1 ≤ (fr + 6); omega, by show 8 + (2 + 11) + 20 ≤ (lo + 132); omega⟩ hK hSt hA hP hD hS 0 rfl rfl rfl hl.1 rfl (Nat.le_of_ble_eq_true rfl) dX7_either_7 (Nat.zero_le _) (Nat.zero_le _) (fun H locs hP hD hS => ?_)
        refine x_if_eq (tgt := 27) hx hb h dX7_either_10 (by decide) (fun c10 h => ?_) (fun c10 h => ?_)
        · cases h
          exact x_vret hx hb hr hlocks hK hP hD hS rfl dX7_either_27
        · refine lv_aload_n hx hb dX7_either_13 rfl (lv_at hl 0 rfl) ?_
          obtain ⟨v_at_13, v_fault_14, v_opened_15, v_code_16, v_coded_17, hc14, h⟩ := bd5_s h
          refine x_selfVv (As := []) (rest := []) St0_ok S (c_X7_both l D cI cS o rc fr lo hrc hc14) yf_X7_both wd20_22 ⟨by show (fr + 5) + 1 ≤ (fr + 6); omega, by show 8 + (1 + 11) + (lo + 112) ≤ (lo + 132); omega⟩ hK hSt hA hP hD hS 0 rfl rfl rfl hl.1 rfl (Nat.le_of_ble_eq_true rfl) dX7_either_14 (Nat.zero_le _) (Nat.zero_le _) (fun H locs hP hD hS => ?_)
          refine lv_aload_n hx hb dX7_either_17 rfl (lv_at hl 0 rfl) ?_
          refine lv_sipush (v := 20124) hx hb dX7_either_18 (by decide) ?_
          obtain ⟨v_code_18, v_coded_19, hc21, h⟩ := bd2_s h
          refine x_selfVv (As := [.int 20124]) (rest := []) St0_ok S (c_X7_lay l D cI cS o hc21) yf_X7_lay wd21_9 ⟨by show 0 + 1 ≤ (fr + 6); omega, by show 8 + (2 + 11) + 0 ≤ (lo + 132); omega⟩ hK hSt hA hP hD hS 0 rfl rfl rfl hl.1 rfl (Nat.le_of_ble_eq_true rfl) dX7_either_21 (Nat.zero_le _) (Nat.zero_le _) (fun H locs hP hD hS => ?_)
          refine lv_goto (tgt := 4) hx hb dX7_either_24 (by decide) ?_
          exact ih v_at_13 v_fault_14 v_opened_15 v_code_18 v_coded_19 h _ _ hP hD hS _ (lv_sub hl [0] rfl)
  exact wf_X7_either_L4 300 v_at_1 v_fault_2 v_opened_3 v_code_4 v_coded_5 h _ _ hP hD hS _ (lv_sub hl [0] rfl)

def f_X7_opensB (rc : (Nat → Int32) → (Int32) → (Int32) → (Int32) → (Int32) → (Int32) → (Int32) → (Nat → Int32) → (Int32) → Int32 → Option ((Int32) × (Int32) × (Int32) × (Nat → Int32) × (Int32))) (v_d : Nat → Int32) (v_base : Int32) (v_at : Int32) (v_size : Int32) (v_fault : Int32) (v_opened : Int32) (v_isCold : Int32) (v_code : Nat → Int32) (v_coded : Int32) (p0 : Int32) : Option ((Int32) × (Int32) × (Int32) × (Nat → Int32) × (Int32)) :=
  (if v_opened = 5 then bd1 (f_X7_wrong v_at v_fault) (fun v_fault_24 => some (v_at, v_fault_24, v_opened, v_code, v_coded)) else nmA (v_opened + 1) (fun v_opened_1 => nmA (v_at + 1) (fun v_at_2 => jnA (fun (v_at_3 : Int32) (v_fault_4 : Int32) (v_opened_5 : Int32) (v_code_6 : Nat → Int32) (v_coded_7 : Int32) => nmA (v_opened_5 - 1) (fun v_opened_8 => some (v_at_3, v_fault_4, v_opened_8, v_code_6, v_coded_7))) (fun J70 => (if p0 = 33 then bd5 (f_X7_unit rc v_d v_base v_at_2 v_size v_fault v_opened_1 v_isCold v_code v_coded) (fun v_at_17 v_fault_18 v_opened_19 v_code_20 v_coded_21 => bd2 (f_X7_lay v_fault_18 v_code_20 v_coded_21 20033) (fun v_code_22 v_coded_23 => J70 v_at_17 v_fault_18 v_opened_19 v_code_22 v_coded_23)) else bd5 (f_X7_either rc v_d v_base v_at_2 v_size v_fault v_opened_1 v_isCold v_code v_coded) (fun v_at_9 v_fault_10 v_opened_11 v_code_12 v_coded_13 => bd2 (f_X7_takes v_d v_base v_at_9 v_size v_fault_10 41) (fun v_at_14 r_15 => (if r_15 = 0 then bd1 (f_X7_wrong v_at_14 v_fault_10) (fun v_fault_16 => J70 v_at_14 v_fault_16 v_opened_11 v_code_12 v_coded_13) else J70 v_at_14 v_fault_10 v_opened_11 v_code_12 v_coded_13))))))))
set_option maxHeartbeats 600000 in
set_option maxRecDepth 100000 in
theorem c_X7_opensB (l : Launch) (D : va_G) (cI cS : ClassId) (o : Nat → Nat) (rc : (Nat → Int32) → (Int32) → (Int32) → (Int32) → (Int32) → (Int32) → (Int32) → (Nat → Int32) → (Int32) → Int32 → Option ((Int32) × (Int32) × (Int32) × (Nat → Int32) × (Int32))) (fr lo : Nat) (hrc : ∀ (v_d : Nat → Int32) (v_kept : Nat → Int32) (v_images : Int32) (v_found : Nat → Int32) (v_aside : Nat → Int32) (v_base : Int32) (v_at : Int32) (v_size : Int32) (v_fault : Int32) (v_opened : Int32) (v_isCold : Int32) (v_names : Nat → Int32) (v_code : Nat → Int32) (v_coded : Int32) (v_pile : Nat → Int32) (v_horn : Int32) (v_brass : Int32) (v_coldAhead : Nat → Int32) (v_which : Nat → Int32) (v_whichMany : Int32) (v_bestPass : Int32) (v_bestLive : Int32) (v_bestCode : Int32) (v_traced : Nat → Int32) (v_traceMany : Int32) (v_who : Int32) (v_bitsOf : Nat → Int32) (v_sizeOf : Nat → Int32) (v_number : Nat → Int32) (v_lifted : Nat → Int32) (p0 : Int32) (w_at : Int32) (w_fault : Int32) (w_opened : Int32) (w_code : Nat → Int32) (w_coded : Int32), rc v_d v_base v_at v_size v_fault v_opened v_isCold v_code v_coded p0 = some (w_at, w_fault, w_opened, w_code, w_coded) → MetV l D (tysX cI cS) St0 yX7_opens cX7_opens 2 none fr lo [.ref (o 0), .int p0] (pcX7 o cI v_d v_kept v_images v_found v_aside v_base v_at v_size v_fault v_opened v_isCold v_names v_code v_coded v_pile v_horn v_brass v_coldAhead v_which v_whichMany v_bestPass v_bestLive v_bestCode v_traced v_traceMany v_who v_bitsOf v_sizeOf v_number v_lifted) (pcX7 o cI v_d v_kept v_images v_found v_aside v_base w_at v_size w_fault w_opened v_isCold v_names w_code w_coded v_pile v_horn v_brass v_coldAhead v_which v_whichMany v_bestPass v_bestLive v_bestCode v_traced v_traceMany v_who v_bitsOf v_sizeOf v_number v_lifted)) {v_d : Nat → Int32} {v_kept : Nat → Int32} {v_images : Int32} {v_found : Nat → Int32} {v_aside : Nat → Int32} {v_base : Int32} {v_at : Int32} {v_size : Int32} {v_fault : Int32} {v_opened : Int32} {v_isCold : Int32} {v_names : Nat → Int32} {v_code : Nat → Int32} {v_coded : Int32} {v_pile : Nat → Int32} {v_horn : Int32} {v_brass : Int32} {v_coldAhead : Nat → Int32} {v_which : Nat → Int32} {v_whichMany : Int32} {v_bestPass : Int32} {v_bestLive : Int32} {v_bestCode : Int32} {v_traced : Nat → Int32} {v_traceMany : Int32} {v_who : Int32} {v_bitsOf : Nat → Int32} {v_sizeOf : Nat → Int32} {v_number : Nat → Int32} {v_lifted : Nat → Int32} {p0 : Int32} {w_at : Int32} {w_fault : Int32} {w_opened : Int32} {w_code : Nat → Int32} {w_coded : Int32} (h : f_X7_opensB rc v_d v_base v_at v_size v_fault v_opened v_isCold v_code v_coded p0 = some (w_at, w_fault, w_opened, w_code, w_coded)) : MetV l D (tysX cI cS) St0 yX7_opens cX7_opens 2 none (fr + 7) (lo + 152) [.ref (o 0), .int p0] (pcX7 o cI v_d v_kept v_images v_found v_aside v_base v_at v_size v_fault v_opened v_isCold v_names v_code v_coded v_pile v_horn v_brass v_coldAhead v_which v_whichMany v_bestPass v_bestLive v_bestCode v_traced v_traceMany v_who v_bitsOf v_sizeOf v_number v_lifted) (pcX7 o cI v_d v_kept v_images v_found v_aside v_base w_at v_size w_fault w_opened v_isCold v_names w_code w_coded v_pile v_horn v_brass v_coldAhead v_which v_whichMany v_bestPass v_bestLive v_bestCode v_traced v_traceMany v_who v_bitsOf v_sizeOf v_number v_lifted) := by
  refine Ent.metV (by decide +kernel) (Nat.le_of_ble_eq_true rfl) ?_
  intro p e s m args below meth c A ls hx hb hr hml hown hts hlocks hA hK hSt hP hD hS hl
  have hown : s.vm.findClass RX7 = some m.cls := hown
  have S : XFix p m c cX7_opens 2 s args RX7 := ⟨hx, hb, hml, hown, hts⟩
  have hl : lv_has ls 2 [(0, .ref (o 0)), (1, .int p0)] := hl
  unfold f_X7_opensB at h
  refine lv_aload_n hx hb dX7_opens_0 rfl (lv_at hl 0 rfl) ?_
  refine gt_X7_104 S hK hP 0 rfl rfl dX7_opens_1 ?_
  refine lv_iconst (v := 5) hx hb dX7_opens_4 (by decide) ?_
  refine x_icmp_ne (tgt := 13) hx hb h dX7_opens_5 (by decide) (fun c5 h => ?_) (fun c5 h => ?_)
  · refine lv_aload_n hx hb dX7_opens_13 rfl (lv_at hl 0 rfl) ?_
    refine lv_dup hx hb dX7_opens_14 rfl ?_
    refine gt_X7_104 S hK hP 0 rfl rfl dX7_opens_15 ?_
    refine lv_iconst (v := 1) hx hb dX7_opens_18 (by decide) ?_
    refine lv_iadd hx hb dX7_opens_19 ?_
    refine x_nm h (fun v_opened_1 ev_opened_1 h => ?_)
    refine pt_X7_104 S hK hP hD hS 0 rfl (Nat.le_of_ble_eq_true rfl) dX7_opens_20 (fun H locs hP hD hS => ?_)
    have hP : va_P D vwCl (pcX7 o cI v_d v_kept v_images v_found v_aside v_base v_at v_size v_fault v_opened_1 v_isCold v_names v_code v_coded v_pile v_horn v_brass v_coldAhead v_which v_whichMany v_bestPass v_bestLive v_bestCode v_traced v_traceMany v_who v_bitsOf v_sizeOf v_number v_lifted) H := hP
    have hD : va_D A (pcX7 o cI v_d v_kept v_images v_found v_aside v_base v_at v_size v_fault v_opened_1 v_isCold v_names v_code v_coded v_pile v_horn v_brass v_coldAhead v_which v_whichMany v_bestPass v_bestLive v_bestCode v_traced v_traceMany v_who v_bitsOf v_sizeOf v_number v_lifted) := hD
    refine lv_aload_n hx hb dX7_opens_23 rfl (lv_at hl 0 rfl) ?_
    refine lv_dup hx hb dX7_opens_24 rfl ?_
    refine gt_X7_57 S hK hP 0 rfl rfl dX7_opens_25 ?_
    refine lv_iconst (v := 1) hx hb dX7_opens_28 (by decide) ?_
    refine lv_iadd hx hb dX7_opens_29 ?_
    refine x_nm h (fun v_at_2 ev_at_2 h => ?_)
    refine pt_X7_57 S hK hP hD hS 0 rfl (Nat.le_of_ble_eq_true rfl) dX7_opens_30 (fun H locs hP hD hS => ?_)
    have hP : va_P D vwCl (pcX7 o cI v_d v_kept v_images v_found v_aside v_base v_at_2 v_size v_fault v_opened_1 v_isCold v_names v_code v_coded v_pile v_horn v_brass v_coldAhead v_which v_whichMany v_bestPass v_bestLive v_bestCode v_traced v_traceMany v_who v_bitsOf v_sizeOf v_number v_lifted) H := hP
    have hD : va_D A (pcX7 o cI v_d v_kept v_images v_found v_aside v_base v_at_2 v_size v_fault v_opened_1 v_isCold v_names v_code v_coded v_pile v_horn v_brass v_coldAhead v_which v_whichMany v_bestPass v_bestLive v_bestCode v_traced v_traceMany v_who v_bitsOf v_sizeOf v_number v_lifted) := hD
    refine lv_iload_n hx hb dX7_opens_33 rfl (lv_at hl 1 rfl) ?_
    refine lv_bipush (v := 33) hx hb dX7_opens_34 (by decide) ?_
    obtain ⟨J70, eJ70, h⟩ := jnA_s h
    have wJ70 : ∀ (v_at_3 : Int32) (v_fault_4 : Int32) (v_opened_5 : Int32) (v_code_6 : Nat → Int32) (v_coded_7 : Int32), J70 v_at_3 v_fault_4 v_opened_5 v_code_6 v_coded_7 = some (w_at, w_fault, w_opened, w_code, w_coded) → ∀ (H : Heap) (locs : List Loc), va_P D vwCl (pcX7 o cI v_d v_kept v_images v_found v_aside v_base v_at_3 v_size v_fault_4 v_opened_5 v_isCold v_names v_code_6 v_coded_7 v_pile v_horn v_brass v_coldAhead v_which v_whichMany v_bestPass v_bestLive v_bestCode v_traced v_traceMany v_who v_bitsOf v_sizeOf v_number v_lifted) H → va_D A (pcX7 o cI v_d v_kept v_images v_found v_aside v_base v_at_3 v_size v_fault_4 v_opened_5 v_isCold v_names v_code_6 v_coded_7 v_pile v_horn v_brass v_coldAhead v_which v_whichMany v_bestPass v_bestLive v_bestCode v_traced v_traceMany v_who v_bitsOf v_sizeOf v_number v_lifted) → va_S A s.heap H locs → ∀ ls : Array Slot, lv_has ls 2 [(0, .ref (o 0))] → WV p l e (fr + 7) (lo + 152) s m args below meth c D (tysX cI cS) A (pcX7 o cI v_d v_kept v_images v_found v_aside v_base w_at v_size w_fault w_opened v_isCold v_names w_code w_coded v_pile v_horn v_brass v_coldAhead v_which v_whichMany v_bestPass v_bestLive v_bestCode v_traced v_traceMany v_who v_bitsOf v_sizeOf v_number v_lifted) H locs (F0 m 70 ls []) := by
        intro v_at_3 v_fault_4 v_opened_5 v_code_6 v_coded_7 h H locs hP hD hS ls hl
        subst eJ70
        dsimp only at h
        refine lv_aload_n hx hb dX7_opens_70 rfl (lv_at hl 0 rfl) ?_
        refine lv_dup hx hb dX7_opens_71 rfl ?_
        refine gt_X7_104 S hK hP 0 rfl rfl dX7_opens_72 ?_
        refine lv_iconst (v := 1) hx hb dX7_opens_75 (by decide) ?_
        refine lv_isub hx hb dX7_opens_76 ?_
        refine x_nm h (fun v_opened_8 ev_opened_8 h => ?_)
        refine pt_X7_104 S hK hP hD hS 0 rfl (Nat.le_of_ble_eq_true rfl) dX7_opens_77 (fun H locs hP hD hS => ?_)
        have hP : va_P D vwCl (pcX7 o cI v_d v_kept v_images v_found v_aside v_base v_at_3 v_size v_fault_4 v_opened_8 v_isCold v_names v_code_6 v_coded_7 v_pile v_horn v_brass v_coldAhead v_which v_whichMany v_bestPass v_bestLive v_bestCode v_traced v_traceMany v_who v_bitsOf v_sizeOf v_number v_lifted) H := hP
        have hD : va_D A (pcX7 o cI v_d v_kept v_images v_found v_aside v_base v_at_3 v_size v_fault_4 v_opened_8 v_isCold v_names v_code_6 v_coded_7 v_pile v_horn v_brass v_coldAhead v_which v_whichMany v_bestPass v_bestLive v_bestCode v_traced v_traceMany v_who v_bitsOf v_sizeOf v_number v_lifted) := hD
        cases h
        exact x_vret hx hb hr hlocks hK hP hD hS rfl dX7_opens_80
    refine x_icmp_ne (tgt := 53) hx hb h dX7_opens_36 (by decide) (fun c36 h => ?_) (fun c36 h => ?_)
    · refine lv_aload_n hx hb dX7_opens_53 rfl (lv_at hl 0 rfl) ?_
      obtain ⟨v_at_9, v_fault_10, v_opened_11, v_code_12, v_coded_13, hc54, h⟩ := bd5_s h
      refine x_selfVv (As := []) (rest := []) St0_ok S (c_X7_either l D cI cS o rc fr lo hrc hc54) yf_X7_either wd20_18 ⟨by show (fr + 6) + 1 ≤ (fr + 7); omega, by show 8 + (1 + 11) + (lo + 132) ≤ (lo + 152); omega⟩ hK hSt hA hP hD hS 0 rfl rfl rfl hl.1 rfl (Nat.le_of_ble_eq_true rfl) dX7_opens_54 (Nat.zero_le _) (Nat.zero_le _) (fun H locs hP hD hS => ?_)
      refine lv_aload_n hx hb dX7_opens_57 rfl (lv_at hl 0 rfl) ?_
      refine lv_bipush (v := 41) hx hb dX7_opens_58 (by decide) ?_
      obtain ⟨v_at_14, r_15, hc60, h⟩ := bd2_s h
      refine x_selfVi (As := [.int 41]) (rest := []) St0_ok S (c_X7_takes l D cI cS o hc60) yf_X7_takes wd21_1 ⟨by show 1 + 1 ≤ (fr + 7); omega, by show 8 + (2 + 11) + 20 ≤ (lo + 152); omega⟩ hK hSt hA hP hD hS 0 rfl rfl rfl hl.1 rfl (Nat.le_of_ble_eq_true rfl) dX7_opens_60 (Nat.zero_le _) (Nat.zero_le _) (fun H locs hP hD hS => ?_)
      refine x_if_ne (tgt := 70) hx hb h dX7_opens_63 (by decide) (fun c63 h => ?_) (fun c63 h => ?_)
      · exact wJ70 v_at_14 v_fault_10 v_opened_11 v_code_12 v_coded_13 h _ _ hP hD hS _ (lv_sub hl [0] rfl)
      · refine lv_aload_n hx hb dX7_opens_66 rfl (lv_at hl 0 rfl) ?_
        obtain ⟨v_fault_16, hc67, h⟩ := bd1_s h
        refine x_selfVv (As := []) (rest := []) St0_ok S (c_X7_wrong l D cI cS o hc67) yf_X7_wrong wd21_22 ⟨by show 0 + 1 ≤ (fr + 7); omega, by show 8 + (1 + 11) + 0 ≤ (lo + 152); omega⟩ hK hSt hA hP hD hS 0 rfl rfl rfl hl.1 rfl (Nat.le_of_ble_eq_true rfl) dX7_opens_67 (Nat.zero_le _) (Nat.zero_le _) (fun H locs hP hD hS => ?_)
        exact wJ70 v_at_14 v_fault_16 v_opened_11 v_code_12 v_coded_13 h _ _ hP hD hS _ (lv_sub hl [0] rfl)
    · refine lv_aload_n hx hb dX7_opens_39 rfl (lv_at hl 0 rfl) ?_
      obtain ⟨v_at_17, v_fault_18, v_opened_19, v_code_20, v_coded_21, hc40, h⟩ := bd5_s h
      refine x_selfVv (As := []) (rest := []) St0_ok S (c_X7_unit l D cI cS o rc fr lo hrc hc40) yf_X7_unit wd22_2 ⟨by show (fr + 1) + 1 ≤ (fr + 7); omega, by show 8 + (5 + 11) + (lo + 25) ≤ (lo + 152); omega⟩ hK hSt hA hP hD hS 0 rfl rfl rfl hl.1 rfl (Nat.le_of_ble_eq_true rfl) dX7_opens_40 (Nat.zero_le _) (Nat.zero_le _) (fun H locs hP hD hS => ?_)
      refine lv_aload_n hx hb dX7_opens_43 rfl (lv_at hl 0 rfl) ?_
      refine lv_sipush (v := 20033) hx hb dX7_opens_44 (by decide) ?_
      obtain ⟨v_code_22, v_coded_23, hc47, h⟩ := bd2_s h
      refine x_selfVv (As := [.int 20033]) (rest := []) St0_ok S (c_X7_lay l D cI cS o hc47) yf_X7_lay wd21_9 ⟨by show 0 + 1 ≤ (fr + 7); omega, by show 8 + (2 + 11) + 0 ≤ (lo + 152); omega⟩ hK hSt hA hP hD hS 0 rfl rfl rfl hl.1 rfl (Nat.le_of_ble_eq_true rfl) dX7_opens_47 (Nat.zero_le _) (Nat.zero_le _) (fun H locs hP hD hS => ?_)
      refine lv_goto (tgt := 70) hx hb dX7_opens_50 (by decide) ?_
      exact wJ70 v_at_17 v_fault_18 v_opened_19 v_code_22 v_coded_23 h _ _ hP hD hS _ (lv_sub hl [0] rfl)
  · refine lv_aload_n hx hb dX7_opens_8 rfl (lv_at hl 0 rfl) ?_
    obtain ⟨v_fault_24, hc9, h⟩ := bd1_s h
    refine x_selfVv (As := []) (rest := []) St0_ok S (c_X7_wrong l D cI cS o hc9) yf_X7_wrong wd21_22 ⟨by show 0 + 1 ≤ (fr + 7); omega, by show 8 + (1 + 11) + 0 ≤ (lo + 152); omega⟩ hK hSt hA hP hD hS 0 rfl rfl rfl hl.1 rfl (Nat.le_of_ble_eq_true rfl) dX7_opens_9 (Nat.zero_le _) (Nat.zero_le _) (fun H locs hP hD hS => ?_)
    cases h
    exact x_vret hx hb hr hlocks hK hP hD hS rfl dX7_opens_12

def f_X7_opens : Nat → (Nat → Int32) → (Int32) → (Int32) → (Int32) → (Int32) → (Int32) → (Int32) → (Nat → Int32) → (Int32) → Int32 → Option ((Int32) × (Int32) × (Int32) × (Nat → Int32) × (Int32))
  | 0, _, _, _, _, _, _, _, _, _, _ => none
  | k_n + 1, v_d, v_base, v_at, v_size, v_fault, v_opened, v_isCold, v_code, v_coded, p0 => f_X7_opensB (f_X7_opens k_n) v_d v_base v_at v_size v_fault v_opened v_isCold v_code v_coded p0
theorem c_X7_opens (l : Launch) (D : va_G) (cI cS : ClassId) (o : Nat → Nat) : ∀ (k_n : Nat), ∀ (v_d : Nat → Int32) (v_kept : Nat → Int32) (v_images : Int32) (v_found : Nat → Int32) (v_aside : Nat → Int32) (v_base : Int32) (v_at : Int32) (v_size : Int32) (v_fault : Int32) (v_opened : Int32) (v_isCold : Int32) (v_names : Nat → Int32) (v_code : Nat → Int32) (v_coded : Int32) (v_pile : Nat → Int32) (v_horn : Int32) (v_brass : Int32) (v_coldAhead : Nat → Int32) (v_which : Nat → Int32) (v_whichMany : Int32) (v_bestPass : Int32) (v_bestLive : Int32) (v_bestCode : Int32) (v_traced : Nat → Int32) (v_traceMany : Int32) (v_who : Int32) (v_bitsOf : Nat → Int32) (v_sizeOf : Nat → Int32) (v_number : Nat → Int32) (v_lifted : Nat → Int32) (p0 : Int32) (w_at : Int32) (w_fault : Int32) (w_opened : Int32) (w_code : Nat → Int32) (w_coded : Int32), f_X7_opens k_n v_d v_base v_at v_size v_fault v_opened v_isCold v_code v_coded p0 = some (w_at, w_fault, w_opened, w_code, w_coded) → MetV l D (tysX cI cS) St0 yX7_opens cX7_opens 2 none (7 * k_n) (152 * k_n) [.ref (o 0), .int p0] (pcX7 o cI v_d v_kept v_images v_found v_aside v_base v_at v_size v_fault v_opened v_isCold v_names v_code v_coded v_pile v_horn v_brass v_coldAhead v_which v_whichMany v_bestPass v_bestLive v_bestCode v_traced v_traceMany v_who v_bitsOf v_sizeOf v_number v_lifted) (pcX7 o cI v_d v_kept v_images v_found v_aside v_base w_at v_size w_fault w_opened v_isCold v_names w_code w_coded v_pile v_horn v_brass v_coldAhead v_which v_whichMany v_bestPass v_bestLive v_bestCode v_traced v_traceMany v_who v_bitsOf v_sizeOf v_number v_lifted) := by
  intro k_n
  induction k_n with
  | zero => intro v_d v_kept v_images v_found v_aside v_base v_at v_size v_fault v_opened v_isCold v_names v_code v_coded v_pile v_horn v_brass v_coldAhead v_which v_whichMany v_bestPass v_bestLive v_bestCode v_traced v_traceMany v_who v_bitsOf v_sizeOf v_number v_lifted p0 w_at w_fault w_opened w_code w_coded h; rw [f_X7_opens] at h; cases h
  | succ k_n ih => intro v_d v_kept v_images v_found v_aside v_base v_at v_size v_fault v_opened v_isCold v_names v_code v_coded v_pile v_horn v_brass v_coldAhead v_which v_whichMany v_bestPass v_bestLive v_bestCode v_traced v_traceMany v_who v_bitsOf v_sizeOf v_number v_lifted p0 w_at w_fault w_opened w_code w_coded h; rw [f_X7_opens] at h; exact c_X7_opensB l D cI cS o (f_X7_opens k_n) (7 * k_n) (152 * k_n) ih h
def f_X7_reads  (v_d : Nat → Int32) (v_base : Int32) (v_at : Int32) (v_size : Int32) (v_fault : Int32) (v_opened : Int32) (v_isCold : Int32) (v_code : Nat → Int32) (v_coded : Int32) (p0 : Int32) (p1 : Int32) (p2 : Int32) : Option ((Int32) × (Int32) × (Int32) × (Int32) × (Int32) × (Int32) × (Nat → Int32) × (Int32)) :=
  jnA (fun (t0_1 : Int32) => bzA t0_1 (bd5 (f_X7_either (f_X7_opens 7) v_d p0 0 p1 (-1) 0 t0_1 v_code 0) (fun v_at_2 v_fault_3 v_opened_4 v_code_5 v_coded_6 => (if 0 ≤ v_fault_3 then some (p0, v_at_2, p1, v_fault_3, v_opened_4, t0_1, v_code_5, v_coded_6) else (if p1 ≤ v_at_2 then some (p0, v_at_2, p1, v_fault_3, v_opened_4, t0_1, v_code_5, v_coded_6) else bd1 (f_X7_wrong v_at_2 v_fault_3) (fun v_fault_7 => some (p0, v_at_2, p1, v_fault_7, v_opened_4, t0_1, v_code_5, v_coded_6))))))) (fun J41 => (if p2 = 1 then J41 1 else J41 0))
set_option maxHeartbeats 600000 in
set_option maxRecDepth 100000 in
theorem c_X7_reads (l : Launch) (D : va_G) (cI cS : ClassId) (o : Nat → Nat) {v_d : Nat → Int32} {v_kept : Nat → Int32} {v_images : Int32} {v_found : Nat → Int32} {v_aside : Nat → Int32} {v_base : Int32} {v_at : Int32} {v_size : Int32} {v_fault : Int32} {v_opened : Int32} {v_isCold : Int32} {v_names : Nat → Int32} {v_code : Nat → Int32} {v_coded : Int32} {v_pile : Nat → Int32} {v_horn : Int32} {v_brass : Int32} {v_coldAhead : Nat → Int32} {v_which : Nat → Int32} {v_whichMany : Int32} {v_bestPass : Int32} {v_bestLive : Int32} {v_bestCode : Int32} {v_traced : Nat → Int32} {v_traceMany : Int32} {v_who : Int32} {v_bitsOf : Nat → Int32} {v_sizeOf : Nat → Int32} {v_number : Nat → Int32} {v_lifted : Nat → Int32} {p0 : Int32} {p1 : Int32} {p2 : Int32} {w_base : Int32} {w_at : Int32} {w_size : Int32} {w_fault : Int32} {w_opened : Int32} {w_isCold : Int32} {w_code : Nat → Int32} {w_coded : Int32} (h : f_X7_reads  v_d v_base v_at v_size v_fault v_opened v_isCold v_code v_coded p0 p1 p2 = some (w_base, w_at, w_size, w_fault, w_opened, w_isCold, w_code, w_coded)) : MetV l D (tysX cI cS) St0 yX7_reads cX7_reads 4 none 56 1216 [.ref (o 0), .int p0, .int p1, .int p2] (pcX7 o cI v_d v_kept v_images v_found v_aside v_base v_at v_size v_fault v_opened v_isCold v_names v_code v_coded v_pile v_horn v_brass v_coldAhead v_which v_whichMany v_bestPass v_bestLive v_bestCode v_traced v_traceMany v_who v_bitsOf v_sizeOf v_number v_lifted) (pcX7 o cI v_d v_kept v_images v_found v_aside w_base w_at w_size w_fault w_opened w_isCold v_names w_code w_coded v_pile v_horn v_brass v_coldAhead v_which v_whichMany v_bestPass v_bestLive v_bestCode v_traced v_traceMany v_who v_bitsOf v_sizeOf v_number v_lifted) := by
  refine Ent.metV (by decide +kernel) (Nat.le_of_ble_eq_true rfl) ?_
  intro p e s m args below meth c A ls hx hb hr hml hown hts hlocks hA hK hSt hP hD hS hl
  have hown : s.vm.findClass RX7 = some m.cls := hown
  have S : XFix p m c cX7_reads 4 s args RX7 := ⟨hx, hb, hml, hown, hts⟩
  have hl : lv_has ls 4 [(0, .ref (o 0)), (1, .int p0), (2, .int p1), (3, .int p2)] := hl
  unfold f_X7_reads at h
  refine lv_aload_n hx hb dX7_reads_0 rfl (lv_at hl 0 rfl) ?_
  refine lv_iload_n hx hb dX7_reads_1 rfl (lv_at hl 1 rfl) ?_
  refine pt_X7_67 S hK hP hD hS 0 rfl (Nat.le_of_ble_eq_true rfl) dX7_reads_2 (fun H locs hP hD hS => ?_)
  have hP : va_P D vwCl (pcX7 o cI v_d v_kept v_images v_found v_aside p0 v_at v_size v_fault v_opened v_isCold v_names v_code v_coded v_pile v_horn v_brass v_coldAhead v_which v_whichMany v_bestPass v_bestLive v_bestCode v_traced v_traceMany v_who v_bitsOf v_sizeOf v_number v_lifted) H := hP
  have hD : va_D A (pcX7 o cI v_d v_kept v_images v_found v_aside p0 v_at v_size v_fault v_opened v_isCold v_names v_code v_coded v_pile v_horn v_brass v_coldAhead v_which v_whichMany v_bestPass v_bestLive v_bestCode v_traced v_traceMany v_who v_bitsOf v_sizeOf v_number v_lifted) := hD
  refine lv_aload_n hx hb dX7_reads_5 rfl (lv_at hl 0 rfl) ?_
  refine lv_iconst (v := 0) hx hb dX7_reads_6 (by decide) ?_
  refine pt_X7_57 S hK hP hD hS 0 rfl (Nat.le_of_ble_eq_true rfl) dX7_reads_7 (fun H locs hP hD hS => ?_)
  have hP : va_P D vwCl (pcX7 o cI v_d v_kept v_images v_found v_aside p0 0 v_size v_fault v_opened v_isCold v_names v_code v_coded v_pile v_horn v_brass v_coldAhead v_which v_whichMany v_bestPass v_bestLive v_bestCode v_traced v_traceMany v_who v_bitsOf v_sizeOf v_number v_lifted) H := hP
  have hD : va_D A (pcX7 o cI v_d v_kept v_images v_found v_aside p0 0 v_size v_fault v_opened v_isCold v_names v_code v_coded v_pile v_horn v_brass v_coldAhead v_which v_whichMany v_bestPass v_bestLive v_bestCode v_traced v_traceMany v_who v_bitsOf v_sizeOf v_number v_lifted) := hD
  refine lv_aload_n hx hb dX7_reads_10 rfl (lv_at hl 0 rfl) ?_
  refine lv_iload_n hx hb dX7_reads_11 rfl (lv_at hl 2 rfl) ?_
  refine pt_X7_61 S hK hP hD hS 0 rfl (Nat.le_of_ble_eq_true rfl) dX7_reads_12 (fun H locs hP hD hS => ?_)
  have hP : va_P D vwCl (pcX7 o cI v_d v_kept v_images v_found v_aside p0 0 p1 v_fault v_opened v_isCold v_names v_code v_coded v_pile v_horn v_brass v_coldAhead v_which v_whichMany v_bestPass v_bestLive v_bestCode v_traced v_traceMany v_who v_bitsOf v_sizeOf v_number v_lifted) H := hP
  have hD : va_D A (pcX7 o cI v_d v_kept v_images v_found v_aside p0 0 p1 v_fault v_opened v_isCold v_names v_code v_coded v_pile v_horn v_brass v_coldAhead v_which v_whichMany v_bestPass v_bestLive v_bestCode v_traced v_traceMany v_who v_bitsOf v_sizeOf v_number v_lifted) := hD
  refine lv_aload_n hx hb dX7_reads_15 rfl (lv_at hl 0 rfl) ?_
  refine lv_iconst (v := (-1)) hx hb dX7_reads_16 (by decide) ?_
  refine pt_X7_64 S hK hP hD hS 0 rfl (Nat.le_of_ble_eq_true rfl) dX7_reads_17 (fun H locs hP hD hS => ?_)
  have hP : va_P D vwCl (pcX7 o cI v_d v_kept v_images v_found v_aside p0 0 p1 (-1) v_opened v_isCold v_names v_code v_coded v_pile v_horn v_brass v_coldAhead v_which v_whichMany v_bestPass v_bestLive v_bestCode v_traced v_traceMany v_who v_bitsOf v_sizeOf v_number v_lifted) H := hP
  have hD : va_D A (pcX7 o cI v_d v_kept v_images v_found v_aside p0 0 p1 (-1) v_opened v_isCold v_names v_code v_coded v_pile v_horn v_brass v_coldAhead v_which v_whichMany v_bestPass v_bestLive v_bestCode v_traced v_traceMany v_who v_bitsOf v_sizeOf v_number v_lifted) := hD
  refine lv_aload_n hx hb dX7_reads_20 rfl (lv_at hl 0 rfl) ?_
  refine lv_iconst (v := 0) hx hb dX7_reads_21 (by decide) ?_
  refine pt_X7_104 S hK hP hD hS 0 rfl (Nat.le_of_ble_eq_true rfl) dX7_reads_22 (fun H locs hP hD hS => ?_)
  have hP : va_P D vwCl (pcX7 o cI v_d v_kept v_images v_found v_aside p0 0 p1 (-1) 0 v_isCold v_names v_code v_coded v_pile v_horn v_brass v_coldAhead v_which v_whichMany v_bestPass v_bestLive v_bestCode v_traced v_traceMany v_who v_bitsOf v_sizeOf v_number v_lifted) H := hP
  have hD : va_D A (pcX7 o cI v_d v_kept v_images v_found v_aside p0 0 p1 (-1) 0 v_isCold v_names v_code v_coded v_pile v_horn v_brass v_coldAhead v_which v_whichMany v_bestPass v_bestLive v_bestCode v_traced v_traceMany v_who v_bitsOf v_sizeOf v_number v_lifted) := hD
  refine lv_aload_n hx hb dX7_reads_25 rfl (lv_at hl 0 rfl) ?_
  refine lv_iconst (v := 0) hx hb dX7_reads_26 (by decide) ?_
  refine pt_X7_78 S hK hP hD hS 0 rfl (Nat.le_of_ble_eq_true rfl) dX7_reads_27 (fun H locs hP hD hS => ?_)
  have hP : va_P D vwCl (pcX7 o cI v_d v_kept v_images v_found v_aside p0 0 p1 (-1) 0 v_isCold v_names v_code 0 v_pile v_horn v_brass v_coldAhead v_which v_whichMany v_bestPass v_bestLive v_bestCode v_traced v_traceMany v_who v_bitsOf v_sizeOf v_number v_lifted) H := hP
  have hD : va_D A (pcX7 o cI v_d v_kept v_images v_found v_aside p0 0 p1 (-1) 0 v_isCold v_names v_code 0 v_pile v_horn v_brass v_coldAhead v_which v_whichMany v_bestPass v_bestLive v_bestCode v_traced v_traceMany v_who v_bitsOf v_sizeOf v_number v_lifted) := hD
  refine lv_aload_n hx hb dX7_reads_30 rfl (lv_at hl 0 rfl) ?_
  refine lv_iload_n hx hb dX7_reads_31 rfl (lv_at hl 3 rfl) ?_
  refine lv_iconst (v := 1) hx hb dX7_reads_32 (by decide) ?_
  obtain ⟨J41, eJ41, h⟩ := jnA_s h
  have wJ41 : ∀ (t0_1 : Int32), J41 t0_1 = some (w_base, w_at, w_size, w_fault, w_opened, w_isCold, w_code, w_coded) → ∀ (H : Heap) (locs : List Loc), va_P D vwCl (pcX7 o cI v_d v_kept v_images v_found v_aside p0 0 p1 (-1) 0 v_isCold v_names v_code 0 v_pile v_horn v_brass v_coldAhead v_which v_whichMany v_bestPass v_bestLive v_bestCode v_traced v_traceMany v_who v_bitsOf v_sizeOf v_number v_lifted) H → va_D A (pcX7 o cI v_d v_kept v_images v_found v_aside p0 0 p1 (-1) 0 v_isCold v_names v_code 0 v_pile v_horn v_brass v_coldAhead v_which v_whichMany v_bestPass v_bestLive v_bestCode v_traced v_traceMany v_who v_bitsOf v_sizeOf v_number v_lifted) → va_S A s.heap H locs → ∀ ls : Array Slot, lv_has ls 4 [(0, .ref (o 0))] → WV p l e 56 1216 s m args below meth c D (tysX cI cS) A (pcX7 o cI v_d v_kept v_images v_found v_aside w_base w_at w_size w_fault w_opened w_isCold v_names w_code w_coded v_pile v_horn v_brass v_coldAhead v_which v_whichMany v_bestPass v_bestLive v_bestCode v_traced v_traceMany v_who v_bitsOf v_sizeOf v_number v_lifted) H locs (F0 m 41 ls [.int t0_1, .ref (o 0)]) := by
      intro t0_1 h H locs hP hD hS ls hl
      subst eJ41
      dsimp only at h
      obtain ⟨hz41, h⟩ := bzA_s h
      refine pt_X7_74 S hK hP hD hS 0 rfl (Nat.le_of_ble_eq_true rfl) hz41 dX7_reads_41 (fun H locs hP hD hS => ?_)
      have hP : va_P D vwCl (pcX7 o cI v_d v_kept v_images v_found v_aside p0 0 p1 (-1) 0 t0_1 v_names v_code 0 v_pile v_horn v_brass v_coldAhead v_which v_whichMany v_bestPass v_bestLive v_bestCode v_traced v_traceMany v_who v_bitsOf v_sizeOf v_number v_lifted) H := hP
      have hD : va_D A (pcX7 o cI v_d v_kept v_images v_found v_aside p0 0 p1 (-1) 0 t0_1 v_names v_code 0 v_pile v_horn v_brass v_coldAhead v_which v_whichMany v_bestPass v_bestLive v_bestCode v_traced v_traceMany v_who v_bitsOf v_sizeOf v_number v_lifted) := hD
      refine lv_aload_n hx hb dX7_reads_44 rfl (lv_at hl 0 rfl) ?_
      obtain ⟨v_at_2, v_fault_3, v_opened_4, v_code_5, v_coded_6, hc45, h⟩ := bd5_s h
      refine x_selfVv (As := []) (rest := []) St0_ok S (c_X7_either l D cI cS o (f_X7_opens 7) 49 1064 (c_X7_opens l D cI cS o 7) hc45) yf_X7_either wd20_18 ⟨Nat.le_of_ble_eq_true rfl, Nat.le_of_ble_eq_true rfl⟩ hK hSt hA hP hD hS 0 rfl rfl rfl hl.1 rfl (Nat.le_of_ble_eq_true rfl) dX7_reads_45 (Nat.zero_le _) (Nat.zero_le _) (fun H locs hP hD hS => ?_)
      refine lv_aload_n hx hb dX7_reads_48 rfl (lv_at hl 0 rfl) ?_
      refine gt_X7_64 S hK hP 0 rfl rfl dX7_reads_49 ?_
      refine x_if_ge (tgt := 70) hx hb h dX7_reads_52 (by decide) (fun c52 h => ?_) (fun c52 h => ?_)
      · cases h
        exact x_vret hx hb hr hlocks hK hP hD hS rfl dX7_reads_70
      · refine lv_aload_n hx hb dX7_reads_55 rfl (lv_at hl 0 rfl) ?_
        refine gt_X7_57 S hK hP 0 rfl rfl dX7_reads_56 ?_
        refine lv_aload_n hx hb dX7_reads_59 rfl (lv_at hl 0 rfl) ?_
        refine gt_X7_61 S hK hP 0 rfl rfl dX7_reads_60 ?_
        refine x_icmp_ge (tgt := 70) hx hb h dX7_reads_63 (by decide) (fun c63 h => ?_) (fun c63 h => ?_)
        · cases h
          exact x_vret hx hb hr hlocks hK hP hD hS rfl dX7_reads_70
        · refine lv_aload_n hx hb dX7_reads_66 rfl (lv_at hl 0 rfl) ?_
          obtain ⟨v_fault_7, hc67, h⟩ := bd1_s h
          refine x_selfVv (As := []) (rest := []) St0_ok S (c_X7_wrong l D cI cS o hc67) yf_X7_wrong wd21_22 ⟨Nat.le_of_ble_eq_true rfl, Nat.le_of_ble_eq_true rfl⟩ hK hSt hA hP hD hS 0 rfl rfl rfl hl.1 rfl (Nat.le_of_ble_eq_true rfl) dX7_reads_67 (Nat.zero_le _) (Nat.zero_le _) (fun H locs hP hD hS => ?_)
          cases h
          exact x_vret hx hb hr hlocks hK hP hD hS rfl dX7_reads_70
  refine x_icmp_ne (tgt := 40) hx hb h dX7_reads_33 (by decide) (fun c33 h => ?_) (fun c33 h => ?_)
  · refine lv_iconst (v := 0) hx hb dX7_reads_40 (by decide) ?_
    exact wJ41 0 h _ _ hP hD hS _ (lv_sub hl [0] rfl)
  · refine lv_iconst (v := 1) hx hb dX7_reads_36 (by decide) ?_
    refine lv_goto (tgt := 41) hx hb dX7_reads_37 (by decide) ?_
    exact wJ41 1 h _ _ hP hD hS _ (lv_sub hl [0] rfl)

def f_X7_text_L71 (v_found : Nat → Int32) (p0 : Int32) (v_base_4 : Int32) (v_at_5 : Int32) (v_size_6 : Int32) (v_fault_7 : Int32) (v_opened_8 : Int32) (v_isCold_9 : Int32) (v_code_10 : Nat → Int32) (v_coded_11 : Int32) : Nat → (Nat → Int32) → Int32 → Option ((Nat → Int32) × (Nat → Int32) × (Int32) × (Int32) × (Int32) × (Int32) × (Int32) × (Int32) × (Nat → Int32) × (Int32) × (Int32))
  | 0, _, _ => none
  | k_n + 1, v_d_13, l3_14 => (if v_coded_11 ≤ l3_14 then some (v_d_13, v_found, v_base_4, v_at_5, v_size_6, v_fault_7, v_opened_8, v_isCold_9, v_code_10, v_coded_11, 1) else rdA 60 v_code_10 l3_14 (fun x_15 => wrA 248 v_d_13 ((98 + (50 * p0)) + l3_14) x_15 (fun v_d_16 => nmA (l3_14 + 1) (fun l3_17 => f_X7_text_L71 v_found p0 v_base_4 v_at_5 v_size_6 v_fault_7 v_opened_8 v_isCold_9 v_code_10 v_coded_11 k_n v_d_16 l3_17))))
def f_X7_text  (v_d : Nat → Int32) (v_found : Nat → Int32) (v_base : Int32) (v_at : Int32) (v_size : Int32) (v_fault : Int32) (v_opened : Int32) (v_isCold : Int32) (v_code : Nat → Int32) (v_coded : Int32) (p0 : Int32) : Option ((Nat → Int32) × (Nat → Int32) × (Int32) × (Int32) × (Int32) × (Int32) × (Int32) × (Int32) × (Nat → Int32) × (Int32) × (Int32)) :=
  bd1 (f_X7_in (p0.toInt64) 0 1) (fun r_1 => (if r_1 = 0 then bd2 (f_X7_finds v_found 1) (fun v_found_18 r_19 => some (v_d, v_found_18, v_base, v_at, v_size, v_fault, v_opened, v_isCold, v_code, v_coded, r_19)) else rdA 248 v_d 8 (fun x_2 => wrA 248 v_d 8 0 (fun v_d_3 => bd8 (f_X7_reads v_d_3 v_base v_at v_size v_fault v_opened v_isCold v_code v_coded 198 x_2 p0) (fun v_base_4 v_at_5 v_size_6 v_fault_7 v_opened_8 v_isCold_9 v_code_10 v_coded_11 => (if v_fault_7 < 0 then wrA 248 v_d_3 (76 + p0) v_coded_11 (fun v_d_12 => f_X7_text_L71 v_found p0 v_base_4 v_at_5 v_size_6 v_fault_7 v_opened_8 v_isCold_9 v_code_10 v_coded_11 300 v_d_12 0) else some (v_d_3, v_found, v_base_4, v_at_5, v_size_6, v_fault_7, v_opened_8, v_isCold_9, v_code_10, v_coded_11, ((-10) - v_fault_7))))))))
set_option maxHeartbeats 600000 in
set_option maxRecDepth 100000 in
theorem c_X7_text (l : Launch) (D : va_G) (cI cS : ClassId) (o : Nat → Nat) {v_d : Nat → Int32} {v_kept : Nat → Int32} {v_images : Int32} {v_found : Nat → Int32} {v_aside : Nat → Int32} {v_base : Int32} {v_at : Int32} {v_size : Int32} {v_fault : Int32} {v_opened : Int32} {v_isCold : Int32} {v_names : Nat → Int32} {v_code : Nat → Int32} {v_coded : Int32} {v_pile : Nat → Int32} {v_horn : Int32} {v_brass : Int32} {v_coldAhead : Nat → Int32} {v_which : Nat → Int32} {v_whichMany : Int32} {v_bestPass : Int32} {v_bestLive : Int32} {v_bestCode : Int32} {v_traced : Nat → Int32} {v_traceMany : Int32} {v_who : Int32} {v_bitsOf : Nat → Int32} {v_sizeOf : Nat → Int32} {v_number : Nat → Int32} {v_lifted : Nat → Int32} {p0 : Int32} {w_d : Nat → Int32} {w_found : Nat → Int32} {w_base : Int32} {w_at : Int32} {w_size : Int32} {w_fault : Int32} {w_opened : Int32} {w_isCold : Int32} {w_code : Nat → Int32} {w_coded : Int32} {r_out : Int32} (h : f_X7_text  v_d v_found v_base v_at v_size v_fault v_opened v_isCold v_code v_coded p0 = some (w_d, w_found, w_base, w_at, w_size, w_fault, w_opened, w_isCold, w_code, w_coded, r_out)) : MetI l D (tysX cI cS) St0 yX7_text cX7_text 4 (some .int) 57 1239 [.ref (o 0), .int p0] (pcX7 o cI v_d v_kept v_images v_found v_aside v_base v_at v_size v_fault v_opened v_isCold v_names v_code v_coded v_pile v_horn v_brass v_coldAhead v_which v_whichMany v_bestPass v_bestLive v_bestCode v_traced v_traceMany v_who v_bitsOf v_sizeOf v_number v_lifted) r_out (pcX7 o cI w_d v_kept v_images w_found v_aside w_base w_at w_size w_fault w_opened w_isCold v_names w_code w_coded v_pile v_horn v_brass v_coldAhead v_which v_whichMany v_bestPass v_bestLive v_bestCode v_traced v_traceMany v_who v_bitsOf v_sizeOf v_number v_lifted) := by
  refine Ent.metI (by decide +kernel) (Nat.le_of_ble_eq_true rfl) ?_
  intro p e s m args below meth c A ls hx hb hr hml hown hts hlocks hA hK hSt hP hD hS hl
  have hown : s.vm.findClass RX7 = some m.cls := hown
  have S : XFix p m c cX7_text 4 s args RX7 := ⟨hx, hb, hml, hown, hts⟩
  have hl : lv_has ls 4 [(0, .ref (o 0)), (1, .int p0)] := hl
  unfold f_X7_text at h
  refine lv_iload_n hx hb dX7_text_0 rfl (lv_at hl 1 rfl) ?_
  refine lv_i2l (v := (p0.toInt64)) hx hb dX7_text_1 rfl ?_
  refine lv_lconst (v := 0) hx hb dX7_text_2 (by decide) ?_
  refine lv_lconst (v := 1) hx hb dX7_text_3 (by decide) ?_
  obtain ⟨r_1, hc4, h⟩ := bd1_s h
  refine x_statI (As := [.long (p0.toInt64), .long 0, .long 1]) (rest := []) St0_ok S (c_X7_in l D cI cS o hc4) ys_X7_in wd6_7 ⟨Nat.le_of_ble_eq_true rfl, Nat.le_of_ble_eq_true rfl⟩ hK hSt hA hP hD hS rfl hl.1 rfl (Nat.le_of_ble_eq_true rfl) dX7_text_4 (Nat.zero_le _) (Nat.zero_le _) (fun H locs hP hD hS => ?_)
  refine x_if_ne (tgt := 16) hx hb h dX7_text_7 (by decide) (fun c7 h => ?_) (fun c7 h => ?_)
  · refine lv_aload_n hx hb dX7_text_16 rfl (lv_at hl 0 rfl) ?_
    refine gt_X7_7 S hK hP 0 rfl rfl dX7_text_17 ?_
    refine lv_bipush (v := 8) hx hb dX7_text_20 (by decide) ?_
    refine x_ald hx hb hK hP 1 h rfl rfl dX7_text_22 (fun x_2 ex_2 h => ?_)
    refine lv_istore_n (lv' := [(2, .int x_2), (0, .ref (o 0)), (1, .int p0)]) hx hb dX7_text_23 rfl hl (by decide) rfl (fun ls hl => ?_)
    refine lv_aload_n hx hb dX7_text_24 rfl (lv_at hl 1 rfl) ?_
    refine gt_X7_7 S hK hP 0 rfl rfl dX7_text_25 ?_
    refine lv_bipush (v := 8) hx hb dX7_text_28 (by decide) ?_
    refine lv_iconst (v := 0) hx hb dX7_text_30 (by decide) ?_
    refine x_ast hx hb hK hP hD hS 1 h rfl rfl dX7_text_31 (fun v_d_3 ev_d_3 h H locs hP hD hS => ?_)
    have hP : va_P D vwCl (pcX7 o cI v_d_3 v_kept v_images v_found v_aside v_base v_at v_size v_fault v_opened v_isCold v_names v_code v_coded v_pile v_horn v_brass v_coldAhead v_which v_whichMany v_bestPass v_bestLive v_bestCode v_traced v_traceMany v_who v_bitsOf v_sizeOf v_number v_lifted) H := hP
    have hD : va_D A (pcX7 o cI v_d_3 v_kept v_images v_found v_aside v_base v_at v_size v_fault v_opened v_isCold v_names v_code v_coded v_pile v_horn v_brass v_coldAhead v_which v_whichMany v_bestPass v_bestLive v_bestCode v_traced v_traceMany v_who v_bitsOf v_sizeOf v_number v_lifted) := hD
    refine lv_aload_n hx hb dX7_text_32 rfl (lv_at hl 1 rfl) ?_
    refine lv_sipush (v := 198) hx hb dX7_text_33 (by decide) ?_
    refine lv_iload_n hx hb dX7_text_36 rfl (lv_at hl 0 rfl) ?_
    refine lv_iload_n hx hb dX7_text_37 rfl (lv_at hl 2 rfl) ?_
    obtain ⟨v_base_4, v_at_5, v_size_6, v_fault_7, v_opened_8, v_isCold_9, v_code_10, v_coded_11, hc38, h⟩ := bd8_s h
    refine x_selfVv (As := [.int 198, .int x_2, .int p0]) (rest := []) St0_ok S (c_X7_reads l D cI cS o hc38) yf_X7_reads wd20_9 ⟨Nat.le_of_ble_eq_true rfl, Nat.le_of_ble_eq_true rfl⟩ hK hSt hA hP hD hS 0 rfl rfl rfl hl.1 rfl (Nat.le_of_ble_eq_true rfl) dX7_text_38 (Nat.zero_le _) (Nat.zero_le _) (fun H locs hP hD hS => ?_)
    refine lv_aload_n hx hb dX7_text_41 rfl (lv_at hl 1 rfl) ?_
    refine gt_X7_64 S hK hP 0 rfl rfl dX7_text_42 ?_
    refine x_if_lt (tgt := 56) hx hb h dX7_text_45 (by decide) (fun c45 h => ?_) (fun c45 h => ?_)
    · refine lv_aload_n hx hb dX7_text_56 rfl (lv_at hl 1 rfl) ?_
      refine gt_X7_7 S hK hP 0 rfl rfl dX7_text_57 ?_
      refine lv_bipush (v := 76) hx hb dX7_text_60 (by decide) ?_
      refine lv_iload_n hx hb dX7_text_62 rfl (lv_at hl 2 rfl) ?_
      refine lv_iadd hx hb dX7_text_63 ?_
      refine lv_aload_n hx hb dX7_text_64 rfl (lv_at hl 1 rfl) ?_
      refine gt_X7_78 S hK hP 0 rfl rfl dX7_text_65 ?_
      refine x_ast hx hb hK hP hD hS 1 h rfl rfl dX7_text_68 (fun v_d_12 ev_d_12 h H locs hP hD hS => ?_)
      have hP : va_P D vwCl (pcX7 o cI v_d_12 v_kept v_images v_found v_aside v_base_4 v_at_5 v_size_6 v_fault_7 v_opened_8 v_isCold_9 v_names v_code_10 v_coded_11 v_pile v_horn v_brass v_coldAhead v_which v_whichMany v_bestPass v_bestLive v_bestCode v_traced v_traceMany v_who v_bitsOf v_sizeOf v_number v_lifted) H := hP
      have hD : va_D A (pcX7 o cI v_d_12 v_kept v_images v_found v_aside v_base_4 v_at_5 v_size_6 v_fault_7 v_opened_8 v_isCold_9 v_names v_code_10 v_coded_11 v_pile v_horn v_brass v_coldAhead v_which v_whichMany v_bestPass v_bestLive v_bestCode v_traced v_traceMany v_who v_bitsOf v_sizeOf v_number v_lifted) := hD
      refine lv_iconst (v := 0) hx hb dX7_text_69 (by decide) ?_
      refine lv_istore_n (lv' := [(3, .int 0), (2, .int x_2), (0, .ref (o 0)), (1, .int p0)]) hx hb dX7_text_70 rfl hl (by decide) rfl (fun ls hl => ?_)
      have wf_X7_text_L71 : ∀ (k_n : Nat) (v_d_13 : Nat → Int32) (l3_14 : Int32), f_X7_text_L71 v_found p0 v_base_4 v_at_5 v_size_6 v_fault_7 v_opened_8 v_isCold_9 v_code_10 v_coded_11 k_n v_d_13 l3_14 = some (w_d, w_found, w_base, w_at, w_size, w_fault, w_opened, w_isCold, w_code, w_coded, r_out) → ∀ (H : Heap) (locs : List Loc), va_P D vwCl (pcX7 o cI v_d_13 v_kept v_images v_found v_aside v_base_4 v_at_5 v_size_6 v_fault_7 v_opened_8 v_isCold_9 v_names v_code_10 v_coded_11 v_pile v_horn v_brass v_coldAhead v_which v_whichMany v_bestPass v_bestLive v_bestCode v_traced v_traceMany v_who v_bitsOf v_sizeOf v_number v_lifted) H → va_D A (pcX7 o cI v_d_13 v_kept v_images v_found v_aside v_base_4 v_at_5 v_size_6 v_fault_7 v_opened_8 v_isCold_9 v_names v_code_10 v_coded_11 v_pile v_horn v_brass v_coldAhead v_which v_whichMany v_bestPass v_bestLive v_bestCode v_traced v_traceMany v_who v_bitsOf v_sizeOf v_number v_lifted) → va_S A s.heap H locs → ∀ ls : Array Slot, lv_has ls 4 [(0, .ref (o 0)), (1, .int p0), (3, .int l3_14)] → WI p l e 57 1239 s m args below meth c D (tysX cI cS) A r_out (pcX7 o cI w_d v_kept v_images w_found v_aside w_base w_at w_size w_fault w_opened w_isCold v_names w_code w_coded v_pile v_horn v_brass v_coldAhead v_which v_whichMany v_bestPass v_bestLive v_bestCode v_traced v_traceMany v_who v_bitsOf v_sizeOf v_number v_lifted) H locs (F0 m 71 ls []) := by
          intro k_n
          induction k_n with
          | zero => intro v_d_13 l3_14 h; rw [f_X7_text_L71] at h; cases h
          | succ k_n ih =>
            intro v_d_13 l3_14 h H locs hP hD hS ls hl
            rw [f_X7_text_L71] at h
            refine lv_iload_n hx hb dX7_text_71 rfl (lv_at hl 2 rfl) ?_
            refine lv_aload_n hx hb dX7_text_72 rfl (lv_at hl 0 rfl) ?_
            refine gt_X7_78 S hK hP 0 rfl rfl dX7_text_73 ?_
            refine x_icmp_ge (tgt := 105) hx hb h dX7_text_76 (by decide) (fun c76 h => ?_) (fun c76 h => ?_)
            · refine lv_iconst (v := 1) hx hb dX7_text_105 (by decide) ?_
              cases h
              exact x_iret hx hb hr hlocks hK hP hD hS rfl rfl dX7_text_106
            · refine lv_aload_n hx hb dX7_text_79 rfl (lv_at hl 0 rfl) ?_
              refine gt_X7_7 S hK hP 0 rfl rfl dX7_text_80 ?_
              refine lv_bipush (v := 98) hx hb dX7_text_83 (by decide) ?_
              refine lv_bipush (v := 50) hx hb dX7_text_85 (by decide) ?_
              refine lv_iload_n hx hb dX7_text_87 rfl (lv_at hl 1 rfl) ?_
              refine lv_imul hx hb dX7_text_88 ?_
              refine lv_iadd hx hb dX7_text_89 ?_
              refine lv_iload_n hx hb dX7_text_90 rfl (lv_at hl 2 rfl) ?_
              refine lv_iadd hx hb dX7_text_91 ?_
              refine lv_aload_n hx hb dX7_text_92 rfl (lv_at hl 0 rfl) ?_
              refine gt_X7_25 S hK hP 0 rfl rfl dX7_text_93 ?_
              refine lv_iload_n hx hb dX7_text_96 rfl (lv_at hl 2 rfl) ?_
              refine x_ald hx hb hK hP 6 h rfl rfl dX7_text_97 (fun x_15 ex_15 h => ?_)
              refine x_ast hx hb hK hP hD hS 1 h rfl rfl dX7_text_98 (fun v_d_16 ev_d_16 h H locs hP hD hS => ?_)
              have hP : va_P D vwCl (pcX7 o cI v_d_16 v_kept v_images v_found v_aside v_base_4 v_at_5 v_size_6 v_fault_7 v_opened_8 v_isCold_9 v_names v_code_10 v_coded_11 v_pile v_horn v_brass v_coldAhead v_which v_whichMany v_bestPass v_bestLive v_bestCode v_traced v_traceMany v_who v_bitsOf v_sizeOf v_number v_lifted) H := hP
              have hD : va_D A (pcX7 o cI v_d_16 v_kept v_images v_found v_aside v_base_4 v_at_5 v_size_6 v_fault_7 v_opened_8 v_isCold_9 v_names v_code_10 v_coded_11 v_pile v_horn v_brass v_coldAhead v_which v_whichMany v_bestPass v_bestLive v_bestCode v_traced v_traceMany v_who v_bitsOf v_sizeOf v_number v_lifted) := hD
              obtain ⟨l3_17, el3_17, h⟩ := nmA_s h
              refine lv_iinc (v := l3_17) (lv' := [(3, .int l3_17), (0, .ref (o 0)), (1, .int p0)]) hx hb dX7_text_99 hl (k := 2) rfl (by rw [el3_17]; exact congrArg _ (by decide)) (by decide) rfl (fun ls hl => ?_)
              refine lv_goto (tgt := 71) hx hb dX7_text_102 (by decide) ?_
              exact ih v_d_16 l3_17 h _ _ hP hD hS _ (lv_sub hl [1, 2, 0] rfl)
      exact wf_X7_text_L71 300 v_d_12 0 h _ _ hP hD hS _ (lv_sub hl [2, 3, 0] rfl)
    · refine lv_bipush (v := (-10)) hx hb dX7_text_48 (by decide) ?_
      refine lv_aload_n hx hb dX7_text_50 rfl (lv_at hl 1 rfl) ?_
      refine gt_X7_64 S hK hP 0 rfl rfl dX7_text_51 ?_
      refine lv_isub hx hb dX7_text_54 ?_
      cases h
      exact x_iret hx hb hr hlocks hK hP hD hS rfl rfl dX7_text_55
  · refine lv_aload_n hx hb dX7_text_10 rfl (lv_at hl 0 rfl) ?_
    refine lv_iconst (v := 1) hx hb dX7_text_11 (by decide) ?_
    obtain ⟨v_found_18, r_19, hc12, h⟩ := bd2_s h
    refine x_selfVi (As := [.int 1]) (rest := []) St0_ok S (c_X7_finds l D cI cS o hc12) yf_X7_finds wd6_10 ⟨Nat.le_of_ble_eq_true rfl, Nat.le_of_ble_eq_true rfl⟩ hK hSt hA hP hD hS 0 rfl rfl rfl hl.1 rfl (Nat.le_of_ble_eq_true rfl) dX7_text_12 (Nat.zero_le _) (Nat.zero_le _) (fun H locs hP hD hS => ?_)
    cases h
    exact x_iret hx hb hr hlocks hK hP hD hS rfl rfl dX7_text_15

