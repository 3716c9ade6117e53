def f_X7_lay  (v_fault : Int32) (v_code : Nat → Int32) (v_coded : Int32) (p0 : Int32) : Option ((Nat → Int32) × (Int32)) :=
  (if 0 ≤ v_fault then some (v_code, v_coded) else wrA 60 v_code v_coded p0 (fun v_code_1 => nmA (v_coded + 1) (fun v_coded_2 => some (v_code_1, v_coded_2))))
set_option maxHeartbeats 600000 in
set_option maxRecDepth 100000 in
theorem c_X7_lay (l : Launch) (D : va_G) (cI cS : ClassId) (o : Nat → Nat) {v_d : Nat → Int32} {v_kept : Nat → Int32} {v_images : Int32} {v_found : Nat → Int32} {v_aside : Nat → Int32} {v_base : Int32} {v_at : Int32} {v_size : Int32} {v_fault : Int32} {v_opened : Int32} {v_isCold : Int32} {v_names : Nat → Int32} {v_code : Nat → Int32} {v_coded : Int32} {v_pile : Nat → Int32} {v_horn : Int32} {v_brass : Int32} {v_coldAhead : Nat → Int32} {v_which : Nat → Int32} {v_whichMany : Int32} {v_bestPass : Int32} {v_bestLive : Int32} {v_bestCode : Int32} {v_traced : Nat → Int32} {v_traceMany : Int32} {v_who : Int32} {v_bitsOf : Nat → Int32} {v_sizeOf : Nat → Int32} {v_number : Nat → Int32} {v_lifted : Nat → Int32} {p0 : Int32} {w_code : Nat → Int32} {w_coded : Int32} (h : f_X7_lay  v_fault v_code v_coded p0 = some (w_code, w_coded)) : MetV l D (tysX cI cS) St0 yX7_lay cX7_lay 2 none 0 0 [.ref (o 0), .int p0] (pcX7 o cI v_d v_kept v_images v_found v_aside v_base v_at v_size v_fault v_opened v_isCold v_names v_code v_coded v_pile v_horn v_brass v_coldAhead v_which v_whichMany v_bestPass v_bestLive v_bestCode v_traced v_traceMany v_who v_bitsOf v_sizeOf v_number v_lifted) (pcX7 o cI v_d v_kept v_images v_found v_aside v_base v_at v_size v_fault v_opened v_isCold v_names w_code w_coded v_pile v_horn v_brass v_coldAhead v_which v_whichMany v_bestPass v_bestLive v_bestCode v_traced v_traceMany v_who v_bitsOf v_sizeOf v_number v_lifted) := by
  refine Ent.metV (by decide +kernel) (Nat.le_of_ble_eq_true rfl) ?_
  intro p e s m args below meth c A ls hx hb hr hml hown hts hlocks hA hK hSt hP hD hS hl
  have hown : s.vm.findClass RX7 = some m.cls := hown
  have S : XFix p m c cX7_lay 2 s args RX7 := ⟨hx, hb, hml, hown, hts⟩
  have hl : lv_has ls 2 [(0, .ref (o 0)), (1, .int p0)] := hl
  unfold f_X7_lay at h
  refine lv_aload_n hx hb dX7_lay_0 rfl (lv_at hl 0 rfl) ?_
  refine gt_X7_64 S hK hP 0 rfl rfl dX7_lay_1 ?_
  refine x_if_ge (tgt := 27) hx hb h dX7_lay_4 (by decide) (fun c4 h => ?_) (fun c4 h => ?_)
  · cases h
    exact x_vret hx hb hr hlocks hK hP hD hS rfl dX7_lay_27
  · refine lv_aload_n hx hb dX7_lay_7 rfl (lv_at hl 0 rfl) ?_
    refine gt_X7_25 S hK hP 0 rfl rfl dX7_lay_8 ?_
    refine lv_aload_n hx hb dX7_lay_11 rfl (lv_at hl 0 rfl) ?_
    refine gt_X7_78 S hK hP 0 rfl rfl dX7_lay_12 ?_
    refine lv_iload_n hx hb dX7_lay_15 rfl (lv_at hl 1 rfl) ?_
    refine x_ast hx hb hK hP hD hS 6 h rfl rfl dX7_lay_16 (fun v_code_1 ev_code_1 h H locs hP hD hS => ?_)
    have hP : va_P D vwCl (pcX7 o cI v_d v_kept v_images v_found v_aside v_base v_at v_size v_fault v_opened v_isCold v_names v_code_1 v_coded v_pile v_horn v_brass v_coldAhead v_which v_whichMany v_bestPass v_bestLive v_bestCode v_traced v_traceMany v_who v_bitsOf v_sizeOf v_number v_lifted) H := hP
    have hD : va_D A (pcX7 o cI v_d v_kept v_images v_found v_aside v_base v_at v_size v_fault v_opened v_isCold v_names v_code_1 v_coded v_pile v_horn v_brass v_coldAhead v_which v_whichMany v_bestPass v_bestLive v_bestCode v_traced v_traceMany v_who v_bitsOf v_sizeOf v_number v_lifted) := hD
    refine lv_aload_n hx hb dX7_lay_17 rfl (lv_at hl 0 rfl) ?_
    refine lv_dup hx hb dX7_lay_18 rfl ?_
    refine gt_X7_78 S hK hP 0 rfl rfl dX7_lay_19 ?_
    refine lv_iconst (v := 1) hx hb dX7_lay_22 (by decide) ?_
    refine lv_iadd hx hb dX7_lay_23 ?_
    refine x_nm h (fun v_coded_2 ev_coded_2 h => ?_)
    refine pt_X7_78 S hK hP hD hS 0 rfl (Nat.le_of_ble_eq_true rfl) dX7_lay_24 (fun H locs hP hD hS => ?_)
    have hP : va_P D vwCl (pcX7 o cI v_d v_kept v_images v_found v_aside v_base v_at v_size v_fault v_opened v_isCold v_names v_code_1 v_coded_2 v_pile v_horn v_brass v_coldAhead v_which v_whichMany v_bestPass v_bestLive v_bestCode v_traced v_traceMany v_who v_bitsOf v_sizeOf v_number v_lifted) H := hP
    have hD : va_D A (pcX7 o cI v_d v_kept v_images v_found v_aside v_base v_at v_size v_fault v_opened v_isCold v_names v_code_1 v_coded_2 v_pile v_horn v_brass v_coldAhead v_which v_whichMany v_bestPass v_bestLive v_bestCode v_traced v_traceMany v_who v_bitsOf v_sizeOf v_number v_lifted) := hD
    cases h
    exact x_vret hx hb hr hlocks hK hP hD hS rfl dX7_lay_27

def f_X7_done   (p0 : Int32) (p1 : Int32) (p2 : Int32) : Option ((Int32)) :=
  (if p0 = 38 then (if p1 = 0 then some (0) else (if p2 = 0 then some (0) else some (1))) else (if p0 = 42 then some ((p1 * p2)) else (if p0 = 43 then some ((p1 + p2)) else (if p0 = 45 then some ((p1 - p2)) else (if p0 = 47 then (if p2 = 0 then some (0) else nzA p2 (some ((p1 / p2)))) else (if p0 = 60 then (if p2 ≤ p1 then some (0) else some (1)) else (if p0 = 61 then (if p1 = p2 then some (1) else some (0)) else (if p0 = 62 then (if p1 ≤ p2 then some (0) else some (1)) else (if p0 = 124 then (if p1 = 0 then (if p2 = 0 then some (0) else some (1)) else some (1)) else (if p2 = 0 then some (0) else nzA p2 (some ((rmI p1 p2)))))))))))))
set_option maxHeartbeats 600000 in
set_option maxRecDepth 100000 in
theorem c_X7_done (l : Launch) (D : va_G) (cI cS : ClassId) (o : Nat → Nat)  {p0 : Int32} {p1 : Int32} {p2 : Int32}  {r_out : Int32} (h : f_X7_done   p0 p1 p2 = some (r_out)) : MetI l D (tysX cI cS) St0 yX7_done cX7_done 3 (some .int) 0 0 [.int p0, .int p1, .int p2] [] r_out [] := by
  refine Ent.metI (by decide +kernel) (Nat.le_of_ble_eq_true rfl) ?_
  intro p e s m args below meth c A ls hx hb hr hml hown hts hlocks hA hK hSt hP hD hS hl
  have hown : s.vm.findClass RX7 = some m.cls := hown
  have S : XFix p m c cX7_done 3 s args RX7 := ⟨hx, hb, hml, hown, hts⟩
  have hl : lv_has ls 3 [(0, .int p0), (1, .int p1), (2, .int p2)] := hl
  unfold f_X7_done at h
  refine lv_iload_n hx hb dX7_done_0 rfl (lv_at hl 0 rfl) ?_
  by_cases c1_0 : p0 = 38
  · replace h := ite_t c1_0 h
    refine lv_lookup (off := 97) (tgt := 98) hx hb dX7_done_1 (by decide +kernel) (by rw [c1_0]; decide +kernel) (by decide) ?_
    refine lv_iload_n hx hb dX7_done_98 rfl (lv_at hl 1 rfl) ?_
    refine x_if_eq (tgt := 110) hx hb h dX7_done_99 (by decide) (fun c99 h => ?_) (fun c99 h => ?_)
    · refine lv_iconst (v := 0) hx hb dX7_done_110 (by decide) ?_
      cases h
      exact x_iret hx hb hr hlocks hK hP hD hS rfl rfl dX7_done_111
    · refine lv_iload_n hx hb dX7_done_102 rfl (lv_at hl 2 rfl) ?_
      refine x_if_eq (tgt := 110) hx hb h dX7_done_103 (by decide) (fun c103 h => ?_) (fun c103 h => ?_)
      · refine lv_iconst (v := 0) hx hb dX7_done_110 (by decide) ?_
        cases h
        exact x_iret hx hb hr hlocks hK hP hD hS rfl rfl dX7_done_111
      · refine lv_iconst (v := 1) hx hb dX7_done_106 (by decide) ?_
        refine lv_goto (tgt := 111) hx hb dX7_done_107 (by decide) ?_
        cases h
        exact x_iret hx hb hr hlocks hK hP hD hS rfl rfl dX7_done_111
  replace h := ite_f c1_0 h
  by_cases c1_1 : p0 = 42
  · replace h := ite_t c1_1 h
    refine lv_lookup (off := 152) (tgt := 153) hx hb dX7_done_1 (by decide +kernel) (by rw [c1_1]; decide +kernel) (by decide) ?_
    refine lv_iload_n hx hb dX7_done_153 rfl (lv_at hl 1 rfl) ?_
    refine lv_iload_n hx hb dX7_done_154 rfl (lv_at hl 2 rfl) ?_
    refine lv_imul hx hb dX7_done_155 ?_
    cases h
    exact x_iret hx hb hr hlocks hK hP hD hS rfl rfl dX7_done_156
  replace h := ite_f c1_1 h
  by_cases c1_2 : p0 = 43
  · replace h := ite_t c1_2 h
    refine lv_lookup (off := 144) (tgt := 145) hx hb dX7_done_1 (by decide +kernel) (by rw [c1_2]; decide +kernel) (by decide) ?_
    refine lv_iload_n hx hb dX7_done_145 rfl (lv_at hl 1 rfl) ?_
    refine lv_iload_n hx hb dX7_done_146 rfl (lv_at hl 2 rfl) ?_
    refine lv_iadd hx hb dX7_done_147 ?_
    cases h
    exact x_iret hx hb hr hlocks hK hP hD hS rfl rfl dX7_done_148
  replace h := ite_f c1_2 h
  by_cases c1_3 : p0 = 45
  · replace h := ite_t c1_3 h
    refine lv_lookup (off := 148) (tgt := 149) hx hb dX7_done_1 (by decide +kernel) (by rw [c1_3]; decide +kernel) (by decide) ?_
    refine lv_iload_n hx hb dX7_done_149 rfl (lv_at hl 1 rfl) ?_
    refine lv_iload_n hx hb dX7_done_150 rfl (lv_at hl 2 rfl) ?_
    refine lv_isub hx hb dX7_done_151 ?_
    cases h
    exact x_iret hx hb hr hlocks hK hP hD hS rfl rfl dX7_done_152
  replace h := ite_f c1_3 h
  by_cases c1_4 : p0 = 47
  · replace h := ite_t c1_4 h
    refine lv_lookup (off := 156) (tgt := 157) hx hb dX7_done_1 (by decide +kernel) (by rw [c1_4]; decide +kernel) (by decide) ?_
    refine lv_iload_n hx hb dX7_done_157 rfl (lv_at hl 2 rfl) ?_
    refine x_if_ne (tgt := 165) hx hb h dX7_done_158 (by decide) (fun c158 h => ?_) (fun c158 h => ?_)
    · refine lv_iload_n hx hb dX7_done_165 rfl (lv_at hl 1 rfl) ?_
      refine lv_iload_n hx hb dX7_done_166 rfl (lv_at hl 2 rfl) ?_
      refine x_idiv hx hb h dX7_done_167 (fun h => ?_)
      cases h
      exact x_iret hx hb hr hlocks hK hP hD hS rfl rfl dX7_done_168
    · refine lv_iconst (v := 0) hx hb dX7_done_161 (by decide) ?_
      refine lv_goto (tgt := 168) hx hb dX7_done_162 (by decide) ?_
      cases h
      exact x_iret hx hb hr hlocks hK hP hD hS rfl rfl dX7_done_168
  replace h := ite_f c1_4 h
  by_cases c1_5 : p0 = 60
  · replace h := ite_t c1_5 h
    refine lv_lookup (off := 111) (tgt := 112) hx hb dX7_done_1 (by decide +kernel) (by rw [c1_5]; decide +kernel) (by decide) ?_
    refine lv_iload_n hx hb dX7_done_112 rfl (lv_at hl 1 rfl) ?_
    refine lv_iload_n hx hb dX7_done_113 rfl (lv_at hl 2 rfl) ?_
    refine x_icmp_ge (tgt := 121) hx hb h dX7_done_114 (by decide) (fun c114 h => ?_) (fun c114 h => ?_)
    · refine lv_iconst (v := 0) hx hb dX7_done_121 (by decide) ?_
      cases h
      exact x_iret hx hb hr hlocks hK hP hD hS rfl rfl dX7_done_122
    · refine lv_iconst (v := 1) hx hb dX7_done_117 (by decide) ?_
      refine lv_goto (tgt := 122) hx hb dX7_done_118 (by decide) ?_
      cases h
      exact x_iret hx hb hr hlocks hK hP hD hS rfl rfl dX7_done_122
  replace h := ite_f c1_5 h
  by_cases c1_6 : p0 = 61
  · replace h := ite_t c1_6 h
    refine lv_lookup (off := 122) (tgt := 123) hx hb dX7_done_1 (by decide +kernel) (by rw [c1_6]; decide +kernel) (by decide) ?_
    refine lv_iload_n hx hb dX7_done_123 rfl (lv_at hl 1 rfl) ?_
    refine lv_iload_n hx hb dX7_done_124 rfl (lv_at hl 2 rfl) ?_
    refine x_icmp_ne (tgt := 132) hx hb h dX7_done_125 (by decide) (fun c125 h => ?_) (fun c125 h => ?_)
    · refine lv_iconst (v := 0) hx hb dX7_done_132 (by decide) ?_
      cases h
      exact x_iret hx hb hr hlocks hK hP hD hS rfl rfl dX7_done_133
    · refine lv_iconst (v := 1) hx hb dX7_done_128 (by decide) ?_
      refine lv_goto (tgt := 133) hx hb dX7_done_129 (by decide) ?_
      cases h
      exact x_iret hx hb hr hlocks hK hP hD hS rfl rfl dX7_done_133
  replace h := ite_f c1_6 h
  by_cases c1_7 : p0 = 62
  · replace h := ite_t c1_7 h
    refine lv_lookup (off := 133) (tgt := 134) hx hb dX7_done_1 (by decide +kernel) (by rw [c1_7]; decide +kernel) (by decide) ?_
    refine lv_iload_n hx hb dX7_done_134 rfl (lv_at hl 1 rfl) ?_
    refine lv_iload_n hx hb dX7_done_135 rfl (lv_at hl 2 rfl) ?_
    refine x_icmp_le (tgt := 143) hx hb h dX7_done_136 (by decide) (fun c136 h => ?_) (fun c136 h => ?_)
    · refine lv_iconst (v := 0) hx hb dX7_done_143 (by decide) ?_
      cases h
      exact x_iret hx hb hr hlocks hK hP hD hS rfl rfl dX7_done_144
    · refine lv_iconst (v := 1) hx hb dX7_done_139 (by decide) ?_
      refine lv_goto (tgt := 144) hx hb dX7_done_140 (by decide) ?_
      cases h
      exact x_iret hx hb hr hlocks hK hP hD hS rfl rfl dX7_done_144
  replace h := ite_f c1_7 h
  by_cases c1_8 : p0 = 124
  · replace h := ite_t c1_8 h
    refine lv_lookup (off := 83) (tgt := 84) hx hb dX7_done_1 (by decide +kernel) (by rw [c1_8]; decide +kernel) (by decide) ?_
    refine lv_iload_n hx hb dX7_done_84 rfl (lv_at hl 1 rfl) ?_
    refine x_if_ne (tgt := 92) hx hb h dX7_done_85 (by decide) (fun c85 h => ?_) (fun c85 h => ?_)
    · refine lv_iconst (v := 1) hx hb dX7_done_92 (by decide) ?_
      refine lv_goto (tgt := 97) hx hb dX7_done_93 (by decide) ?_
      cases h
      exact x_iret hx hb hr hlocks hK hP hD hS rfl rfl dX7_done_97
    · refine lv_iload_n hx hb dX7_done_88 rfl (lv_at hl 2 rfl) ?_
      refine x_if_eq (tgt := 96) hx hb h dX7_done_89 (by decide) (fun c89 h => ?_) (fun c89 h => ?_)
      · refine lv_iconst (v := 0) hx hb dX7_done_96 (by decide) ?_
        cases h
        exact x_iret hx hb hr hlocks hK hP hD hS rfl rfl dX7_done_97
      · refine lv_iconst (v := 1) hx hb dX7_done_92 (by decide) ?_
        refine lv_goto (tgt := 97) hx hb dX7_done_93 (by decide) ?_
        cases h
        exact x_iret hx hb hr hlocks hK hP hD hS rfl rfl dX7_done_97
  replace h := ite_f c1_8 h
  refine lv_lookup (off := 168) (tgt := 169) hx hb dX7_done_1 (by decide +kernel) (by show Op.lookupswitch.offset [(38, 97), (42, 152), (43, 144), (45, 148), (47, 156), (60, 111), (61, 122), (62, 133), (124, 83)] 168 (p0).toInt = 168; rw [lv_osw c1_0 (by decide), lv_osw c1_1 (by decide), lv_osw c1_2 (by decide), lv_osw c1_3 (by decide), lv_osw c1_4 (by decide), lv_osw c1_5 (by decide), lv_osw c1_6 (by decide), lv_osw c1_7 (by decide), lv_osw c1_8 (by decide)]; rfl) (by decide) ?_
  refine lv_iload_n hx hb dX7_done_169 rfl (lv_at hl 2 rfl) ?_
  refine x_if_ne (tgt := 177) hx hb h dX7_done_170 (by decide) (fun c170 h => ?_) (fun c170 h => ?_)
  · refine lv_iload_n hx hb dX7_done_177 rfl (lv_at hl 1 rfl) ?_
    refine lv_iload_n hx hb dX7_done_178 rfl (lv_at hl 2 rfl) ?_
    refine x_irem hx hb h dX7_done_179 (fun h => ?_)
    cases h
    exact x_iret hx hb hr hlocks hK hP hD hS rfl rfl dX7_done_180
  · refine lv_iconst (v := 0) hx hb dX7_done_173 (by decide) ?_
    refine lv_goto (tgt := 180) hx hb dX7_done_174 (by decide) ?_
    cases h
    exact x_iret hx hb hr hlocks hK hP hD hS rfl rfl dX7_done_180

def f_X7_worked_L5 (v_d : Nat → Int32) (v_names : Nat → Int32) (p0 : Int32) (p1 : Int32) : Nat → (Nat → Int32) → Int32 → Int32 → Option ((Nat → Int32) × (Int32))
  | 0, _, _, _ => none
  | k_n + 1, v_pile_1, l3_2, l4_3 => (if (p0 + p1) ≤ l4_3 then rdA 60 v_pile_1 0 (fun x_4 => some (v_pile_1, x_4)) else rdA 248 v_d l4_3 (fun x_5 => jnA (fun (v_pile_6 : Nat → Int32) (l3_7 : Int32) => nmA (l4_3 + 1) (fun l4_8 => f_X7_worked_L5 v_d v_names p0 p1 k_n v_pile_6 l3_7 l4_8)) (fun J135 => (if 20000 ≤ x_5 then (if x_5 = 20033 then rdA 60 v_pile_1 (l3_2 - 1) (fun x_14 => jnA (fun (t0_15 : Int32) => wrA 60 v_pile_1 (l3_2 - 1) t0_15 (fun v_pile_16 => J135 v_pile_16 l3_2)) (fun J97 => (if x_14 = 0 then J97 1 else J97 0))) else nmA (l3_2 + (-1)) (fun l3_9 => rdA 60 v_pile_1 (l3_9 - 1) (fun x_10 => rdA 60 v_pile_1 l3_9 (fun x_11 => bd1 (f_X7_done (x_5 - 20000) x_10 x_11) (fun r_12 => wrA 60 v_pile_1 (l3_9 - 1) r_12 (fun v_pile_13 => J135 v_pile_13 l3_9)))))) else jnA (fun (t0_17 : Int32) => wrA 60 v_pile_1 l3_2 t0_17 (fun v_pile_18 => nmA (l3_2 + 1) (fun l3_19 => J135 v_pile_18 l3_19))) (fun J59 => (if 10000 ≤ x_5 then rdA 3 v_names (x_5 - 10000) (fun x_20 => J59 x_20) else J59 x_5))))))
def f_X7_worked  (v_d : Nat → Int32) (v_names : Nat → Int32) (v_pile : Nat → Int32) (p0 : Int32) (p1 : Int32) : Option ((Nat → Int32) × (Int32)) :=
  f_X7_worked_L5 v_d v_names p0 p1 300 v_pile 0 p0
set_option maxHeartbeats 600000 in
set_option maxRecDepth 100000 in
theorem c_X7_worked (l : Launch) (D : va_G) (cI cS : ClassId) (o : Nat → Nat) {v_d : Nat → Int32} {v_kept : Nat → Int32} {v_images : Int32} {v_found : Nat → Int32} {v_aside : Nat → Int32} {v_base : Int32} {v_at : Int32} {v_size : Int32} {v_fault : Int32} {v_opened : Int32} {v_isCold : Int32} {v_names : Nat → Int32} {v_code : Nat → Int32} {v_coded : Int32} {v_pile : Nat → Int32} {v_horn : Int32} {v_brass : Int32} {v_coldAhead : Nat → Int32} {v_which : Nat → Int32} {v_whichMany : Int32} {v_bestPass : Int32} {v_bestLive : Int32} {v_bestCode : Int32} {v_traced : Nat → Int32} {v_traceMany : Int32} {v_who : Int32} {v_bitsOf : Nat → Int32} {v_sizeOf : Nat → Int32} {v_number : Nat → Int32} {v_lifted : Nat → Int32} {p0 : Int32} {p1 : Int32} {w_pile : Nat → Int32} {r_out : Int32} (h : f_X7_worked  v_d v_names v_pile p0 p1 = some (w_pile, r_out)) : MetI l D (tysX cI cS) St0 yX7_worked cX7_worked 6 (some .int) 1 22 [.ref (o 0), .int p0, .int p1] (pcX7 o cI v_d v_kept v_images v_found v_aside v_base v_at v_size v_fault v_opened v_isCold v_names v_code v_coded v_pile v_horn v_brass v_coldAhead v_which v_whichMany v_bestPass v_bestLive v_bestCode v_traced v_traceMany v_who v_bitsOf v_sizeOf v_number v_lifted) r_out (pcX7 o cI v_d v_kept v_images v_found v_aside v_base v_at v_size v_fault v_opened v_isCold v_names v_code v_coded w_pile v_horn v_brass v_coldAhead v_which v_whichMany v_bestPass v_bestLive v_bestCode v_traced v_traceMany v_who v_bitsOf v_sizeOf v_number v_lifted) := by
  refine Ent.metI (by decide +kernel) (Nat.le_of_ble_eq_true rfl) ?_
  intro p e s m args below meth c A ls hx hb hr hml hown hts hlocks hA hK hSt hP hD hS hl
  have hown : s.vm.findClass RX7 = some m.cls := hown
  have S : XFix p m c cX7_worked 6 s args RX7 := ⟨hx, hb, hml, hown, hts⟩
  have hl : lv_has ls 6 [(0, .ref (o 0)), (1, .int p0), (2, .int p1)] := hl
  unfold f_X7_worked at h
  refine lv_iconst (v := 0) hx hb dX7_worked_0 (by decide) ?_
  refine lv_istore_n (lv' := [(3, .int 0), (0, .ref (o 0)), (1, .int p0), (2, .int p1)]) hx hb dX7_worked_1 rfl hl (by decide) rfl (fun ls hl => ?_)
  refine lv_iload_n hx hb dX7_worked_2 rfl (lv_at hl 2 rfl) ?_
  refine lv_istore (lv' := [(4, .int p0), (3, .int 0), (0, .ref (o 0)), (1, .int p0), (2, .int p1)]) hx hb dX7_worked_3 hl (by decide) rfl (fun ls hl => ?_)
  have wf_X7_worked_L5 : ∀ (k_n : Nat) (v_pile_1 : Nat → Int32) (l3_2 : Int32) (l4_3 : Int32), f_X7_worked_L5 v_d v_names p0 p1 k_n v_pile_1 l3_2 l4_3 = some (w_pile, r_out) → ∀ (H : Heap) (locs : List Loc), va_P D vwCl (pcX7 o cI v_d v_kept v_images v_found v_aside v_base v_at v_size v_fault v_opened v_isCold v_names v_code v_coded v_pile_1 v_horn v_brass v_coldAhead v_which v_whichMany v_bestPass v_bestLive v_bestCode v_traced v_traceMany v_who v_bitsOf v_sizeOf v_number v_lifted) H → va_D A (pcX7 o cI v_d v_kept v_images v_found v_aside v_base v_at v_size v_fault v_opened v_isCold v_names v_code v_coded v_pile_1 v_horn v_brass v_coldAhead v_which v_whichMany v_bestPass v_bestLive v_bestCode v_traced v_traceMany v_who v_bitsOf v_sizeOf v_number v_lifted) → va_S A s.heap H locs → ∀ ls : Array Slot, lv_has ls 6 [(0, .ref (o 0)), (1, .int p0), (2, .int p1), (3, .int l3_2), (4, .int l4_3)] → WI p l e 1 22 s m args below meth c D (tysX cI cS) A r_out (pcX7 o cI v_d v_kept v_images v_found v_aside v_base v_at v_size v_fault v_opened v_isCold v_names v_code v_coded w_pile v_horn v_brass v_coldAhead v_which v_whichMany v_bestPass v_bestLive v_bestCode v_traced v_traceMany v_who v_bitsOf v_sizeOf v_number v_lifted) H locs (F0 m 5 ls []) := by
      intro k_n
      induction k_n with
      | zero => intro v_pile_1 l3_2 l4_3 h; rw [f_X7_worked_L5] at h; cases h
      | succ k_n ih =>
        intro v_pile_1 l3_2 l4_3 h H locs hP hD hS ls hl
        rw [f_X7_worked_L5] at h
        refine lv_iload hx hb dX7_worked_5 (lv_at hl 4 rfl) ?_
        refine lv_iload_n hx hb dX7_worked_7 rfl (lv_at hl 1 rfl) ?_
        refine lv_iload_n hx hb dX7_worked_8 rfl (lv_at hl 2 rfl) ?_
        refine lv_iadd hx hb dX7_worked_9 ?_
        refine x_icmp_ge (tgt := 141) hx hb h dX7_worked_10 (by decide) (fun c10 h => ?_) (fun c10 h => ?_)
        · refine lv_aload_n hx hb dX7_worked_141 rfl (lv_at hl 0 rfl) ?_
          refine gt_X7_28 S hK hP 0 rfl rfl dX7_worked_142 ?_
          refine lv_iconst (v := 0) hx hb dX7_worked_145 (by decide) ?_
          refine x_ald hx hb hK hP 7 h rfl rfl dX7_worked_146 (fun x_4 ex_4 h => ?_)
          cases h
          exact x_iret hx hb hr hlocks hK hP hD hS rfl rfl dX7_worked_147
        · refine lv_aload_n hx hb dX7_worked_13 rfl (lv_at hl 0 rfl) ?_
          refine gt_X7_7 S hK hP 0 rfl rfl dX7_worked_14 ?_
          refine lv_iload hx hb dX7_worked_17 (lv_at hl 4 rfl) ?_
          refine x_ald hx hb hK hP 1 h rfl rfl dX7_worked_19 (fun x_5 ex_5 h => ?_)
          refine lv_istore (lv' := [(5, .int x_5), (0, .ref (o 0)), (1, .int p0), (2, .int p1), (3, .int l3_2), (4, .int l4_3)]) hx hb dX7_worked_20 hl (by decide) rfl (fun ls hl => ?_)
          refine lv_iload hx hb dX7_worked_22 (lv_at hl 0 rfl) ?_
          refine lv_sipush (v := 20000) hx hb dX7_worked_24 (by decide) ?_
          obtain ⟨J135, eJ135, h⟩ := jnA_s h
          have wJ135 : ∀ (v_pile_6 : Nat → Int32) (l3_7 : Int32), J135 v_pile_6 l3_7 = some (w_pile, r_out) → ∀ (H : Heap) (locs : List Loc), va_P D vwCl (pcX7 o cI v_d v_kept v_images v_found v_aside v_base v_at v_size v_fault v_opened v_isCold v_names v_code v_coded v_pile_6 v_horn v_brass v_coldAhead v_which v_whichMany v_bestPass v_bestLive v_bestCode v_traced v_traceMany v_who v_bitsOf v_sizeOf v_number v_lifted) H → va_D A (pcX7 o cI v_d v_kept v_images v_found v_aside v_base v_at v_size v_fault v_opened v_isCold v_names v_code v_coded v_pile_6 v_horn v_brass v_coldAhead v_which v_whichMany v_bestPass v_bestLive v_bestCode v_traced v_traceMany v_who v_bitsOf v_sizeOf v_number v_lifted) → va_S A s.heap H locs → ∀ ls : Array Slot, lv_has ls 6 [(0, .ref (o 0)), (1, .int p0), (2, .int p1), (3, .int l3_7), (4, .int l4_3)] → WI p l e 1 22 s m args below meth c D (tysX cI cS) A r_out (pcX7 o cI v_d v_kept v_images v_found v_aside v_base v_at v_size v_fault v_opened v_isCold v_names v_code v_coded w_pile v_horn v_brass v_coldAhead v_which v_whichMany v_bestPass v_bestLive v_bestCode v_traced v_traceMany v_who v_bitsOf v_sizeOf v_number v_lifted) H locs (F0 m 135 ls []) := by
              intro v_pile_6 l3_7 h H locs hP hD hS ls hl
              subst eJ135
              dsimp only at h
              obtain ⟨l4_8, el4_8, h⟩ := nmA_s h
              refine lv_iinc (v := l4_8) (lv' := [(4, .int l4_8), (0, .ref (o 0)), (1, .int p0), (2, .int p1), (3, .int l3_7)]) hx hb dX7_worked_135 hl (k := 4) rfl (by rw [el4_8]; exact congrArg _ (by decide)) (by decide) rfl (fun ls hl => ?_)
              refine lv_goto (tgt := 5) hx hb dX7_worked_138 (by decide) ?_
              exact ih v_pile_6 l3_7 l4_8 h _ _ hP hD hS _ (lv_sub hl [1, 2, 3, 4, 0] rfl)
          refine x_icmp_ge (tgt := 66) hx hb h dX7_worked_27 (by decide) (fun c27 h => ?_) (fun c27 h => ?_)
          · refine lv_iload hx hb dX7_worked_66 (lv_at hl 0 rfl) ?_
            refine lv_sipush (v := 20033) hx hb dX7_worked_68 (by decide) ?_
            refine x_icmp_ne (tgt := 101) hx hb h dX7_worked_71 (by decide) (fun c71 h => ?_) (fun c71 h => ?_)
            · obtain ⟨l3_9, el3_9, h⟩ := nmA_s h
              refine lv_iinc (v := l3_9) (lv' := [(3, .int l3_9), (5, .int x_5), (0, .ref (o 0)), (1, .int p0), (2, .int p1), (4, .int l4_3)]) hx hb dX7_worked_101 hl (k := 4) rfl (by rw [el3_9]; exact congrArg _ (by decide)) (by decide) rfl (fun ls hl => ?_)
              refine lv_aload_n hx hb dX7_worked_104 rfl (lv_at hl 2 rfl) ?_
              refine gt_X7_28 S hK hP 0 rfl rfl dX7_worked_105 ?_
              refine lv_iload_n hx hb dX7_worked_108 rfl (lv_at hl 0 rfl) ?_
              refine lv_iconst (v := 1) hx hb dX7_worked_109 (by decide) ?_
              refine lv_isub hx hb dX7_worked_110 ?_
              refine lv_iload hx hb dX7_worked_111 (lv_at hl 1 rfl) ?_
              refine lv_sipush (v := 20000) hx hb dX7_worked_113 (by decide) ?_
              refine lv_isub hx hb dX7_worked_116 ?_
              refine lv_aload_n hx hb dX7_worked_117 rfl (lv_at hl 2 rfl) ?_
              refine gt_X7_28 S hK hP 0 rfl rfl dX7_worked_118 ?_
              refine lv_iload_n hx hb dX7_worked_121 rfl (lv_at hl 0 rfl) ?_
              refine lv_iconst (v := 1) hx hb dX7_worked_122 (by decide) ?_
              refine lv_isub hx hb dX7_worked_123 ?_
              refine x_ald hx hb hK hP 7 h rfl rfl dX7_worked_124 (fun x_10 ex_10 h => ?_)
              refine lv_aload_n hx hb dX7_worked_125 rfl (lv_at hl 2 rfl) ?_
              refine gt_X7_28 S hK hP 0 rfl rfl dX7_worked_126 ?_
              refine lv_iload_n hx hb dX7_worked_129 rfl (lv_at hl 0 rfl) ?_
              refine x_ald hx hb hK hP 7 h rfl rfl dX7_worked_130 (fun x_11 ex_11 h => ?_)
              obtain ⟨r_12, hc131, h⟩ := bd1_s h
              refine x_statI (As := [.int (x_5 - 20000), .int x_10, .int x_11]) (rest := [.int (l3_9 - 1), .ref (o 7)]) St0_ok S (c_X7_done l D cI cS o hc131) ys_X7_done wd12_3 ⟨Nat.le_of_ble_eq_true rfl, Nat.le_of_ble_eq_true rfl⟩ hK hSt hA hP hD hS rfl hl.1 rfl (Nat.le_of_ble_eq_true rfl) dX7_worked_131 (Nat.zero_le _) (Nat.zero_le _) (fun H locs hP hD hS => ?_)
              refine x_ast hx hb hK hP hD hS 7 h rfl rfl dX7_worked_134 (fun v_pile_13 ev_pile_13 h H locs hP hD hS => ?_)
              have hP : va_P D vwCl (pcX7 o cI v_d v_kept v_images v_found v_aside v_base v_at v_size v_fault v_opened v_isCold v_names v_code v_coded v_pile_13 v_horn v_brass v_coldAhead v_which v_whichMany v_bestPass v_bestLive v_bestCode v_traced v_traceMany v_who v_bitsOf v_sizeOf v_number v_lifted) H := hP
              have hD : va_D A (pcX7 o cI v_d v_kept v_images v_found v_aside v_base v_at v_size v_fault v_opened v_isCold v_names v_code v_coded v_pile_13 v_horn v_brass v_coldAhead v_which v_whichMany v_bestPass v_bestLive v_bestCode v_traced v_traceMany v_who v_bitsOf v_sizeOf v_number v_lifted) := hD
              exact wJ135 v_pile_13 l3_9 h _ _ hP hD hS _ (lv_sub hl [2, 3, 4, 0, 5] rfl)
            · refine lv_aload_n hx hb dX7_worked_74 rfl (lv_at hl 1 rfl) ?_
              refine gt_X7_28 S hK hP 0 rfl rfl dX7_worked_75 ?_
              refine lv_iload_n hx hb dX7_worked_78 rfl (lv_at hl 4 rfl) ?_
              refine lv_iconst (v := 1) hx hb dX7_worked_79 (by decide) ?_
              refine lv_isub hx hb dX7_worked_80 ?_
              refine lv_aload_n hx hb dX7_worked_81 rfl (lv_at hl 1 rfl) ?_
              refine gt_X7_28 S hK hP 0 rfl rfl dX7_worked_82 ?_
              refine lv_iload_n hx hb dX7_worked_85 rfl (lv_at hl 4 rfl) ?_
              refine lv_iconst (v := 1) hx hb dX7_worked_86 (by decide) ?_
              refine lv_isub hx hb dX7_worked_87 ?_
              refine x_ald hx hb hK hP 7 h rfl rfl dX7_worked_88 (fun x_14 ex_14 h => ?_)
              obtain ⟨J97, eJ97, h⟩ := jnA_s h
              have wJ97 : ∀ (t0_15 : Int32), J97 t0_15 = some (w_pile, r_out) → ∀ (H : Heap) (locs : List Loc), va_P D vwCl (pcX7 o cI v_d v_kept v_images v_found v_aside v_base v_at v_size v_fault v_opened v_isCold v_names v_code v_coded v_pile_1 v_horn v_brass v_coldAhead v_which v_whichMany v_bestPass v_bestLive v_bestCode v_traced v_traceMany v_who v_bitsOf v_sizeOf v_number v_lifted) H → va_D A (pcX7 o cI v_d v_kept v_images v_found v_aside v_base v_at v_size v_fault v_opened v_isCold v_names v_code v_coded v_pile_1 v_horn v_brass v_coldAhead v_which v_whichMany v_bestPass v_bestLive v_bestCode v_traced v_traceMany v_who v_bitsOf v_sizeOf v_number v_lifted) → va_S A s.heap H locs → ∀ ls : Array Slot, lv_has ls 6 [(0, .ref (o 0)), (1, .int p0), (2, .int p1), (3, .int l3_2), (4, .int l4_3)] → WI p l e 1 22 s m args below meth c D (tysX cI cS) A r_out (pcX7 o cI v_d v_kept v_images v_found v_aside v_base v_at v_size v_fault v_opened v_isCold v_names v_code v_coded w_pile v_horn v_brass v_coldAhead v_which v_whichMany v_bestPass v_bestLive v_bestCode v_traced v_traceMany v_who v_bitsOf v_sizeOf v_number v_lifted) H locs (F0 m 97 ls [.int t0_15, .int (l3_2 - 1), .ref (o 7)]) := by
                  intro t0_15 h H locs hP hD hS ls hl
                  subst eJ97
                  dsimp only at h
                  refine x_ast hx hb hK hP hD hS 7 h rfl rfl dX7_worked_97 (fun v_pile_16 ev_pile_16 h H locs hP hD hS => ?_)
                  have hP : va_P D vwCl (pcX7 o cI v_d v_kept v_images v_found v_aside v_base v_at v_size v_fault v_opened v_isCold v_names v_code v_coded v_pile_16 v_horn v_brass v_coldAhead v_which v_whichMany v_bestPass v_bestLive v_bestCode v_traced v_traceMany v_who v_bitsOf v_sizeOf v_number v_lifted) H := hP
                  have hD : va_D A (pcX7 o cI v_d v_kept v_images v_found v_aside v_base v_at v_size v_fault v_opened v_isCold v_names v_code v_coded v_pile_16 v_horn v_brass v_coldAhead v_which v_whichMany v_bestPass v_bestLive v_bestCode v_traced v_traceMany v_who v_bitsOf v_sizeOf v_number v_lifted) := hD
                  refine lv_goto (tgt := 135) hx hb dX7_worked_98 (by decide) ?_
                  exact wJ135 v_pile_16 l3_2 h _ _ hP hD hS _ (lv_sub hl [0, 1, 2, 3, 4] rfl)
              refine x_if_ne (tgt := 96) hx hb h dX7_worked_89 (by decide) (fun c89 h => ?_) (fun c89 h => ?_)
              · refine lv_iconst (v := 0) hx hb dX7_worked_96 (by decide) ?_
                exact wJ97 0 h _ _ hP hD hS _ (lv_sub hl [1, 2, 3, 4, 5] rfl)
              · refine lv_iconst (v := 1) hx hb dX7_worked_92 (by decide) ?_
                refine lv_goto (tgt := 97) hx hb dX7_worked_93 (by decide) ?_
                exact wJ97 1 h _ _ hP hD hS _ (lv_sub hl [1, 2, 3, 4, 5] rfl)
          · refine lv_aload_n hx hb dX7_worked_30 rfl (lv_at hl 1 rfl) ?_
            refine gt_X7_28 S hK hP 0 rfl rfl dX7_worked_31 ?_
            refine lv_iload_n hx hb dX7_worked_34 rfl (lv_at hl 4 rfl) ?_
            refine lv_iload hx hb dX7_worked_35 (lv_at hl 0 rfl) ?_
            refine lv_sipush (v := 10000) hx hb dX7_worked_37 (by decide) ?_
            obtain ⟨J59, eJ59, h⟩ := jnA_s h
            have wJ59 : ∀ (t0_17 : Int32), J59 t0_17 = some (w_pile, r_out) → ∀ (H : Heap) (locs : List Loc), va_P D vwCl (pcX7 o cI v_d v_kept v_images v_found v_aside v_base v_at v_size v_fault v_opened v_isCold v_names v_code v_coded v_pile_1 v_horn v_brass v_coldAhead v_which v_whichMany v_bestPass v_bestLive v_bestCode v_traced v_traceMany v_who v_bitsOf v_sizeOf v_number v_lifted) H → va_D A (pcX7 o cI v_d v_kept v_images v_found v_aside v_base v_at v_size v_fault v_opened v_isCold v_names v_code v_coded v_pile_1 v_horn v_brass v_coldAhead v_which v_whichMany v_bestPass v_bestLive v_bestCode v_traced v_traceMany v_who v_bitsOf v_sizeOf v_number v_lifted) → va_S A s.heap H locs → ∀ ls : Array Slot, lv_has ls 6 [(0, .ref (o 0)), (1, .int p0), (2, .int p1), (3, .int l3_2), (4, .int l4_3)] → WI p l e 1 22 s m args below meth c D (tysX cI cS) A r_out (pcX7 o cI v_d v_kept v_images v_found v_aside v_base v_at v_size v_fault v_opened v_isCold v_names v_code v_coded w_pile v_horn v_brass v_coldAhead v_which v_whichMany v_bestPass v_bestLive v_bestCode v_traced v_traceMany v_who v_bitsOf v_sizeOf v_number v_lifted) H locs (F0 m 59 ls [.int t0_17, .int l3_2, .ref (o 7)]) := by
                intro t0_17 h H locs hP hD hS ls hl
                subst eJ59
                dsimp only at h
                refine x_ast hx hb hK hP hD hS 7 h rfl rfl dX7_worked_59 (fun v_pile_18 ev_pile_18 h H locs hP hD hS => ?_)
                have hP : va_P D vwCl (pcX7 o cI v_d v_kept v_images v_found v_aside v_base v_at v_size v_fault v_opened v_isCold v_names v_code v_coded v_pile_18 v_horn v_brass v_coldAhead v_which v_whichMany v_bestPass v_bestLive v_bestCode v_traced v_traceMany v_who v_bitsOf v_sizeOf v_number v_lifted) H := hP
                have hD : va_D A (pcX7 o cI v_d v_kept v_images v_found v_aside v_base v_at v_size v_fault v_opened v_isCold v_names v_code v_coded v_pile_18 v_horn v_brass v_coldAhead v_which v_whichMany v_bestPass v_bestLive v_bestCode v_traced v_traceMany v_who v_bitsOf v_sizeOf v_number v_lifted) := hD
                obtain ⟨l3_19, el3_19, h⟩ := nmA_s h
                refine lv_iinc (v := l3_19) (lv' := [(3, .int l3_19), (0, .ref (o 0)), (1, .int p0), (2, .int p1), (4, .int l4_3)]) hx hb dX7_worked_60 hl (k := 3) rfl (by rw [el3_19]; exact congrArg _ (by decide)) (by decide) rfl (fun ls hl => ?_)
                refine lv_goto (tgt := 135) hx hb dX7_worked_63 (by decide) ?_
                exact wJ135 v_pile_18 l3_19 h _ _ hP hD hS _ (lv_sub hl [1, 2, 3, 0, 4] rfl)
            refine x_icmp_ge (tgt := 48) hx hb h dX7_worked_40 (by decide) (fun c40 h => ?_) (fun c40 h => ?_)
            · refine lv_aload_n hx hb dX7_worked_48 rfl (lv_at hl 1 rfl) ?_
              refine gt_X7_22 S hK hP 0 rfl rfl dX7_worked_49 ?_
              refine lv_iload hx hb dX7_worked_52 (lv_at hl 0 rfl) ?_
              refine lv_sipush (v := 10000) hx hb dX7_worked_54 (by decide) ?_
              refine lv_isub hx hb dX7_worked_57 ?_
              refine x_ald hx hb hK hP 5 h rfl rfl dX7_worked_58 (fun x_20 ex_20 h => ?_)
              exact wJ59 x_20 h _ _ hP hD hS _ (lv_sub hl [1, 2, 3, 4, 5] rfl)
            · refine lv_iload hx hb dX7_worked_43 (lv_at hl 0 rfl) ?_
              refine lv_goto (tgt := 59) hx hb dX7_worked_45 (by decide) ?_
              exact wJ59 x_5 h _ _ hP hD hS _ (lv_sub hl [1, 2, 3, 4, 5] rfl)
  exact wf_X7_worked_L5 300 v_pile 0 p0 h _ _ hP hD hS _ (lv_sub hl [2, 3, 4, 1, 0] rfl)

def f_X7_feed_L41 (v_found : Nat → Int32) (p0 : Int64) (p1 : Int32) : Nat → (Nat → Int32) → Int32 → Option ((Nat → Int32) × (Nat → Int32) × (Int32))
  | 0, _, _ => none
  | k_n + 1, v_d_3, l4_4 => (if p1 ≤ l4_4 then rdA 248 v_d_3 8 (fun x_5 => some (v_d_3, v_found, x_5)) else rdA 248 v_d_3 8 (fun x_6 => wrA 248 v_d_3 (198 + x_6) (((shrL p0 (8 * l4_4)) &&& 255).toInt32) (fun v_d_7 => rdA 248 v_d_7 8 (fun x_8 => wrA 248 v_d_7 8 (x_8 + 1) (fun v_d_9 => nmA (l4_4 + 1) (fun l4_10 => f_X7_feed_L41 v_found p0 p1 k_n v_d_9 l4_10))))))
def f_X7_feed  (v_d : Nat → Int32) (v_found : Nat → Int32) (p0 : Int64) (p1 : Int32) : Option ((Nat → Int32) × (Nat → Int32) × (Int32)) :=
  bd1 (f_X7_in (p1.toInt64) 1 8) (fun r_1 => (if r_1 = 0 then bd2 (f_X7_finds v_found 1) (fun v_found_13 r_14 => some (v_d, v_found_13, r_14)) else rdA 248 v_d 8 (fun x_2 => (if (x_2 + p1) ≤ 50 then f_X7_feed_L41 v_found p0 p1 300 v_d 0 else bd2 (f_X7_finds v_found 4) (fun v_found_11 r_12 => some (v_d, v_found_11, r_12))))))
set_option maxHeartbeats 600000 in
set_option maxRecDepth 100000 in
theorem c_X7_feed (l : Launch) (D : va_G) (cI cS : ClassId) (o : Nat → Nat) {v_d : Nat → Int32} {v_kept : Nat → Int32} {v_images : Int32} {v_found : Nat → Int32} {v_aside : Nat → Int32} {v_base : Int32} {v_at : Int32} {v_size : Int32} {v_fault : Int32} {v_opened : Int32} {v_isCold : Int32} {v_names : Nat → Int32} {v_code : Nat → Int32} {v_coded : Int32} {v_pile : Nat → Int32} {v_horn : Int32} {v_brass : Int32} {v_coldAhead : Nat → Int32} {v_which : Nat → Int32} {v_whichMany : Int32} {v_bestPass : Int32} {v_bestLive : Int32} {v_bestCode : Int32} {v_traced : Nat → Int32} {v_traceMany : Int32} {v_who : Int32} {v_bitsOf : Nat → Int32} {v_sizeOf : Nat → Int32} {v_number : Nat → Int32} {v_lifted : Nat → Int32} {p0 : Int64} {p1 : Int32} {w_d : Nat → Int32} {w_found : Nat → Int32} {r_out : Int32} (h : f_X7_feed  v_d v_found p0 p1 = some (w_d, w_found, r_out)) : MetI l D (tysX cI cS) St0 yX7_feed cX7_feed 5 (some .int) 1 25 [.ref (o 0), .long p0, .int p1] (pcX7 o cI v_d v_kept v_images v_found v_aside v_base v_at v_size v_fault v_opened v_isCold v_names v_code v_coded v_pile v_horn v_brass v_coldAhead v_which v_whichMany v_bestPass v_bestLive v_bestCode v_traced v_traceMany v_who v_bitsOf v_sizeOf v_number v_lifted) r_out (pcX7 o cI w_d v_kept v_images w_found v_aside v_base v_at v_size v_fault v_opened v_isCold v_names v_code v_coded v_pile v_horn v_brass v_coldAhead v_which v_whichMany v_bestPass v_bestLive v_bestCode v_traced v_traceMany v_who v_bitsOf v_sizeOf v_number v_lifted) := by
  refine Ent.metI (by decide +kernel) (Nat.le_of_ble_eq_true rfl) ?_
  intro p e s m args below meth c A ls hx hb hr hml hown hts hlocks hA hK hSt hP hD hS hl
  have hown : s.vm.findClass RX7 = some m.cls := hown
  have S : XFix p m c cX7_feed 5 s args RX7 := ⟨hx, hb, hml, hown, hts⟩
  have hl : lv_has ls 5 [(0, .ref (o 0)), (1, .long p0), (3, .int p1)] := hl
  unfold f_X7_feed at h
  refine lv_iload_n hx hb dX7_feed_0 rfl (lv_at hl 2 rfl) ?_
  refine lv_i2l (v := (p1.toInt64)) hx hb dX7_feed_1 rfl ?_
  refine lv_lconst (v := 1) hx hb dX7_feed_2 (by decide) ?_
  refine lv_ldc2 (v := 8) hx hb hown (hts _ wd17_14) dX7_feed_3 ?_
  obtain ⟨r_1, hc6, h⟩ := bd1_s h
  refine x_statI (As := [.long (p1.toInt64), .long 1, .long 8]) (rest := []) St0_ok S (c_X7_in l D cI cS o hc6) ys_X7_in wd6_7 ⟨Nat.le_of_ble_eq_true rfl, Nat.le_of_ble_eq_true rfl⟩ hK hSt hA hP hD hS rfl hl.1 rfl (Nat.le_of_ble_eq_true rfl) dX7_feed_6 (Nat.zero_le _) (Nat.zero_le _) (fun H locs hP hD hS => ?_)
  refine x_if_ne (tgt := 18) hx hb h dX7_feed_9 (by decide) (fun c9 h => ?_) (fun c9 h => ?_)
  · refine lv_aload_n hx hb dX7_feed_18 rfl (lv_at hl 0 rfl) ?_
    refine gt_X7_7 S hK hP 0 rfl rfl dX7_feed_19 ?_
    refine lv_bipush (v := 8) hx hb dX7_feed_22 (by decide) ?_
    refine x_ald hx hb hK hP 1 h rfl rfl dX7_feed_24 (fun x_2 ex_2 h => ?_)
    refine lv_iload_n hx hb dX7_feed_25 rfl (lv_at hl 2 rfl) ?_
    refine lv_iadd hx hb dX7_feed_26 ?_
    refine lv_bipush (v := 50) hx hb dX7_feed_27 (by decide) ?_
    refine x_icmp_le (tgt := 38) hx hb h dX7_feed_29 (by decide) (fun c29 h => ?_) (fun c29 h => ?_)
    · refine lv_iconst (v := 0) hx hb dX7_feed_38 (by decide) ?_
      refine lv_istore (lv' := [(4, .int 0), (0, .ref (o 0)), (1, .long p0), (3, .int p1)]) hx hb dX7_feed_39 hl (by decide) rfl (fun ls hl => ?_)
      have wf_X7_feed_L41 : ∀ (k_n : Nat) (v_d_3 : Nat → Int32) (l4_4 : Int32), f_X7_feed_L41 v_found p0 p1 k_n v_d_3 l4_4 = some (w_d, w_found, r_out) → ∀ (H : Heap) (locs : List Loc), va_P D vwCl (pcX7 o cI v_d_3 v_kept v_images v_found v_aside v_base v_at v_size v_fault v_opened v_isCold v_names v_code v_coded v_pile v_horn v_brass v_coldAhead v_which v_whichMany v_bestPass v_bestLive v_bestCode v_traced v_traceMany v_who v_bitsOf v_sizeOf v_number v_lifted) H → va_D A (pcX7 o cI v_d_3 v_kept v_images v_found v_aside v_base v_at v_size v_fault v_opened v_isCold v_names v_code v_coded v_pile v_horn v_brass v_coldAhead v_which v_whichMany v_bestPass v_bestLive v_bestCode v_traced v_traceMany v_who v_bitsOf v_sizeOf v_number v_lifted) → va_S A s.heap H locs → ∀ ls : Array Slot, lv_has ls 5 [(0, .ref (o 0)), (1, .long p0), (3, .int p1), (4, .int l4_4)] → WI p l e 1 25 s m args below meth c D (tysX cI cS) A r_out (pcX7 o cI w_d v_kept v_images w_found v_aside v_base v_at v_size v_fault v_opened v_isCold v_names v_code v_coded v_pile v_horn v_brass v_coldAhead v_which v_whichMany v_bestPass v_bestLive v_bestCode v_traced v_traceMany v_who v_bitsOf v_sizeOf v_number v_lifted) H locs (F0 m 41 ls []) := by
          intro k_n
          induction k_n with
          | zero => intro v_d_3 l4_4 h; rw [f_X7_feed_L41] at h; cases h
          | succ k_n ih =>
            intro v_d_3 l4_4 h H locs hP hD hS ls hl
            rw [f_X7_feed_L41] at h
            refine lv_iload hx hb dX7_feed_41 (lv_at hl 3 rfl) ?_
            refine lv_iload_n hx hb dX7_feed_43 rfl (lv_at hl 2 rfl) ?_
            refine x_icmp_ge (tgt := 92) hx hb h dX7_feed_44 (by decide) (fun c44 h => ?_) (fun c44 h => ?_)
            · refine lv_aload_n hx hb dX7_feed_92 rfl (lv_at hl 0 rfl) ?_
              refine gt_X7_7 S hK hP 0 rfl rfl dX7_feed_93 ?_
              refine lv_bipush (v := 8) hx hb dX7_feed_96 (by decide) ?_
              refine x_ald hx hb hK hP 1 h rfl rfl dX7_feed_98 (fun x_5 ex_5 h => ?_)
              cases h
              exact x_iret hx hb hr hlocks hK hP hD hS rfl rfl dX7_feed_99
            · refine lv_aload_n hx hb dX7_feed_47 rfl (lv_at hl 0 rfl) ?_
              refine gt_X7_7 S hK hP 0 rfl rfl dX7_feed_48 ?_
              refine lv_sipush (v := 198) hx hb dX7_feed_51 (by decide) ?_
              refine lv_aload_n hx hb dX7_feed_54 rfl (lv_at hl 0 rfl) ?_
              refine gt_X7_7 S hK hP 0 rfl rfl dX7_feed_55 ?_
              refine lv_bipush (v := 8) hx hb dX7_feed_58 (by decide) ?_
              refine x_ald hx hb hK hP 1 h rfl rfl dX7_feed_60 (fun x_6 ex_6 h => ?_)
              refine lv_iadd hx hb dX7_feed_61 ?_
              refine lv_lload_n hx hb dX7_feed_62 rfl (lv_at hl 1 rfl) ?_
              refine lv_bipush (v := 8) hx hb dX7_feed_63 (by decide) ?_
              refine lv_iload hx hb dX7_feed_65 (lv_at hl 3 rfl) ?_
              refine lv_imul hx hb dX7_feed_67 ?_
              refine lv_lshr (v := (shrL p0 (8 * l4_4))) hx hb dX7_feed_68 rfl ?_
              refine lv_ldc2 (v := 255) hx hb hown (hts _ wd14_18) dX7_feed_69 ?_
              refine lv_land hx hb dX7_feed_72 ?_
              refine lv_l2i (v := (((shrL p0 (8 * l4_4)) &&& 255).toInt32)) hx hb dX7_feed_73 rfl ?_
              refine x_ast hx hb hK hP hD hS 1 h rfl rfl dX7_feed_74 (fun v_d_7 ev_d_7 h H locs hP hD hS => ?_)
              have hP : va_P D vwCl (pcX7 o cI v_d_7 v_kept v_images v_found v_aside v_base v_at v_size v_fault v_opened v_isCold v_names v_code v_coded v_pile v_horn v_brass v_coldAhead v_which v_whichMany v_bestPass v_bestLive v_bestCode v_traced v_traceMany v_who v_bitsOf v_sizeOf v_number v_lifted) H := hP
              have hD : va_D A (pcX7 o cI v_d_7 v_kept v_images v_found v_aside v_base v_at v_size v_fault v_opened v_isCold v_names v_code v_coded v_pile v_horn v_brass v_coldAhead v_which v_whichMany v_bestPass v_bestLive v_bestCode v_traced v_traceMany v_who v_bitsOf v_sizeOf v_number v_lifted) := hD
              refine lv_aload_n hx hb dX7_feed_75 rfl (lv_at hl 0 rfl) ?_
              refine gt_X7_7 S hK hP 0 rfl rfl dX7_feed_76 ?_
              refine lv_bipush (v := 8) hx hb dX7_feed_79 (by decide) ?_
              refine lv_dup2_11 hx hb dX7_feed_81 rfl rfl ?_
              refine x_ald hx hb hK hP 1 h rfl rfl dX7_feed_82 (fun x_8 ex_8 h => ?_)
              refine lv_iconst (v := 1) hx hb dX7_feed_83 (by decide) ?_
              refine lv_iadd hx hb dX7_feed_84 ?_
              refine x_ast hx hb hK hP hD hS 1 h rfl rfl dX7_feed_85 (fun v_d_9 ev_d_9 h H locs hP hD hS => ?_)
              have hP : va_P D vwCl (pcX7 o cI v_d_9 v_kept v_images v_found v_aside v_base v_at v_size v_fault v_opened v_isCold v_names v_code v_coded v_pile v_horn v_brass v_coldAhead v_which v_whichMany v_bestPass v_bestLive v_bestCode v_traced v_traceMany v_who v_bitsOf v_sizeOf v_number v_lifted) H := hP
              have hD : va_D A (pcX7 o cI v_d_9 v_kept v_images v_found v_aside v_base v_at v_size v_fault v_opened v_isCold v_names v_code v_coded v_pile v_horn v_brass v_coldAhead v_which v_whichMany v_bestPass v_bestLive v_bestCode v_traced v_traceMany v_who v_bitsOf v_sizeOf v_number v_lifted) := hD
              obtain ⟨l4_10, el4_10, h⟩ := nmA_s h
              refine lv_iinc (v := l4_10) (lv' := [(4, .int l4_10), (0, .ref (o 0)), (1, .long p0), (3, .int p1)]) hx hb dX7_feed_86 hl (k := 3) rfl (by rw [el4_10]; exact congrArg _ (by decide)) (by decide) rfl (fun ls hl => ?_)
              refine lv_goto (tgt := 41) hx hb dX7_feed_89 (by decide) ?_
              exact ih v_d_9 l4_10 h _ _ hP hD hS _ (lv_sub hl [1, 2, 3, 0] rfl)
      exact wf_X7_feed_L41 300 v_d 0 h _ _ hP hD hS _ (lv_sub hl [1, 2, 3, 0] rfl)
    · refine lv_aload_n hx hb dX7_feed_32 rfl (lv_at hl 0 rfl) ?_
      refine lv_iconst (v := 4) hx hb dX7_feed_33 (by decide) ?_
      obtain ⟨v_found_11, r_12, hc34, h⟩ := bd2_s h
      refine x_selfVi (As := [.int 4]) (rest := []) St0_ok S (c_X7_finds l D cI cS o hc34) yf_X7_finds wd6_10 ⟨Nat.le_of_ble_eq_true rfl, Nat.le_of_ble_eq_true rfl⟩ hK hSt hA hP hD hS 0 rfl rfl rfl hl.1 rfl (Nat.le_of_ble_eq_true rfl) dX7_feed_34 (Nat.zero_le _) (Nat.zero_le _) (fun H locs hP hD hS => ?_)
      cases h
      exact x_iret hx hb hr hlocks hK hP hD hS rfl rfl dX7_feed_37
  · refine lv_aload_n hx hb dX7_feed_12 rfl (lv_at hl 0 rfl) ?_
    refine lv_iconst (v := 1) hx hb dX7_feed_13 (by decide) ?_
    obtain ⟨v_found_13, r_14, hc14, h⟩ := bd2_s h
    refine x_selfVi (As := [.int 1]) (rest := []) St0_ok S (c_X7_finds l D cI cS o hc14) yf_X7_finds wd6_10 ⟨Nat.le_of_ble_eq_true rfl, Nat.le_of_ble_eq_true rfl⟩ hK hSt hA hP hD hS 0 rfl rfl rfl hl.1 rfl (Nat.le_of_ble_eq_true rfl) dX7_feed_14 (Nat.zero_le _) (Nat.zero_le _) (fun H locs hP hD hS => ?_)
    cases h
    exact x_iret hx hb hr hlocks hK hP hD hS rfl rfl dX7_feed_17

def f_X7_textGives  (v_d : Nat → Int32) (v_names : Nat → Int32) (v_pile : Nat → Int32) (p0 : Int32) (p1 : Int32) (p2 : Int32) (p3 : Int32) : Option ((Nat → Int32) × (Nat → Int32) × (Int32)) :=
  jnA (fun (t0_1 : Int32) => rdA 248 v_d (76 + p0) (fun x_2 => jnA (fun (v_names_3 : Nat → Int32) (v_pile_4 : Nat → Int32) (l5_5 : Int32) => bd1 (f_X7_held l5_5 0 99) (fun r_6 => some (v_names_3, v_pile_4, r_6))) (fun J71 => (if x_2 ≤ 0 then J71 v_names v_pile t0_1 else wrA 3 v_names 0 p1 (fun v_names_7 => wrA 3 v_names_7 1 p2 (fun v_names_8 => wrA 3 v_names_8 2 p3 (fun v_names_9 => rdA 248 v_d (76 + p0) (fun x_10 => bd2 (f_X7_worked v_d v_names_9 v_pile (98 + (50 * p0)) x_10) (fun v_pile_11 r_12 => J71 v_names_9 v_pile_11 r_12))))))))) (fun J13 => (if p0 = 0 then nzA 2 (J13 ((p1 * p2) / 2)) else J13 p2))
set_option maxHeartbeats 600000 in
set_option maxRecDepth 100000 in
theorem c_X7_textGives (l : Launch) (D : va_G) (cI cS : ClassId) (o : Nat → Nat) {v_d : Nat → Int32} {v_kept : Nat → Int32} {v_images : Int32} {v_found : Nat → Int32} {v_aside : Nat → Int32} {v_base : Int32} {v_at : Int32} {v_size : Int32} {v_fault : Int32} {v_opened : Int32} {v_isCold : Int32} {v_names : Nat → Int32} {v_code : Nat → Int32} {v_coded : Int32} {v_pile : Nat → Int32} {v_horn : Int32} {v_brass : Int32} {v_coldAhead : Nat → Int32} {v_which : Nat → Int32} {v_whichMany : Int32} {v_bestPass : Int32} {v_bestLive : Int32} {v_bestCode : Int32} {v_traced : Nat → Int32} {v_traceMany : Int32} {v_who : Int32} {v_bitsOf : Nat → Int32} {v_sizeOf : Nat → Int32} {v_number : Nat → Int32} {v_lifted : Nat → Int32} {p0 : Int32} {p1 : Int32} {p2 : Int32} {p3 : Int32} {w_names : Nat → Int32} {w_pile : Nat → Int32} {r_out : Int32} (h : f_X7_textGives  v_d v_names v_pile p0 p1 p2 p3 = some (w_names, w_pile, r_out)) : MetI l D (tysX cI cS) St0 yX7_textGives cX7_textGives 6 (some .int) 2 47 [.ref (o 0), .int p0, .int p1, .int p2, .int p3] (pcX7 o cI v_d v_kept v_images v_found v_aside v_base v_at v_size v_fault v_opened v_isCold v_names v_code v_coded v_pile v_horn v_brass v_coldAhead v_which v_whichMany v_bestPass v_bestLive v_bestCode v_traced v_traceMany v_who v_bitsOf v_sizeOf v_number v_lifted) r_out (pcX7 o cI v_d v_kept v_images v_found v_aside v_base v_at v_size v_fault v_opened v_isCold w_names v_code v_coded w_pile v_horn v_brass v_coldAhead v_which v_whichMany v_bestPass v_bestLive v_bestCode v_traced v_traceMany v_who v_bitsOf v_sizeOf v_number v_lifted) := by
  refine Ent.metI (by decide +kernel) (Nat.le_of_ble_eq_true rfl) ?_
  intro p e s m args below meth c A ls hx hb hr hml hown hts hlocks hA hK hSt hP hD hS hl
  have hown : s.vm.findClass RX7 = some m.cls := hown
  have S : XFix p m c cX7_textGives 6 s args RX7 := ⟨hx, hb, hml, hown, hts⟩
  have hl : lv_has ls 6 [(0, .ref (o 0)), (1, .int p0), (2, .int p1), (3, .int p2), (4, .int p3)] := hl
  unfold f_X7_textGives at h
  refine lv_iload_n hx hb dX7_textGives_0 rfl (lv_at hl 1 rfl) ?_
  obtain ⟨J13, eJ13, h⟩ := jnA_s h
  have wJ13 : ∀ (t0_1 : Int32), J13 t0_1 = some (w_names, w_pile, r_out) → ∀ (H : Heap) (locs : List Loc), va_P D vwCl (pcX7 o cI v_d v_kept v_images v_found v_aside v_base v_at v_size v_fault v_opened v_isCold v_names v_code v_coded v_pile v_horn v_brass v_coldAhead v_which v_whichMany v_bestPass v_bestLive v_bestCode v_traced v_traceMany v_who v_bitsOf v_sizeOf v_number v_lifted) H → va_D A (pcX7 o cI v_d v_kept v_images v_found v_aside v_base v_at v_size v_fault v_opened v_isCold v_names v_code v_coded v_pile v_horn v_brass v_coldAhead v_which v_whichMany v_bestPass v_bestLive v_bestCode v_traced v_traceMany v_who v_bitsOf v_sizeOf v_number v_lifted) → va_S A s.heap H locs → ∀ ls : Array Slot, lv_has ls 6 [(0, .ref (o 0)), (1, .int p0), (2, .int p1), (3, .int p2), (4, .int p3)] → WI p l e 2 47 s m args below meth c D (tysX cI cS) A r_out (pcX7 o cI v_d v_kept v_images v_found v_aside v_base v_at v_size v_fault v_opened v_isCold w_names v_code v_coded w_pile v_horn v_brass v_coldAhead v_which v_whichMany v_bestPass v_bestLive v_bestCode v_traced v_traceMany v_who v_bitsOf v_sizeOf v_number v_lifted) H locs (F0 m 13 ls [.int t0_1]) := by
      intro t0_1 h H locs hP hD hS ls hl
      subst eJ13
      dsimp only at h
      refine lv_istore (lv' := [(5, .int t0_1), (0, .ref (o 0)), (1, .int p0), (2, .int p1), (3, .int p2), (4, .int p3)]) hx hb dX7_textGives_13 hl (by decide) rfl (fun ls hl => ?_)
      refine lv_aload_n hx hb dX7_textGives_15 rfl (lv_at hl 1 rfl) ?_
      refine gt_X7_7 S hK hP 0 rfl rfl dX7_textGives_16 ?_
      refine lv_bipush (v := 76) hx hb dX7_textGives_19 (by decide) ?_
      refine lv_iload_n hx hb dX7_textGives_21 rfl (lv_at hl 2 rfl) ?_
      refine lv_iadd hx hb dX7_textGives_22 ?_
      refine x_ald hx hb hK hP 1 h rfl rfl dX7_textGives_23 (fun x_2 ex_2 h => ?_)
      obtain ⟨J71, eJ71, h⟩ := jnA_s h
      have wJ71 : ∀ (v_names_3 : Nat → Int32) (v_pile_4 : Nat → Int32) (l5_5 : Int32), J71 v_names_3 v_pile_4 l5_5 = some (w_names, w_pile, r_out) → ∀ (H : Heap) (locs : List Loc), va_P D vwCl (pcX7 o cI v_d v_kept v_images v_found v_aside v_base v_at v_size v_fault v_opened v_isCold v_names_3 v_code v_coded v_pile_4 v_horn v_brass v_coldAhead v_which v_whichMany v_bestPass v_bestLive v_bestCode v_traced v_traceMany v_who v_bitsOf v_sizeOf v_number v_lifted) H → va_D A (pcX7 o cI v_d v_kept v_images v_found v_aside v_base v_at v_size v_fault v_opened v_isCold v_names_3 v_code v_coded v_pile_4 v_horn v_brass v_coldAhead v_which v_whichMany v_bestPass v_bestLive v_bestCode v_traced v_traceMany v_who v_bitsOf v_sizeOf v_number v_lifted) → va_S A s.heap H locs → ∀ ls : Array Slot, lv_has ls 6 [(5, .int l5_5)] → WI p l e 2 47 s m args below meth c D (tysX cI cS) A r_out (pcX7 o cI v_d v_kept v_images v_found v_aside v_base v_at v_size v_fault v_opened v_isCold w_names v_code v_coded w_pile v_horn v_brass v_coldAhead v_which v_whichMany v_bestPass v_bestLive v_bestCode v_traced v_traceMany v_who v_bitsOf v_sizeOf v_number v_lifted) H locs (F0 m 71 ls []) := by
          intro v_names_3 v_pile_4 l5_5 h H locs hP hD hS ls hl
          subst eJ71
          dsimp only at h
          refine lv_iload hx hb dX7_textGives_71 (lv_at hl 0 rfl) ?_
          refine lv_iconst (v := 0) hx hb dX7_textGives_73 (by decide) ?_
          refine lv_bipush (v := 99) hx hb dX7_textGives_74 (by decide) ?_
          obtain ⟨r_6, hc76, h⟩ := bd1_s h
          refine x_statI (As := [.int l5_5, .int 0, .int 99]) (rest := []) St0_ok S (c_X7_held l D cI cS o hc76) ys_X7_held wd12_6 ⟨Nat.le_of_ble_eq_true rfl, Nat.le_of_ble_eq_true rfl⟩ hK hSt hA hP hD hS rfl hl.1 rfl (Nat.le_of_ble_eq_true rfl) dX7_textGives_76 (Nat.zero_le _) (Nat.zero_le _) (fun H locs hP hD hS => ?_)
          cases h
          exact x_iret hx hb hr hlocks hK hP hD hS rfl rfl dX7_textGives_79
      refine x_if_le (tgt := 71) hx hb h dX7_textGives_24 (by decide) (fun c24 h => ?_) (fun c24 h => ?_)
      · exact wJ71 v_names v_pile t0_1 h _ _ hP hD hS _ (lv_sub hl [0] rfl)
      · refine lv_aload_n hx hb dX7_textGives_27 rfl (lv_at hl 1 rfl) ?_
        refine gt_X7_22 S hK hP 0 rfl rfl dX7_textGives_28 ?_
        refine lv_iconst (v := 0) hx hb dX7_textGives_31 (by decide) ?_
        refine lv_iload_n hx hb dX7_textGives_32 rfl (lv_at hl 3 rfl) ?_
        refine x_ast hx hb hK hP hD hS 5 h rfl rfl dX7_textGives_33 (fun v_names_7 ev_names_7 h H locs hP hD hS => ?_)
        have hP : va_P D vwCl (pcX7 o cI v_d v_kept v_images v_found v_aside v_base v_at v_size v_fault v_opened v_isCold v_names_7 v_code v_coded v_pile v_horn v_brass v_coldAhead v_which v_whichMany v_bestPass v_bestLive v_bestCode v_traced v_traceMany v_who v_bitsOf v_sizeOf v_number v_lifted) H := hP
        have hD : va_D A (pcX7 o cI v_d v_kept v_images v_found v_aside v_base v_at v_size v_fault v_opened v_isCold v_names_7 v_code v_coded v_pile v_horn v_brass v_coldAhead v_which v_whichMany v_bestPass v_bestLive v_bestCode v_traced v_traceMany v_who v_bitsOf v_sizeOf v_number v_lifted) := hD
        refine lv_aload_n hx hb dX7_textGives_34 rfl (lv_at hl 1 rfl) ?_
        refine gt_X7_22 S hK hP 0 rfl rfl dX7_textGives_35 ?_
        refine lv_iconst (v := 1) hx hb dX7_textGives_38 (by decide) ?_
        refine lv_iload_n hx hb dX7_textGives_39 rfl (lv_at hl 4 rfl) ?_
        refine x_ast hx hb hK hP hD hS 5 h rfl rfl dX7_textGives_40 (fun v_names_8 ev_names_8 h H locs hP hD hS => ?_)
        have hP : va_P D vwCl (pcX7 o cI v_d v_kept v_images v_found v_aside v_base v_at v_size v_fault v_opened v_isCold v_names_8 v_code v_coded v_pile v_horn v_brass v_coldAhead v_which v_whichMany v_bestPass v_bestLive v_bestCode v_traced v_traceMany v_who v_bitsOf v_sizeOf v_number v_lifted) H := hP
        have hD : va_D A (pcX7 o cI v_d v_kept v_images v_found v_aside v_base v_at v_size v_fault v_opened v_isCold v_names_8 v_code v_coded v_pile v_horn v_brass v_coldAhead v_which v_whichMany v_bestPass v_bestLive v_bestCode v_traced v_traceMany v_who v_bitsOf v_sizeOf v_number v_lifted) := hD
        refine lv_aload_n hx hb dX7_textGives_41 rfl (lv_at hl 1 rfl) ?_
        refine gt_X7_22 S hK hP 0 rfl rfl dX7_textGives_42 ?_
        refine lv_iconst (v := 2) hx hb dX7_textGives_45 (by decide) ?_
        refine lv_iload hx hb dX7_textGives_46 (lv_at hl 5 rfl) ?_
        refine x_ast hx hb hK hP hD hS 5 h rfl rfl dX7_textGives_48 (fun v_names_9 ev_names_9 h H locs hP hD hS => ?_)
        have hP : va_P D vwCl (pcX7 o cI v_d v_kept v_images v_found v_aside v_base v_at v_size v_fault v_opened v_isCold v_names_9 v_code v_coded v_pile v_horn v_brass v_coldAhead v_which v_whichMany v_bestPass v_bestLive v_bestCode v_traced v_traceMany v_who v_bitsOf v_sizeOf v_number v_lifted) H := hP
        have hD : va_D A (pcX7 o cI v_d v_kept v_images v_found v_aside v_base v_at v_size v_fault v_opened v_isCold v_names_9 v_code v_coded v_pile v_horn v_brass v_coldAhead v_which v_whichMany v_bestPass v_bestLive v_bestCode v_traced v_traceMany v_who v_bitsOf v_sizeOf v_number v_lifted) := hD
        refine lv_aload_n hx hb dX7_textGives_49 rfl (lv_at hl 1 rfl) ?_
        refine lv_bipush (v := 98) hx hb dX7_textGives_50 (by decide) ?_
        refine lv_bipush (v := 50) hx hb dX7_textGives_52 (by decide) ?_
        refine lv_iload_n hx hb dX7_textGives_54 rfl (lv_at hl 2 rfl) ?_
        refine lv_imul hx hb dX7_textGives_55 ?_
        refine lv_iadd hx hb dX7_textGives_56 ?_
        refine lv_aload_n hx hb dX7_textGives_57 rfl (lv_at hl 1 rfl) ?_
        refine gt_X7_7 S hK hP 0 rfl rfl dX7_textGives_58 ?_
        refine lv_bipush (v := 76) hx hb dX7_textGives_61 (by decide) ?_
        refine lv_iload_n hx hb dX7_textGives_63 rfl (lv_at hl 2 rfl) ?_
        refine lv_iadd hx hb dX7_textGives_64 ?_
        refine x_ald hx hb hK hP 1 h rfl rfl dX7_textGives_65 (fun x_10 ex_10 h => ?_)
        obtain ⟨v_pile_11, r_12, hc66, h⟩ := bd2_s h
        refine x_selfVi (As := [.int (98 + (50 * p0)), .int x_10]) (rest := []) St0_ok S (c_X7_worked l D cI cS o hc66) yf_X7_worked wd11_23 ⟨Nat.le_of_ble_eq_true rfl, Nat.le_of_ble_eq_true rfl⟩ hK hSt hA hP hD hS 0 rfl rfl rfl hl.1 rfl (Nat.le_of_ble_eq_true rfl) dX7_textGives_66 (Nat.zero_le _) (Nat.zero_le _) (fun H locs hP hD hS => ?_)
        refine lv_istore (lv' := [(5, .int r_12), (0, .ref (o 0)), (1, .int p0), (2, .int p1), (3, .int p2), (4, .int p3)]) hx hb dX7_textGives_69 hl (by decide) rfl (fun ls hl => ?_)
        exact wJ71 v_names_9 v_pile_11 r_12 h _ _ hP hD hS _ (lv_sub hl [0] rfl)
  refine x_if_ne (tgt := 12) hx hb h dX7_textGives_1 (by decide) (fun c1 h => ?_) (fun c1 h => ?_)
  · refine lv_iload_n hx hb dX7_textGives_12 rfl (lv_at hl 3 rfl) ?_
    exact wJ13 p2 h _ _ hP hD hS _ (lv_sub hl [0, 1, 2, 3, 4] rfl)
  · refine lv_iload_n hx hb dX7_textGives_4 rfl (lv_at hl 2 rfl) ?_
    refine lv_iload_n hx hb dX7_textGives_5 rfl (lv_at hl 3 rfl) ?_
    refine lv_imul hx hb dX7_textGives_6 ?_
    refine lv_iconst (v := 2) hx hb dX7_textGives_7 (by decide) ?_
    refine x_idiv hx hb h dX7_textGives_8 (fun h => ?_)
    refine lv_goto (tgt := 13) hx hb dX7_textGives_9 (by decide) ?_
    exact wJ13 ((p1 * p2) / 2) h _ _ hP hD hS _ (lv_sub hl [0, 1, 2, 3, 4] rfl)

def f_X7_law  (v_d : Nat → Int32) (v_found : Nat → Int32) (v_names : Nat → Int32) (v_pile : Nat → Int32) (p0 : Int32) (p1 : Int32) (p2 : Int32) (p3 : Int32) : Option ((Nat → Int32) × (Nat → Int32) × (Nat → Int32) × (Int32)) :=
  bd1 (f_X7_in (p0.toInt64) 0 1) (fun r_1 => (if r_1 = 0 then bd2 (f_X7_finds v_found 1) (fun v_found_2 r_3 => some (v_found_2, v_names, v_pile, r_3)) else bd3 (f_X7_textGives v_d v_names v_pile p0 p1 p2 p3) (fun v_names_4 v_pile_5 r_6 => some (v_found, v_names_4, v_pile_5, r_6))))
set_option maxHeartbeats 600000 in
set_option maxRecDepth 100000 in
theorem c_X7_law (l : Launch) (D : va_G) (cI cS : ClassId) (o : Nat → Nat) {v_d : Nat → Int32} {v_kept : Nat → Int32} {v_images : Int32} {v_found : Nat → Int32} {v_aside : Nat → Int32} {v_base : Int32} {v_at : Int32} {v_size : Int32} {v_fault : Int32} {v_opened : Int32} {v_isCold : Int32} {v_names : Nat → Int32} {v_code : Nat → Int32} {v_coded : Int32} {v_pile : Nat → Int32} {v_horn : Int32} {v_brass : Int32} {v_coldAhead : Nat → Int32} {v_which : Nat → Int32} {v_whichMany : Int32} {v_bestPass : Int32} {v_bestLive : Int32} {v_bestCode : Int32} {v_traced : Nat → Int32} {v_traceMany : Int32} {v_who : Int32} {v_bitsOf : Nat → Int32} {v_sizeOf : Nat → Int32} {v_number : Nat → Int32} {v_lifted : Nat → Int32} {p0 : Int32} {p1 : Int32} {p2 : Int32} {p3 : Int32} {w_found : Nat → Int32} {w_names : Nat → Int32} {w_pile : Nat → Int32} {r_out : Int32} (h : f_X7_law  v_d v_found v_names v_pile p0 p1 p2 p3 = some (w_found, w_names, w_pile, r_out)) : MetI l D (tysX cI cS) St0 yX7_law cX7_law 5 (some .int) 3 72 [.ref (o 0), .int p0, .int p1, .int p2, .int p3] (pcX7 o cI v_d v_kept v_images v_found v_aside v_base v_at v_size v_fault v_opened v_isCold v_names v_code v_coded v_pile v_horn v_brass v_coldAhead v_which v_whichMany v_bestPass v_bestLive v_bestCode v_traced v_traceMany v_who v_bitsOf v_sizeOf v_number v_lifted) r_out (pcX7 o cI v_d v_kept v_images w_found v_aside v_base v_at v_size v_fault v_opened v_isCold w_names v_code v_coded w_pile v_horn v_brass v_coldAhead v_which v_whichMany v_bestPass v_bestLive v_bestCode v_traced v_traceMany v_who v_bitsOf v_sizeOf v_number v_lifted) := by
  refine Ent.metI (by decide +kernel) (Nat.le_of_ble_eq_true rfl) ?_
  intro p e s m args below meth c A ls hx hb hr hml hown hts hlocks hA hK hSt hP hD hS hl
  have hown : s.vm.findClass RX7 = some m.cls := hown
  have S : XFix p m c cX7_law 5 s args RX7 := ⟨hx, hb, hml, hown, hts⟩
  have hl : lv_has ls 5 [(0, .ref (o 0)), (1, .int p0), (2, .int p1), (3, .int p2), (4, .int p3)] := hl
  unfold f_X7_law at h
  refine lv_iload_n hx hb dX7_law_0 rfl (lv_at hl 1 rfl) ?_
  refine lv_i2l (v := (p0.toInt64)) hx hb dX7_law_1 rfl ?_
  refine lv_lconst (v := 0) hx hb dX7_law_2 (by decide) ?_
  refine lv_lconst (v := 1) hx hb dX7_law_3 (by decide) ?_
  obtain ⟨r_1, hc4, h⟩ := bd1_s h
  refine x_statI (As := [.long (p0.toInt64), .long 0, .long 1]) (rest := []) St0_ok S (c_X7_in l D cI cS o hc4) ys_X7_in wd6_7 ⟨Nat.le_of_ble_eq_true rfl, Nat.le_of_ble_eq_true rfl⟩ hK hSt hA hP hD hS rfl hl.1 rfl (Nat.le_of_ble_eq_true rfl) dX7_law_4 (Nat.zero_le _) (Nat.zero_le _) (fun H locs hP hD hS => ?_)
  refine x_if_eq (tgt := 22) hx hb h dX7_law_7 (by decide) (fun c7 h => ?_) (fun c7 h => ?_)
  · refine lv_aload_n hx hb dX7_law_22 rfl (lv_at hl 0 rfl) ?_
    refine lv_iconst (v := 1) hx hb dX7_law_23 (by decide) ?_
    obtain ⟨v_found_2, r_3, hc24, h⟩ := bd2_s h
    refine x_selfVi (As := [.int 1]) (rest := []) St0_ok S (c_X7_finds l D cI cS o hc24) yf_X7_finds wd6_10 ⟨Nat.le_of_ble_eq_true rfl, Nat.le_of_ble_eq_true rfl⟩ hK hSt hA hP hD hS 0 rfl rfl rfl hl.1 rfl (Nat.le_of_ble_eq_true rfl) dX7_law_24 (Nat.zero_le _) (Nat.zero_le _) (fun H locs hP hD hS => ?_)
    cases h
    exact x_iret hx hb hr hlocks hK hP hD hS rfl rfl dX7_law_27
  · refine lv_aload_n hx hb dX7_law_10 rfl (lv_at hl 0 rfl) ?_
    refine lv_iload_n hx hb dX7_law_11 rfl (lv_at hl 1 rfl) ?_
    refine lv_iload_n hx hb dX7_law_12 rfl (lv_at hl 2 rfl) ?_
    refine lv_iload_n hx hb dX7_law_13 rfl (lv_at hl 3 rfl) ?_
    refine lv_iload hx hb dX7_law_14 (lv_at hl 4 rfl) ?_
    obtain ⟨v_names_4, v_pile_5, r_6, hc16, h⟩ := bd3_s h
    refine x_selfVi (As := [.int p0, .int p1, .int p2, .int p3]) (rest := []) St0_ok S (c_X7_textGives l D cI cS o hc16) yf_X7_textGives wd11_19 ⟨Nat.le_of_ble_eq_true rfl, Nat.le_of_ble_eq_true rfl⟩ hK hSt hA hP hD hS 0 rfl rfl rfl hl.1 rfl (Nat.le_of_ble_eq_true rfl) dX7_law_16 (Nat.zero_le _) (Nat.zero_le _) (fun H locs hP hD hS => ?_)
    refine lv_goto (tgt := 27) hx hb dX7_law_19 (by decide) ?_
    cases h
    exact x_iret hx hb hr hlocks hK hP hD hS rfl rfl dX7_law_27

def f_X7_isDead  (v_d : Nat → Int32) (p0 : Int32) : Option ((Int32)) :=
  bd1 (f_X7_of v_d p0 5) (fun r_1 => (if r_1 = 0 then some (1) else some (0)))
set_option maxHeartbeats 600000 in
set_option maxRecDepth 100000 in
theorem c_X7_isDead (l : Launch) (D : va_G) (cI cS : ClassId) (o : Nat → Nat) {v_d : Nat → Int32} {v_kept : Nat → Int32} {v_images : Int32} {v_found : Nat → Int32} {v_aside : Nat → Int32} {v_base : Int32} {v_at : Int32} {v_size : Int32} {v_fault : Int32} {v_opened : Int32} {v_isCold : Int32} {v_names : Nat → Int32} {v_code : Nat → Int32} {v_coded : Int32} {v_pile : Nat → Int32} {v_horn : Int32} {v_brass : Int32} {v_coldAhead : Nat → Int32} {v_which : Nat → Int32} {v_whichMany : Int32} {v_bestPass : Int32} {v_bestLive : Int32} {v_bestCode : Int32} {v_traced : Nat → Int32} {v_traceMany : Int32} {v_who : Int32} {v_bitsOf : Nat → Int32} {v_sizeOf : Nat → Int32} {v_number : Nat → Int32} {v_lifted : Nat → Int32} {p0 : Int32}  {r_out : Int32} (h : f_X7_isDead  v_d p0 = some (r_out)) : MetI l D (tysX cI cS) St0 yX7_isDead cX7_isDead 2 (some .boolean) 1 22 [.ref (o 0), .int p0] (pcX7 o cI v_d v_kept v_images v_found v_aside v_base v_at v_size v_fault v_opened v_isCold v_names v_code v_coded v_pile v_horn v_brass v_coldAhead v_which v_whichMany v_bestPass v_bestLive v_bestCode v_traced v_traceMany v_who v_bitsOf v_sizeOf v_number v_lifted) r_out (pcX7 o cI v_d v_kept v_images v_found v_aside v_base v_at v_size v_fault v_opened v_isCold v_names v_code v_coded v_pile v_horn v_brass v_coldAhead v_which v_whichMany v_bestPass v_bestLive v_bestCode v_traced v_traceMany v_who v_bitsOf v_sizeOf v_number v_lifted) := by
  refine Ent.metI (by decide +kernel) (Nat.le_of_ble_eq_true rfl) ?_
  intro p e s m args below meth c A ls hx hb hr hml hown hts hlocks hA hK hSt hP hD hS hl
  have hown : s.vm.findClass RX7 = some m.cls := hown
  have S : XFix p m c cX7_isDead 2 s args RX7 := ⟨hx, hb, hml, hown, hts⟩
  have hl : lv_has ls 2 [(0, .ref (o 0)), (1, .int p0)] := hl
  unfold f_X7_isDead at h
  refine lv_aload_n hx hb dX7_isDead_0 rfl (lv_at hl 0 rfl) ?_
  refine lv_iload_n hx hb dX7_isDead_1 rfl (lv_at hl 1 rfl) ?_
  refine lv_iconst (v := 5) hx hb dX7_isDead_2 (by decide) ?_
  obtain ⟨r_1, hc3, h⟩ := bd1_s h
  refine x_selfVi (As := [.int p0, .int 5]) (rest := []) St0_ok S (c_X7_of l D cI cS o hc3) yf_X7_of wd10_11 ⟨Nat.le_of_ble_eq_true rfl, Nat.le_of_ble_eq_true rfl⟩ hK hSt hA hP hD hS 0 rfl rfl rfl hl.1 rfl (Nat.le_of_ble_eq_true rfl) dX7_isDead_3 (Nat.zero_le _) (Nat.zero_le _) (fun H locs hP hD hS => ?_)
  refine x_if_ne (tgt := 13) hx hb h dX7_isDead_6 (by decide) (fun c6 h => ?_) (fun c6 h => ?_)
  · refine lv_iconst (v := 0) hx hb dX7_isDead_13 (by decide) ?_
    cases h
    exact x_zret hx hb hr hlocks hK hP hD hS rfl rfl (Or.inl rfl) dX7_isDead_14
  · refine lv_iconst (v := 1) hx hb dX7_isDead_9 (by decide) ?_
    refine lv_goto (tgt := 14) hx hb dX7_isDead_10 (by decide) ?_
    cases h
    exact x_zret hx hb hr hlocks hK hP hD hS rfl rfl (Or.inr rfl) dX7_isDead_14

def f_X7_isWilling  (v_d : Nat → Int32) (p0 : Int32) : Option ((Int32)) :=
  bd1 (f_X7_of v_d p0 0) (fun r_1 => jnA (fun (t0_2 : Int32) => (if t0_2 = 0 then bd1 (f_X7_isDead v_d p0) (fun r_3 => (if r_3 = 0 then some (1) else some (0))) else bd1 (f_X7_of v_d p0 5) (fun r_4 => (if r_4 < 30 then some (0) else some (1))))) (fun J26 => jnA (J26 1) (fun J21 => (if r_1 = 0 then J21 else (if r_1 = 1 then J21 else (if r_1 = 4 then J21 else J26 0))))))
set_option maxHeartbeats 600000 in
set_option maxRecDepth 100000 in
theorem c_X7_isWilling (l : Launch) (D : va_G) (cI cS : ClassId) (o : Nat → Nat) {v_d : Nat → Int32} {v_kept : Nat → Int32} {v_images : Int32} {v_found : Nat → Int32} {v_aside : Nat → Int32} {v_base : Int32} {v_at : Int32} {v_size : Int32} {v_fault : Int32} {v_opened : Int32} {v_isCold : Int32} {v_names : Nat → Int32} {v_code : Nat → Int32} {v_coded : Int32} {v_pile : Nat → Int32} {v_horn : Int32} {v_brass : Int32} {v_coldAhead : Nat → Int32} {v_which : Nat → Int32} {v_whichMany : Int32} {v_bestPass : Int32} {v_bestLive : Int32} {v_bestCode : Int32} {v_traced : Nat → Int32} {v_traceMany : Int32} {v_who : Int32} {v_bitsOf : Nat → Int32} {v_sizeOf : Nat → Int32} {v_number : Nat → Int32} {v_lifted : Nat → Int32} {p0 : Int32}  {r_out : Int32} (h : f_X7_isWilling  v_d p0 = some (r_out)) : MetI l D (tysX cI cS) St0 yX7_isWilling cX7_isWilling 4 (some .boolean) 2 43 [.ref (o 0), .int p0] (pcX7 o cI v_d v_kept v_images v_found v_aside v_base v_at v_size v_fault v_opened v_isCold v_names v_code v_coded v_pile v_horn v_brass v_coldAhead v_which v_whichMany v_bestPass v_bestLive v_bestCode v_traced v_traceMany v_who v_bitsOf v_sizeOf v_number v_lifted) r_out (pcX7 o cI v_d v_kept v_images v_found v_aside v_base v_at v_size v_fault v_opened v_isCold v_names v_code v_coded v_pile v_horn v_brass v_coldAhead v_which v_whichMany v_bestPass v_bestLive v_bestCode v_traced v_traceMany v_who v_bitsOf v_sizeOf v_number v_lifted) := by
  refine Ent.metI (by decide +kernel) (Nat.le_of_ble_eq_true rfl) ?_
  intro p e s m args below meth c A ls hx hb hr hml hown hts hlocks hA hK hSt hP hD hS hl
  have hown : s.vm.findClass RX7 = some m.cls := hown
  have S : XFix p m c cX7_isWilling 4 s args RX7 := ⟨hx, hb, hml, hown, hts⟩
  have hl : lv_has ls 4 [(0, .ref (o 0)), (1, .int p0)] := hl
  unfold f_X7_isWilling at h
  refine lv_aload_n hx hb dX7_isWilling_0 rfl (lv_at hl 0 rfl) ?_
  refine lv_iload_n hx hb dX7_isWilling_1 rfl (lv_at hl 1 rfl) ?_
  refine lv_iconst (v := 0) hx hb dX7_isWilling_2 (by decide) ?_
  obtain ⟨r_1, hc3, h⟩ := bd1_s h
  refine x_selfVi (As := [.int p0, .int 0]) (rest := []) St0_ok S (c_X7_of l D cI cS o hc3) yf_X7_of wd10_11 ⟨Nat.le_of_ble_eq_true rfl, Nat.le_of_ble_eq_true rfl⟩ hK hSt hA hP hD hS 0 rfl rfl rfl hl.1 rfl (Nat.le_of_ble_eq_true rfl) dX7_isWilling_3 (Nat.zero_le _) (Nat.zero_le _) (fun H locs hP hD hS => ?_)
  refine lv_istore_n (lv' := [(2, .int r_1), (0, .ref (o 0)), (1, .int p0)]) hx hb dX7_isWilling_6 rfl hl (by decide) rfl (fun ls hl => ?_)
  refine lv_iload_n hx hb dX7_isWilling_7 rfl (lv_at hl 0 rfl) ?_
  obtain ⟨J26, eJ26, h⟩ := jnA_s h
  have wJ26 : ∀ (t0_2 : Int32), J26 t0_2 = some (r_out) → ∀ (H : Heap) (locs : List Loc), va_P D vwCl (pcX7 o cI v_d v_kept v_images v_found v_aside v_base v_at v_size v_fault v_opened v_isCold v_names v_code v_coded v_pile v_horn v_brass v_coldAhead v_which v_whichMany v_bestPass v_bestLive v_bestCode v_traced v_traceMany v_who v_bitsOf v_sizeOf v_number v_lifted) H → va_D A (pcX7 o cI v_d v_kept v_images v_found v_aside v_base v_at v_size v_fault v_opened v_isCold v_names v_code v_coded v_pile v_horn v_brass v_coldAhead v_which v_whichMany v_bestPass v_bestLive v_bestCode v_traced v_traceMany v_who v_bitsOf v_sizeOf v_number v_lifted) → va_S A s.heap H locs → ∀ ls : Array Slot, lv_has ls 4 [(0, .ref (o 0)), (1, .int p0)] → WI p l e 2 43 s m args below meth c D (tysX cI cS) A r_out (pcX7 o cI v_d v_kept v_images v_found v_aside v_base v_at v_size v_fault v_opened v_isCold v_names v_code v_coded v_pile v_horn v_brass v_coldAhead v_which v_whichMany v_bestPass v_bestLive v_bestCode v_traced v_traceMany v_who v_bitsOf v_sizeOf v_number v_lifted) H locs (F0 m 26 ls [.int t0_2]) := by
      intro t0_2 h H locs hP hD hS ls hl
      subst eJ26
      dsimp only at h
      refine lv_istore_n (lv' := [(3, .int t0_2), (0, .ref (o 0)), (1, .int p0)]) hx hb dX7_isWilling_26 rfl hl (by decide) rfl (fun ls hl => ?_)
      refine lv_iload_n hx hb dX7_isWilling_27 rfl (lv_at hl 0 rfl) ?_
      refine x_if_eq (tgt := 50) hx hb h dX7_isWilling_28 (by decide) (fun c28 h => ?_) (fun c28 h => ?_)
      · refine lv_aload_n hx hb dX7_isWilling_50 rfl (lv_at hl 1 rfl) ?_
        refine lv_iload_n hx hb dX7_isWilling_51 rfl (lv_at hl 2 rfl) ?_
        obtain ⟨r_3, hc52, h⟩ := bd1_s h
        refine x_selfVi (As := [.int p0]) (rest := []) St0_ok S (c_X7_isDead l D cI cS o hc52) yf_X7_isDead wd10_15 ⟨Nat.le_of_ble_eq_true rfl, Nat.le_of_ble_eq_true rfl⟩ hK hSt hA hP hD hS 0 rfl rfl rfl hl.1 rfl (Nat.le_of_ble_eq_true rfl) dX7_isWilling_52 (Nat.zero_le _) (Nat.zero_le _) (fun H locs hP hD hS => ?_)
        refine x_if_ne (tgt := 62) hx hb h dX7_isWilling_55 (by decide) (fun c55 h => ?_) (fun c55 h => ?_)
        · refine lv_iconst (v := 0) hx hb dX7_isWilling_62 (by decide) ?_
          cases h
          exact x_zret hx hb hr hlocks hK hP hD hS rfl rfl (Or.inl rfl) dX7_isWilling_63
        · refine lv_iconst (v := 1) hx hb dX7_isWilling_58 (by decide) ?_
          refine lv_goto (tgt := 63) hx hb dX7_isWilling_59 (by decide) ?_
          cases h
          exact x_zret hx hb hr hlocks hK hP hD hS rfl rfl (Or.inr rfl) dX7_isWilling_63
      · refine lv_aload_n hx hb dX7_isWilling_31 rfl (lv_at hl 1 rfl) ?_
        refine lv_iload_n hx hb dX7_isWilling_32 rfl (lv_at hl 2 rfl) ?_
        refine lv_iconst (v := 5) hx hb dX7_isWilling_33 (by decide) ?_
        obtain ⟨r_4, hc34, h⟩ := bd1_s h
        refine x_selfVi (As := [.int p0, .int 5]) (rest := []) St0_ok S (c_X7_of l D cI cS o hc34) yf_X7_of wd10_11 ⟨Nat.le_of_ble_eq_true rfl, Nat.le_of_ble_eq_true rfl⟩ hK hSt hA hP hD hS 0 rfl rfl rfl hl.1 rfl (Nat.le_of_ble_eq_true rfl) dX7_isWilling_34 (Nat.zero_le _) (Nat.zero_le _) (fun H locs hP hD hS => ?_)
        refine lv_bipush (v := 30) hx hb dX7_isWilling_37 (by decide) ?_
        refine x_icmp_lt (tgt := 46) hx hb h dX7_isWilling_39 (by decide) (fun c39 h => ?_) (fun c39 h => ?_)
        · refine lv_iconst (v := 0) hx hb dX7_isWilling_46 (by decide) ?_
          refine lv_goto (tgt := 63) hx hb dX7_isWilling_47 (by decide) ?_
          cases h
          exact x_zret hx hb hr hlocks hK hP hD hS rfl rfl (Or.inl rfl) dX7_isWilling_63
        · refine lv_iconst (v := 1) hx hb dX7_isWilling_42 (by decide) ?_
          refine lv_goto (tgt := 63) hx hb dX7_isWilling_43 (by decide) ?_
          cases h
          exact x_zret hx hb hr hlocks hK hP hD hS rfl rfl (Or.inr rfl) dX7_isWilling_63
  obtain ⟨J21, eJ21, h⟩ := jnA_s h
  have wJ21 : J21  = some (r_out) → ∀ (H : Heap) (locs : List Loc), va_P D vwCl (pcX7 o cI v_d v_kept v_images v_found v_aside v_base v_at v_size v_fault v_opened v_isCold v_names v_code v_coded v_pile v_horn v_brass v_coldAhead v_which v_whichMany v_bestPass v_bestLive v_bestCode v_traced v_traceMany v_who v_bitsOf v_sizeOf v_number v_lifted) H → va_D A (pcX7 o cI v_d v_kept v_images v_found v_aside v_base v_at v_size v_fault v_opened v_isCold v_names v_code v_coded v_pile v_horn v_brass v_coldAhead v_which v_whichMany v_bestPass v_bestLive v_bestCode v_traced v_traceMany v_who v_bitsOf v_sizeOf v_number v_lifted) → va_S A s.heap H locs → ∀ ls : Array Slot, lv_has ls 4 [(0, .ref (o 0)), (1, .int p0)] → WI p l e 2 43 s m args below meth c D (tysX cI cS) A r_out (pcX7 o cI v_d v_kept v_images v_found v_aside v_base v_at v_size v_fault v_opened v_isCold v_names v_code v_coded v_pile v_horn v_brass v_coldAhead v_which v_whichMany v_bestPass v_bestLive v_bestCode v_traced v_traceMany v_who v_bitsOf v_sizeOf v_number v_lifted) H locs (F0 m 21 ls []) := by
      intro h H locs hP hD hS ls hl
      subst eJ21
      refine lv_iconst (v := 1) hx hb dX7_isWilling_21 (by decide) ?_
      refine lv_goto (tgt := 26) hx hb dX7_isWilling_22 (by decide) ?_
      exact wJ26 1 h _ _ hP hD hS _ (lv_sub hl [0, 1] rfl)
  refine x_if_eq (tgt := 21) hx hb h dX7_isWilling_8 (by decide) (fun c8 h => ?_) (fun c8 h => ?_)
  · exact wJ21 h _ _ hP hD hS _ (lv_sub hl [1, 2] rfl)
  · refine lv_iload_n hx hb dX7_isWilling_11 rfl (lv_at hl 0 rfl) ?_
    refine lv_iconst (v := 1) hx hb dX7_isWilling_12 (by decide) ?_
    refine x_icmp_eq (tgt := 21) hx hb h dX7_isWilling_13 (by decide) (fun c13 h => ?_) (fun c13 h => ?_)
    · exact wJ21 h _ _ hP hD hS _ (lv_sub hl [1, 2] rfl)
    · refine lv_iload_n hx hb dX7_isWilling_16 rfl (lv_at hl 0 rfl) ?_
      refine lv_iconst (v := 4) hx hb dX7_isWilling_17 (by decide) ?_
      refine x_icmp_ne (tgt := 25) hx hb h dX7_isWilling_18 (by decide) (fun c18 h => ?_) (fun c18 h => ?_)
      · refine lv_iconst (v := 0) hx hb dX7_isWilling_25 (by decide) ?_
        exact wJ26 0 h _ _ hP hD hS _ (lv_sub hl [1, 2] rfl)
      · exact wJ21 h _ _ hP hD hS _ (lv_sub hl [1, 2] rfl)

def f_X7_cutsOne  (v_d : Nat → Int32) (v_horn : Int32) (v_brass : Int32) (p0 : Int32) (p1 : Int32) : Option ((Int32) × (Int32)) :=
  bd1 (f_X7_of v_d p0 2) (fun r_1 => jnA (fun (t0_2 : Int32) => bd1 (f_X7_of v_d p0 3) (fun r_3 => jnA (fun (t0_4 : Int32) => jnA (fun (t0_5 : Int32) => jnA (fun (t0_6 : Int32) => nmA (v_brass + t0_6) (fun v_brass_7 => jnA (fun (t0_8 : Int32) => nmA (v_horn + t0_8) (fun v_horn_9 => some (v_horn_9, v_brass_7))) (fun J97 => jnA (J97 0) (fun J96 => (if t0_5 = 0 then (if t0_2 = 0 then J96 else J97 1) else J96))))) (fun J74 => (if t0_5 = 0 then J74 0 else J74 1))) (fun J57 => jnA (J57 0) (fun J56 => (if t0_4 = 0 then J56 else jnA (J57 1) (fun J52 => (if p1 = 0 then (if t0_2 = 0 then J52 else J56) else J52)))))) (fun J37 => (if r_3 ≤ v_brass then J37 0 else J37 1)))) (fun J18 => (if r_1 ≤ v_horn then J18 0 else J18 1)))
set_option maxHeartbeats 600000 in
set_option maxRecDepth 100000 in
theorem c_X7_cutsOne (l : Launch) (D : va_G) (cI cS : ClassId) (o : Nat → Nat) {v_d : Nat → Int32} {v_kept : Nat → Int32} {v_images : Int32} {v_found : Nat → Int32} {v_aside : Nat → Int32} {v_base : Int32} {v_at : Int32} {v_size : Int32} {v_fault : Int32} {v_opened : Int32} {v_isCold : Int32} {v_names : Nat → Int32} {v_code : Nat → Int32} {v_coded : Int32} {v_pile : Nat → Int32} {v_horn : Int32} {v_brass : Int32} {v_coldAhead : Nat → Int32} {v_which : Nat → Int32} {v_whichMany : Int32} {v_bestPass : Int32} {v_bestLive : Int32} {v_bestCode : Int32} {v_traced : Nat → Int32} {v_traceMany : Int32} {v_who : Int32} {v_bitsOf : Nat → Int32} {v_sizeOf : Nat → Int32} {v_number : Nat → Int32} {v_lifted : Nat → Int32} {p0 : Int32} {p1 : Int32} {w_horn : Int32} {w_brass : Int32} (h : f_X7_cutsOne  v_d v_horn v_brass p0 p1 = some (w_horn, w_brass)) : MetV l D (tysX cI cS) St0 yX7_cutsOne cX7_cutsOne 6 none 1 22 [.ref (o 0), .int p0, .int p1] (pcX7 o cI v_d v_kept v_images v_found v_aside v_base v_at v_size v_fault v_opened v_isCold v_names v_code v_coded v_pile v_horn v_brass v_coldAhead v_which v_whichMany v_bestPass v_bestLive v_bestCode v_traced v_traceMany v_who v_bitsOf v_sizeOf v_number v_lifted) (pcX7 o cI v_d v_kept v_images v_found v_aside v_base v_at v_size v_fault v_opened v_isCold v_names v_code v_coded v_pile w_horn w_brass v_coldAhead v_which v_whichMany v_bestPass v_bestLive v_bestCode v_traced v_traceMany v_who v_bitsOf v_sizeOf v_number v_lifted) := by
  refine Ent.metV (by decide +kernel) (Nat.le_of_ble_eq_true rfl) ?_
  intro p e s m args below meth c A ls hx hb hr hml hown hts hlocks hA hK hSt hP hD hS hl
  have hown : s.vm.findClass RX7 = some m.cls := hown
  have S : XFix p m c cX7_cutsOne 6 s args RX7 := ⟨hx, hb, hml, hown, hts⟩
  have hl : lv_has ls 6 [(0, .ref (o 0)), (1, .int p0), (2, .int p1)] := hl
  unfold f_X7_cutsOne at h
  refine lv_aload_n hx hb dX7_cutsOne_0 rfl (lv_at hl 0 rfl) ?_
  refine lv_iload_n hx hb dX7_cutsOne_1 rfl (lv_at hl 1 rfl) ?_
  refine lv_iconst (v := 2) hx hb dX7_cutsOne_2 (by decide) ?_
  obtain ⟨r_1, hc3, h⟩ := bd1_s h
  refine x_selfVi (As := [.int p0, .int 2]) (rest := []) St0_ok S (c_X7_of l D cI cS o hc3) yf_X7_of wd10_11 ⟨Nat.le_of_ble_eq_true rfl, Nat.le_of_ble_eq_true rfl⟩ hK hSt hA hP hD hS 0 rfl rfl rfl hl.1 rfl (Nat.le_of_ble_eq_true rfl) dX7_cutsOne_3 (Nat.zero_le _) (Nat.zero_le _) (fun H locs hP hD hS => ?_)
  refine lv_aload_n hx hb dX7_cutsOne_6 rfl (lv_at hl 0 rfl) ?_
  refine gt_X7_156 S hK hP 0 rfl rfl dX7_cutsOne_7 ?_
  obtain ⟨J18, eJ18, h⟩ := jnA_s h
  have wJ18 : ∀ (t0_2 : Int32), J18 t0_2 = some (w_horn, w_brass) → ∀ (H : Heap) (locs : List Loc), va_P D vwCl (pcX7 o cI v_d v_kept v_images v_found v_aside v_base v_at v_size v_fault v_opened v_isCold v_names v_code v_coded v_pile v_horn v_brass v_coldAhead v_which v_whichMany v_bestPass v_bestLive v_bestCode v_traced v_traceMany v_who v_bitsOf v_sizeOf v_number v_lifted) H → va_D A (pcX7 o cI v_d v_kept v_images v_found v_aside v_base v_at v_size v_fault v_opened v_isCold v_names v_code v_coded v_pile v_horn v_brass v_coldAhead v_which v_whichMany v_bestPass v_bestLive v_bestCode v_traced v_traceMany v_who v_bitsOf v_sizeOf v_number v_lifted) → va_S A s.heap H locs → ∀ ls : Array Slot, lv_has ls 6 [(0, .ref (o 0)), (1, .int p0), (2, .int p1)] → WV p l e 1 22 s m args below meth c D (tysX cI cS) A (pcX7 o cI v_d v_kept v_images v_found v_aside v_base v_at v_size v_fault v_opened v_isCold v_names v_code v_coded v_pile w_horn w_brass v_coldAhead v_which v_whichMany v_bestPass v_bestLive v_bestCode v_traced v_traceMany v_who v_bitsOf v_sizeOf v_number v_lifted) H locs (F0 m 18 ls [.int t0_2]) := by
      intro t0_2 h H locs hP hD hS ls hl
      subst eJ18
      dsimp only at h
      refine lv_istore_n (lv' := [(3, .int t0_2), (0, .ref (o 0)), (1, .int p0), (2, .int p1)]) hx hb dX7_cutsOne_18 rfl hl (by decide) rfl (fun ls hl => ?_)
      refine lv_aload_n hx hb dX7_cutsOne_19 rfl (lv_at hl 1 rfl) ?_
      refine lv_iload_n hx hb dX7_cutsOne_20 rfl (lv_at hl 2 rfl) ?_
      refine lv_iconst (v := 3) hx hb dX7_cutsOne_21 (by decide) ?_
      obtain ⟨r_3, hc22, h⟩ := bd1_s h
      refine x_selfVi (As := [.int p0, .int 3]) (rest := []) St0_ok S (c_X7_of l D cI cS o hc22) yf_X7_of wd10_11 ⟨Nat.le_of_ble_eq_true rfl, Nat.le_of_ble_eq_true rfl⟩ hK hSt hA hP hD hS 0 rfl rfl rfl hl.1 rfl (Nat.le_of_ble_eq_true rfl) dX7_cutsOne_22 (Nat.zero_le _) (Nat.zero_le _) (fun H locs hP hD hS => ?_)
      refine lv_aload_n hx hb dX7_cutsOne_25 rfl (lv_at hl 1 rfl) ?_
      refine gt_X7_159 S hK hP 0 rfl rfl dX7_cutsOne_26 ?_
      obtain ⟨J37, eJ37, h⟩ := jnA_s h
      have wJ37 : ∀ (t0_4 : Int32), J37 t0_4 = some (w_horn, w_brass) → ∀ (H : Heap) (locs : List Loc), va_P D vwCl (pcX7 o cI v_d v_kept v_images v_found v_aside v_base v_at v_size v_fault v_opened v_isCold v_names v_code v_coded v_pile v_horn v_brass v_coldAhead v_which v_whichMany v_bestPass v_bestLive v_bestCode v_traced v_traceMany v_who v_bitsOf v_sizeOf v_number v_lifted) H → va_D A (pcX7 o cI v_d v_kept v_images v_found v_aside v_base v_at v_size v_fault v_opened v_isCold v_names v_code v_coded v_pile v_horn v_brass v_coldAhead v_which v_whichMany v_bestPass v_bestLive v_bestCode v_traced v_traceMany v_who v_bitsOf v_sizeOf v_number v_lifted) → va_S A s.heap H locs → ∀ ls : Array Slot, lv_has ls 6 [(0, .ref (o 0)), (2, .int p1), (3, .int t0_2)] → WV p l e 1 22 s m args below meth c D (tysX cI cS) A (pcX7 o cI v_d v_kept v_images v_found v_aside v_base v_at v_size v_fault v_opened v_isCold v_names v_code v_coded v_pile w_horn w_brass v_coldAhead v_which v_whichMany v_bestPass v_bestLive v_bestCode v_traced v_traceMany v_who v_bitsOf v_sizeOf v_number v_lifted) H locs (F0 m 37 ls [.int t0_4]) := by
          intro t0_4 h H locs hP hD hS ls hl
          subst eJ37
          dsimp only at h
          refine lv_istore (lv' := [(4, .int t0_4), (0, .ref (o 0)), (2, .int p1), (3, .int t0_2)]) hx hb dX7_cutsOne_37 hl (by decide) rfl (fun ls hl => ?_)
          refine lv_iload hx hb dX7_cutsOne_39 (lv_at hl 0 rfl) ?_
          obtain ⟨J57, eJ57, h⟩ := jnA_s h
          have wJ57 : ∀ (t0_5 : Int32), J57 t0_5 = some (w_horn, w_brass) → ∀ (H : Heap) (locs : List Loc), va_P D vwCl (pcX7 o cI v_d v_kept v_images v_found v_aside v_base v_at v_size v_fault v_opened v_isCold v_names v_code v_coded v_pile v_horn v_brass v_coldAhead v_which v_whichMany v_bestPass v_bestLive v_bestCode v_traced v_traceMany v_who v_bitsOf v_sizeOf v_number v_lifted) H → va_D A (pcX7 o cI v_d v_kept v_images v_found v_aside v_base v_at v_size v_fault v_opened v_isCold v_names v_code v_coded v_pile v_horn v_brass v_coldAhead v_which v_whichMany v_bestPass v_bestLive v_bestCode v_traced v_traceMany v_who v_bitsOf v_sizeOf v_number v_lifted) → va_S A s.heap H locs → ∀ ls : Array Slot, lv_has ls 6 [(0, .ref (o 0)), (3, .int t0_2)] → WV p l e 1 22 s m args below meth c D (tysX cI cS) A (pcX7 o cI v_d v_kept v_images v_found v_aside v_base v_at v_size v_fault v_opened v_isCold v_names v_code v_coded v_pile w_horn w_brass v_coldAhead v_which v_whichMany v_bestPass v_bestLive v_bestCode v_traced v_traceMany v_who v_bitsOf v_sizeOf v_number v_lifted) H locs (F0 m 57 ls [.int t0_5]) := by
              intro t0_5 h H locs hP hD hS ls hl
              subst eJ57
              dsimp only at h
              refine lv_istore (lv' := [(5, .int t0_5), (0, .ref (o 0)), (3, .int t0_2)]) hx hb dX7_cutsOne_57 hl (by decide) rfl (fun ls hl => ?_)
              refine lv_aload_n hx hb dX7_cutsOne_59 rfl (lv_at hl 1 rfl) ?_
              refine lv_dup hx hb dX7_cutsOne_60 rfl ?_
              refine gt_X7_159 S hK hP 0 rfl rfl dX7_cutsOne_61 ?_
              refine lv_iload hx hb dX7_cutsOne_64 (lv_at hl 0 rfl) ?_
              obtain ⟨J74, eJ74, h⟩ := jnA_s h
              have wJ74 : ∀ (t0_6 : Int32), J74 t0_6 = some (w_horn, w_brass) → ∀ (H : Heap) (locs : List Loc), va_P D vwCl (pcX7 o cI v_d v_kept v_images v_found v_aside v_base v_at v_size v_fault v_opened v_isCold v_names v_code v_coded v_pile v_horn v_brass v_coldAhead v_which v_whichMany v_bestPass v_bestLive v_bestCode v_traced v_traceMany v_who v_bitsOf v_sizeOf v_number v_lifted) H → va_D A (pcX7 o cI v_d v_kept v_images v_found v_aside v_base v_at v_size v_fault v_opened v_isCold v_names v_code v_coded v_pile v_horn v_brass v_coldAhead v_which v_whichMany v_bestPass v_bestLive v_bestCode v_traced v_traceMany v_who v_bitsOf v_sizeOf v_number v_lifted) → va_S A s.heap H locs → ∀ ls : Array Slot, lv_has ls 6 [(0, .ref (o 0)), (3, .int t0_2), (5, .int t0_5)] → WV p l e 1 22 s m args below meth c D (tysX cI cS) A (pcX7 o cI v_d v_kept v_images v_found v_aside v_base v_at v_size v_fault v_opened v_isCold v_names v_code v_coded v_pile w_horn w_brass v_coldAhead v_which v_whichMany v_bestPass v_bestLive v_bestCode v_traced v_traceMany v_who v_bitsOf v_sizeOf v_number v_lifted) H locs (F0 m 74 ls [.int t0_6, .int v_brass, .ref (o 0)]) := by
                  intro t0_6 h H locs hP hD hS ls hl
                  subst eJ74
                  dsimp only at h
                  refine lv_iadd hx hb dX7_cutsOne_74 ?_
                  refine x_nm h (fun v_brass_7 ev_brass_7 h => ?_)
                  refine pt_X7_159 S hK hP hD hS 0 rfl (Nat.le_of_ble_eq_true rfl) dX7_cutsOne_75 (fun H locs hP hD hS => ?_)
                  have hP : va_P D vwCl (pcX7 o cI v_d v_kept v_images v_found v_aside v_base v_at v_size v_fault v_opened v_isCold v_names v_code v_coded v_pile v_horn v_brass_7 v_coldAhead v_which v_whichMany v_bestPass v_bestLive v_bestCode v_traced v_traceMany v_who v_bitsOf v_sizeOf v_number v_lifted) H := hP
                  have hD : va_D A (pcX7 o cI v_d v_kept v_images v_found v_aside v_base v_at v_size v_fault v_opened v_isCold v_names v_code v_coded v_pile v_horn v_brass_7 v_coldAhead v_which v_whichMany v_bestPass v_bestLive v_bestCode v_traced v_traceMany v_who v_bitsOf v_sizeOf v_number v_lifted) := hD
                  refine lv_aload_n hx hb dX7_cutsOne_78 rfl (lv_at hl 0 rfl) ?_
                  refine lv_dup hx hb dX7_cutsOne_79 rfl ?_
                  refine gt_X7_156 S hK hP 0 rfl rfl dX7_cutsOne_80 ?_
                  refine lv_iload hx hb dX7_cutsOne_83 (lv_at hl 2 rfl) ?_
                  obtain ⟨J97, eJ97, h⟩ := jnA_s h
                  have wJ97 : ∀ (t0_8 : Int32), J97 t0_8 = some (w_horn, w_brass) → ∀ (H : Heap) (locs : List Loc), va_P D vwCl (pcX7 o cI v_d v_kept v_images v_found v_aside v_base v_at v_size v_fault v_opened v_isCold v_names v_code v_coded v_pile v_horn v_brass_7 v_coldAhead v_which v_whichMany v_bestPass v_bestLive v_bestCode v_traced v_traceMany v_who v_bitsOf v_sizeOf v_number v_lifted) H → va_D A (pcX7 o cI v_d v_kept v_images v_found v_aside v_base v_at v_size v_fault v_opened v_isCold v_names v_code v_coded v_pile v_horn v_brass_7 v_coldAhead v_which v_whichMany v_bestPass v_bestLive v_bestCode v_traced v_traceMany v_who v_bitsOf v_sizeOf v_number v_lifted) → va_S A s.heap H locs → ∀ ls : Array Slot, lv_has ls 6 [] → WV p l e 1 22 s m args below meth c D (tysX cI cS) A (pcX7 o cI v_d v_kept v_images v_found v_aside v_base v_at v_size v_fault v_opened v_isCold v_names v_code v_coded v_pile w_horn w_brass v_coldAhead v_which v_whichMany v_bestPass v_bestLive v_bestCode v_traced v_traceMany v_who v_bitsOf v_sizeOf v_number v_lifted) H locs (F0 m 97 ls [.int t0_8, .int v_horn, .ref (o 0)]) := by
                      intro t0_8 h H locs hP hD hS ls hl
                      subst eJ97
                      dsimp only at h
                      refine lv_iadd hx hb dX7_cutsOne_97 ?_
                      refine x_nm h (fun v_horn_9 ev_horn_9 h => ?_)
                      refine pt_X7_156 S hK hP hD hS 0 rfl (Nat.le_of_ble_eq_true rfl) dX7_cutsOne_98 (fun H locs hP hD hS => ?_)
                      have hP : va_P D vwCl (pcX7 o cI v_d v_kept v_images v_found v_aside v_base v_at v_size v_fault v_opened v_isCold v_names v_code v_coded v_pile v_horn_9 v_brass_7 v_coldAhead v_which v_whichMany v_bestPass v_bestLive v_bestCode v_traced v_traceMany v_who v_bitsOf v_sizeOf v_number v_lifted) H := hP
                      have hD : va_D A (pcX7 o cI v_d v_kept v_images v_found v_aside v_base v_at v_size v_fault v_opened v_isCold v_names v_code v_coded v_pile v_horn_9 v_brass_7 v_coldAhead v_which v_whichMany v_bestPass v_bestLive v_bestCode v_traced v_traceMany v_who v_bitsOf v_sizeOf v_number v_lifted) := hD
                      cases h
                      exact x_vret hx hb hr hlocks hK hP hD hS rfl dX7_cutsOne_101
                  obtain ⟨J96, eJ96, h⟩ := jnA_s h
                  have wJ96 : J96  = some (w_horn, w_brass) → ∀ (H : Heap) (locs : List Loc), va_P D vwCl (pcX7 o cI v_d v_kept v_images v_found v_aside v_base v_at v_size v_fault v_opened v_isCold v_names v_code v_coded v_pile v_horn v_brass_7 v_coldAhead v_which v_whichMany v_bestPass v_bestLive v_bestCode v_traced v_traceMany v_who v_bitsOf v_sizeOf v_number v_lifted) H → va_D A (pcX7 o cI v_d v_kept v_images v_found v_aside v_base v_at v_size v_fault v_opened v_isCold v_names v_code v_coded v_pile v_horn v_brass_7 v_coldAhead v_which v_whichMany v_bestPass v_bestLive v_bestCode v_traced v_traceMany v_who v_bitsOf v_sizeOf v_number v_lifted) → va_S A s.heap H locs → ∀ ls : Array Slot, lv_has ls 6 [] → WV p l e 1 22 s m args below meth c D (tysX cI cS) A (pcX7 o cI v_d v_kept v_images v_found v_aside v_base v_at v_size v_fault v_opened v_isCold v_names v_code v_coded v_pile w_horn w_brass v_coldAhead v_which v_whichMany v_bestPass v_bestLive v_bestCode v_traced v_traceMany v_who v_bitsOf v_sizeOf v_number v_lifted) H locs (F0 m 96 ls [.int v_horn, .ref (o 0)]) := by
                      intro h H locs hP hD hS ls hl
                      subst eJ96
                      refine lv_iconst (v := 0) hx hb dX7_cutsOne_96 (by decide) ?_
                      exact wJ97 0 h _ _ hP hD hS _ (lv_sub hl [] rfl)
                  refine x_if_ne (tgt := 96) hx hb h dX7_cutsOne_85 (by decide) (fun c85 h => ?_) (fun c85 h => ?_)
                  · exact wJ96 h _ _ hP hD hS _ (lv_sub hl [] rfl)
                  · refine lv_iload_n hx hb dX7_cutsOne_88 rfl (lv_at hl 1 rfl) ?_
                    refine x_if_eq (tgt := 96) hx hb h dX7_cutsOne_89 (by decide) (fun c89 h => ?_) (fun c89 h => ?_)
                    · exact wJ96 h _ _ hP hD hS _ (lv_sub hl [] rfl)
                    · refine lv_iconst (v := 1) hx hb dX7_cutsOne_92 (by decide) ?_
                      refine lv_goto (tgt := 97) hx hb dX7_cutsOne_93 (by decide) ?_
                      exact wJ97 1 h _ _ hP hD hS _ (lv_sub hl [] rfl)
              refine x_if_eq (tgt := 73) hx hb h dX7_cutsOne_66 (by decide) (fun c66 h => ?_) (fun c66 h => ?_)
              · refine lv_iconst (v := 0) hx hb dX7_cutsOne_73 (by decide) ?_
                exact wJ74 0 h _ _ hP hD hS _ (lv_sub hl [1, 2, 0] rfl)
              · refine lv_iconst (v := 1) hx hb dX7_cutsOne_69 (by decide) ?_
                refine lv_goto (tgt := 74) hx hb dX7_cutsOne_70 (by decide) ?_
                exact wJ74 1 h _ _ hP hD hS _ (lv_sub hl [1, 2, 0] rfl)
          obtain ⟨J56, eJ56, h⟩ := jnA_s h
          have wJ56 : J56  = some (w_horn, w_brass) → ∀ (H : Heap) (locs : List Loc), va_P D vwCl (pcX7 o cI v_d v_kept v_images v_found v_aside v_base v_at v_size v_fault v_opened v_isCold v_names v_code v_coded v_pile v_horn v_brass v_coldAhead v_which v_whichMany v_bestPass v_bestLive v_bestCode v_traced v_traceMany v_who v_bitsOf v_sizeOf v_number v_lifted) H → va_D A (pcX7 o cI v_d v_kept v_images v_found v_aside v_base v_at v_size v_fault v_opened v_isCold v_names v_code v_coded v_pile v_horn v_brass v_coldAhead v_which v_whichMany v_bestPass v_bestLive v_bestCode v_traced v_traceMany v_who v_bitsOf v_sizeOf v_number v_lifted) → va_S A s.heap H locs → ∀ ls : Array Slot, lv_has ls 6 [(0, .ref (o 0)), (3, .int t0_2)] → WV p l e 1 22 s m args below meth c D (tysX cI cS) A (pcX7 o cI v_d v_kept v_images v_found v_aside v_base v_at v_size v_fault v_opened v_isCold v_names v_code v_coded v_pile w_horn w_brass v_coldAhead v_which v_whichMany v_bestPass v_bestLive v_bestCode v_traced v_traceMany v_who v_bitsOf v_sizeOf v_number v_lifted) H locs (F0 m 56 ls []) := by
              intro h H locs hP hD hS ls hl
              subst eJ56
              refine lv_iconst (v := 0) hx hb dX7_cutsOne_56 (by decide) ?_
              exact wJ57 0 h _ _ hP hD hS _ (lv_sub hl [0, 1] rfl)
          refine x_if_eq (tgt := 56) hx hb h dX7_cutsOne_41 (by decide) (fun c41 h => ?_) (fun c41 h => ?_)
          · exact wJ56 h _ _ hP hD hS _ (lv_sub hl [1, 3] rfl)
          · refine lv_iload_n hx hb dX7_cutsOne_44 rfl (lv_at hl 2 rfl) ?_
            obtain ⟨J52, eJ52, h⟩ := jnA_s h
            have wJ52 : J52  = some (w_horn, w_brass) → ∀ (H : Heap) (locs : List Loc), va_P D vwCl (pcX7 o cI v_d v_kept v_images v_found v_aside v_base v_at v_size v_fault v_opened v_isCold v_names v_code v_coded v_pile v_horn v_brass v_coldAhead v_which v_whichMany v_bestPass v_bestLive v_bestCode v_traced v_traceMany v_who v_bitsOf v_sizeOf v_number v_lifted) H → va_D A (pcX7 o cI v_d v_kept v_images v_found v_aside v_base v_at v_size v_fault v_opened v_isCold v_names v_code v_coded v_pile v_horn v_brass v_coldAhead v_which v_whichMany v_bestPass v_bestLive v_bestCode v_traced v_traceMany v_who v_bitsOf v_sizeOf v_number v_lifted) → va_S A s.heap H locs → ∀ ls : Array Slot, lv_has ls 6 [(0, .ref (o 0)), (3, .int t0_2)] → WV p l e 1 22 s m args below meth c D (tysX cI cS) A (pcX7 o cI v_d v_kept v_images v_found v_aside v_base v_at v_size v_fault v_opened v_isCold v_names v_code v_coded v_pile w_horn w_brass v_coldAhead v_which v_whichMany v_bestPass v_bestLive v_bestCode v_traced v_traceMany v_who v_bitsOf v_sizeOf v_number v_lifted) H locs (F0 m 52 ls []) := by
                intro h H locs hP hD hS ls hl
                subst eJ52
                refine lv_iconst (v := 1) hx hb dX7_cutsOne_52 (by decide) ?_
                refine lv_goto (tgt := 57) hx hb dX7_cutsOne_53 (by decide) ?_
                exact wJ57 1 h _ _ hP hD hS _ (lv_sub hl [0, 1] rfl)
            refine x_if_ne (tgt := 52) hx hb h dX7_cutsOne_45 (by decide) (fun c45 h => ?_) (fun c45 h => ?_)
            · exact wJ52 h _ _ hP hD hS _ (lv_sub hl [1, 3] rfl)
            · refine lv_iload_n hx hb dX7_cutsOne_48 rfl (lv_at hl 3 rfl) ?_
              refine x_if_ne (tgt := 56) hx hb h dX7_cutsOne_49 (by decide) (fun c49 h => ?_) (fun c49 h => ?_)
              · exact wJ56 h _ _ hP hD hS _ (lv_sub hl [1, 3] rfl)
              · exact wJ52 h _ _ hP hD hS _ (lv_sub hl [1, 3] rfl)
      refine x_icmp_le (tgt := 36) hx hb h dX7_cutsOne_29 (by decide) (fun c29 h => ?_) (fun c29 h => ?_)
      · refine lv_iconst (v := 0) hx hb dX7_cutsOne_36 (by decide) ?_
        exact wJ37 0 h _ _ hP hD hS _ (lv_sub hl [1, 3, 0] rfl)
      · refine lv_iconst (v := 1) hx hb dX7_cutsOne_32 (by decide) ?_
        refine lv_goto (tgt := 37) hx hb dX7_cutsOne_33 (by decide) ?_
        exact wJ37 1 h _ _ hP hD hS _ (lv_sub hl [1, 3, 0] rfl)
  refine x_icmp_le (tgt := 17) hx hb h dX7_cutsOne_10 (by decide) (fun c10 h => ?_) (fun c10 h => ?_)
  · refine lv_iconst (v := 0) hx hb dX7_cutsOne_17 (by decide) ?_
    exact wJ18 0 h _ _ hP hD hS _ (lv_sub hl [0, 1, 2] rfl)
  · refine lv_iconst (v := 1) hx hb dX7_cutsOne_13 (by decide) ?_
    refine lv_goto (tgt := 18) hx hb dX7_cutsOne_14 (by decide) ?_
    exact wJ18 1 h _ _ hP hD hS _ (lv_sub hl [0, 1, 2] rfl)

def f_X7_cuts  (v_d : Nat → Int32) (v_horn : Int32) (v_brass : Int32) (p0 : Int32) : Option ((Int32) × (Int32)) :=
  bd1 (f_X7_of v_d p0 0) (fun r_1 => bd1 (f_X7_isWilling v_d p0) (fun r_2 => (if r_2 = 0 then some (0, 0) else (if r_1 = 2 then some (0, 0) else (if r_1 = 5 then some (0, 0) else jnA (fun (t0_3 : Int32) => bd2 (f_X7_cutsOne v_d 0 0 p0 t0_3) (fun v_horn_4 v_brass_5 => (if r_1 = 6 then bd2 (f_X7_cutsOne v_d v_horn_4 v_brass_5 p0 1) (fun v_horn_6 v_brass_7 => some (v_horn_6, v_brass_7)) else some (v_horn_4, v_brass_5)))) (fun J54 => jnA (J54 1) (fun J49 => (if r_1 = 3 then J49 else (if r_1 = 6 then J49 else J54 0)))))))))
set_option maxHeartbeats 600000 in
set_option maxRecDepth 100000 in
theorem c_X7_cuts (l : Launch) (D : va_G) (cI cS : ClassId) (o : Nat → Nat) {v_d : Nat → Int32} {v_kept : Nat → Int32} {v_images : Int32} {v_found : Nat → Int32} {v_aside : Nat → Int32} {v_base : Int32} {v_at : Int32} {v_size : Int32} {v_fault : Int32} {v_opened : Int32} {v_isCold : Int32} {v_names : Nat → Int32} {v_code : Nat → Int32} {v_coded : Int32} {v_pile : Nat → Int32} {v_horn : Int32} {v_brass : Int32} {v_coldAhead : Nat → Int32} {v_which : Nat → Int32} {v_whichMany : Int32} {v_bestPass : Int32} {v_bestLive : Int32} {v_bestCode : Int32} {v_traced : Nat → Int32} {v_traceMany : Int32} {v_who : Int32} {v_bitsOf : Nat → Int32} {v_sizeOf : Nat → Int32} {v_number : Nat → Int32} {v_lifted : Nat → Int32} {p0 : Int32} {w_horn : Int32} {w_brass : Int32} (h : f_X7_cuts  v_d v_horn v_brass p0 = some (w_horn, w_brass)) : MetV l D (tysX cI cS) St0 yX7_cuts cX7_cuts 3 none 3 66 [.ref (o 0), .int p0] (pcX7 o cI v_d v_kept v_images v_found v_aside v_base v_at v_size v_fault v_opened v_isCold v_names v_code v_coded v_pile v_horn v_brass v_coldAhead v_which v_whichMany v_bestPass v_bestLive v_bestCode v_traced v_traceMany v_who v_bitsOf v_sizeOf v_number v_lifted) (pcX7 o cI v_d v_kept v_images v_found v_aside v_base v_at v_size v_fault v_opened v_isCold v_names v_code v_coded v_pile w_horn w_brass v_coldAhead v_which v_whichMany v_bestPass v_bestLive v_bestCode v_traced v_traceMany v_who v_bitsOf v_sizeOf v_number v_lifted) := by
  refine Ent.metV (by decide +kernel) (Nat.le_of_ble_eq_true rfl) ?_
  intro p e s m args below meth c A ls hx hb hr hml hown hts hlocks hA hK hSt hP hD hS hl
  have hown : s.vm.findClass RX7 = some m.cls := hown
  have S : XFix p m c cX7_cuts 3 s args RX7 := ⟨hx, hb, hml, hown, hts⟩
  have hl : lv_has ls 3 [(0, .ref (o 0)), (1, .int p0)] := hl
  unfold f_X7_cuts at h
  refine lv_aload_n hx hb dX7_cuts_0 rfl (lv_at hl 0 rfl) ?_
  refine lv_iconst (v := 0) hx hb dX7_cuts_1 (by decide) ?_
  refine pt_X7_156 S hK hP hD hS 0 rfl (Nat.le_of_ble_eq_true rfl) dX7_cuts_2 (fun H locs hP hD hS => ?_)
  have hP : va_P D vwCl (pcX7 o cI v_d v_kept v_images v_found v_aside v_base v_at v_size v_fault v_opened v_isCold v_names v_code v_coded v_pile 0 v_brass v_coldAhead v_which v_whichMany v_bestPass v_bestLive v_bestCode v_traced v_traceMany v_who v_bitsOf v_sizeOf v_number v_lifted) H := hP
  have hD : va_D A (pcX7 o cI v_d v_kept v_images v_found v_aside v_base v_at v_size v_fault v_opened v_isCold v_names v_code v_coded v_pile 0 v_brass v_coldAhead v_which v_whichMany v_bestPass v_bestLive v_bestCode v_traced v_traceMany v_who v_bitsOf v_sizeOf v_number v_lifted) := hD
  refine lv_aload_n hx hb dX7_cuts_5 rfl (lv_at hl 0 rfl) ?_
  refine lv_iconst (v := 0) hx hb dX7_cuts_6 (by decide) ?_
  refine pt_X7_159 S hK hP hD hS 0 rfl (Nat.le_of_ble_eq_true rfl) dX7_cuts_7 (fun H locs hP hD hS => ?_)
  have hP : va_P D vwCl (pcX7 o cI v_d v_kept v_images v_found v_aside v_base v_at v_size v_fault v_opened v_isCold v_names v_code v_coded v_pile 0 0 v_coldAhead v_which v_whichMany v_bestPass v_bestLive v_bestCode v_traced v_traceMany v_who v_bitsOf v_sizeOf v_number v_lifted) H := hP
  have hD : va_D A (pcX7 o cI v_d v_kept v_images v_found v_aside v_base v_at v_size v_fault v_opened v_isCold v_names v_code v_coded v_pile 0 0 v_coldAhead v_which v_whichMany v_bestPass v_bestLive v_bestCode v_traced v_traceMany v_who v_bitsOf v_sizeOf v_number v_lifted) := hD
  refine lv_aload_n hx hb dX7_cuts_10 rfl (lv_at hl 0 rfl) ?_
  refine lv_iload_n hx hb dX7_cuts_11 rfl (lv_at hl 1 rfl) ?_
  refine lv_iconst (v := 0) hx hb dX7_cuts_12 (by decide) ?_
  obtain ⟨r_1, hc13, h⟩ := bd1_s h
  refine x_selfVi (As := [.int p0, .int 0]) (rest := []) St0_ok S (c_X7_of l D cI cS o hc13) yf_X7_of wd10_11 ⟨Nat.le_of_ble_eq_true rfl, Nat.le_of_ble_eq_true rfl⟩ hK hSt hA hP hD hS 0 rfl rfl rfl hl.1 rfl (Nat.le_of_ble_eq_true rfl) dX7_cuts_13 (Nat.zero_le _) (Nat.zero_le _) (fun H locs hP hD hS => ?_)
  refine lv_istore_n (lv' := [(2, .int r_1), (0, .ref (o 0)), (1, .int p0)]) hx hb dX7_cuts_16 rfl hl (by decide) rfl (fun ls hl => ?_)
  refine lv_aload_n hx hb dX7_cuts_17 rfl (lv_at hl 1 rfl) ?_
  refine lv_iload_n hx hb dX7_cuts_18 rfl (lv_at hl 2 rfl) ?_
  obtain ⟨r_2, hc19, h⟩ := bd1_s h
  refine x_selfVi (As := [.int p0]) (rest := []) St0_ok S (c_X7_isWilling l D cI cS o hc19) yf_X7_isWilling wd10_7 ⟨Nat.le_of_ble_eq_true rfl, Nat.le_of_ble_eq_true rfl⟩ hK hSt hA hP hD hS 0 rfl rfl rfl hl.1 rfl (Nat.le_of_ble_eq_true rfl) dX7_cuts_19 (Nat.zero_le _) (Nat.zero_le _) (fun H locs hP hD hS => ?_)
  refine x_if_eq (tgt := 35) hx hb h dX7_cuts_22 (by decide) (fun c22 h => ?_) (fun c22 h => ?_)
  · cases h
    exact x_vret hx hb hr hlocks hK hP hD hS rfl dX7_cuts_35
  · refine lv_iload_n hx hb dX7_cuts_25 rfl (lv_at hl 0 rfl) ?_
    refine lv_iconst (v := 2) hx hb dX7_cuts_26 (by decide) ?_
    refine x_icmp_eq (tgt := 35) hx hb h dX7_cuts_27 (by decide) (fun c27 h => ?_) (fun c27 h => ?_)
    · cases h
      exact x_vret hx hb hr hlocks hK hP hD hS rfl dX7_cuts_35
    · refine lv_iload_n hx hb dX7_cuts_30 rfl (lv_at hl 0 rfl) ?_
      refine lv_iconst (v := 5) hx hb dX7_cuts_31 (by decide) ?_
      refine x_icmp_ne (tgt := 36) hx hb h dX7_cuts_32 (by decide) (fun c32 h => ?_) (fun c32 h => ?_)
      · refine lv_aload_n hx hb dX7_cuts_36 rfl (lv_at hl 1 rfl) ?_
        refine lv_iload_n hx hb dX7_cuts_37 rfl (lv_at hl 2 rfl) ?_
        refine lv_iload_n hx hb dX7_cuts_38 rfl (lv_at hl 0 rfl) ?_
        refine lv_iconst (v := 3) hx hb dX7_cuts_39 (by decide) ?_
        obtain ⟨J54, eJ54, h⟩ := jnA_s h
        have wJ54 : ∀ (t0_3 : Int32), J54 t0_3 = some (w_horn, w_brass) → ∀ (H : Heap) (locs : List Loc), va_P D vwCl (pcX7 o cI v_d v_kept v_images v_found v_aside v_base v_at v_size v_fault v_opened v_isCold v_names v_code v_coded v_pile 0 0 v_coldAhead v_which v_whichMany v_bestPass v_bestLive v_bestCode v_traced v_traceMany v_who v_bitsOf v_sizeOf v_number v_lifted) H → va_D A (pcX7 o cI v_d v_kept v_images v_found v_aside v_base v_at v_size v_fault v_opened v_isCold v_names v_code v_coded v_pile 0 0 v_coldAhead v_which v_whichMany v_bestPass v_bestLive v_bestCode v_traced v_traceMany v_who v_bitsOf v_sizeOf v_number v_lifted) → va_S A s.heap H locs → ∀ ls : Array Slot, lv_has ls 3 [(0, .ref (o 0)), (1, .int p0), (2, .int r_1)] → WV p l e 3 66 s m args below meth c D (tysX cI cS) A (pcX7 o cI v_d v_kept v_images v_found v_aside v_base v_at v_size v_fault v_opened v_isCold v_names v_code v_coded v_pile w_horn w_brass v_coldAhead v_which v_whichMany v_bestPass v_bestLive v_bestCode v_traced v_traceMany v_who v_bitsOf v_sizeOf v_number v_lifted) H locs (F0 m 54 ls [.int t0_3, .int p0, .ref (o 0)]) := by
            intro t0_3 h H locs hP hD hS ls hl
            subst eJ54
            dsimp only at h
            obtain ⟨v_horn_4, v_brass_5, hc54, h⟩ := bd2_s h
            refine x_selfVv (As := [.int p0, .int t0_3]) (rest := []) St0_ok S (c_X7_cutsOne l D cI cS o hc54) yf_X7_cutsOne wd10_23 ⟨Nat.le_of_ble_eq_true rfl, Nat.le_of_ble_eq_true rfl⟩ hK hSt hA hP hD hS 0 rfl rfl rfl hl.1 rfl (Nat.le_of_ble_eq_true rfl) dX7_cuts_54 (Nat.zero_le _) (Nat.zero_le _) (fun H locs hP hD hS => ?_)
            refine lv_iload_n hx hb dX7_cuts_57 rfl (lv_at hl 2 rfl) ?_
            refine lv_bipush (v := 6) hx hb dX7_cuts_58 (by decide) ?_
            refine x_icmp_ne (tgt := 69) hx hb h dX7_cuts_60 (by decide) (fun c60 h => ?_) (fun c60 h => ?_)
            · cases h
              exact x_vret hx hb hr hlocks hK hP hD hS rfl dX7_cuts_69
            · refine lv_aload_n hx hb dX7_cuts_63 rfl (lv_at hl 0 rfl) ?_
              refine lv_iload_n hx hb dX7_cuts_64 rfl (lv_at hl 1 rfl) ?_
              refine lv_iconst (v := 1) hx hb dX7_cuts_65 (by decide) ?_
              obtain ⟨v_horn_6, v_brass_7, hc66, h⟩ := bd2_s h
              refine x_selfVv (As := [.int p0, .int 1]) (rest := []) St0_ok S (c_X7_cutsOne l D cI cS o hc66) yf_X7_cutsOne wd10_23 ⟨Nat.le_of_ble_eq_true rfl, Nat.le_of_ble_eq_true rfl⟩ hK hSt hA hP hD hS 0 rfl rfl rfl hl.1 rfl (Nat.le_of_ble_eq_true rfl) dX7_cuts_66 (Nat.zero_le _) (Nat.zero_le _) (fun H locs hP hD hS => ?_)
              cases h
              exact x_vret hx hb hr hlocks hK hP hD hS rfl dX7_cuts_69
        obtain ⟨J49, eJ49, h⟩ := jnA_s h
        have wJ49 : J49  = some (w_horn, w_brass) → ∀ (H : Heap) (locs : List Loc), va_P D vwCl (pcX7 o cI v_d v_kept v_images v_found v_aside v_base v_at v_size v_fault v_opened v_isCold v_names v_code v_coded v_pile 0 0 v_coldAhead v_which v_whichMany v_bestPass v_bestLive v_bestCode v_traced v_traceMany v_who v_bitsOf v_sizeOf v_number v_lifted) H → va_D A (pcX7 o cI v_d v_kept v_images v_found v_aside v_base v_at v_size v_fault v_opened v_isCold v_names v_code v_coded v_pile 0 0 v_coldAhead v_which v_whichMany v_bestPass v_bestLive v_bestCode v_traced v_traceMany v_who v_bitsOf v_sizeOf v_number v_lifted) → va_S A s.heap H locs → ∀ ls : Array Slot, lv_has ls 3 [(0, .ref (o 0)), (1, .int p0), (2, .int r_1)] → WV p l e 3 66 s m args below meth c D (tysX cI cS) A (pcX7 o cI v_d v_kept v_images v_found v_aside v_base v_at v_size v_fault v_opened v_isCold v_names v_code v_coded v_pile w_horn w_brass v_coldAhead v_which v_whichMany v_bestPass v_bestLive v_bestCode v_traced v_traceMany v_who v_bitsOf v_sizeOf v_number v_lifted) H locs (F0 m 49 ls [.int p0, .ref (o 0)]) := by
            intro h H locs hP hD hS ls hl
            subst eJ49
            refine lv_iconst (v := 1) hx hb dX7_cuts_49 (by decide) ?_
            refine lv_goto (tgt := 54) hx hb dX7_cuts_50 (by decide) ?_
            exact wJ54 1 h _ _ hP hD hS _ (lv_sub hl [0, 1, 2] rfl)
        refine x_icmp_eq (tgt := 49) hx hb h dX7_cuts_40 (by decide) (fun c40 h => ?_) (fun c40 h => ?_)
        · exact wJ49 h _ _ hP hD hS _ (lv_sub hl [1, 2, 0] rfl)
        · refine lv_iload_n hx hb dX7_cuts_43 rfl (lv_at hl 0 rfl) ?_
          refine lv_bipush (v := 6) hx hb dX7_cuts_44 (by decide) ?_
          refine x_icmp_ne (tgt := 53) hx hb h dX7_cuts_46 (by decide) (fun c46 h => ?_) (fun c46 h => ?_)
          · refine lv_iconst (v := 0) hx hb dX7_cuts_53 (by decide) ?_
            exact wJ54 0 h _ _ hP hD hS _ (lv_sub hl [1, 2, 0] rfl)
          · exact wJ49 h _ _ hP hD hS _ (lv_sub hl [1, 2, 0] rfl)
      · cases h
        exact x_vret hx hb hr hlocks hK hP hD hS rfl dX7_cuts_35

def f_X7_counts  (v_d : Nat → Int32) (v_horn : Int32) (v_brass : Int32) (p0 : Int32) : Option ((Int32) × (Int32) × (Int32)) :=
  bd1 (f_X7_isWilling v_d p0) (fun r_1 => (if r_1 = 0 then some (v_horn, v_brass, 0) else bd2 (f_X7_cuts v_d v_horn v_brass p0) (fun v_horn_2 v_brass_3 => bd1 (f_X7_of v_d p0 0) (fun r_4 => (if r_4 = 2 then bd1 (f_X7_of v_d p0 1) (fun r_5 => nzA 2 (some (v_horn_2, v_brass_3, (rmI r_5 2)))) else (if r_4 = 3 then some (v_horn_2, v_brass_3, (v_horn_2 + (3 * v_brass_3))) else (if r_4 = 4 then some (v_horn_2, v_brass_3, (v_horn_2 + (5 * v_brass_3))) else (if r_4 = 5 then bd1 (f_X7_of v_d p0 1) (fun r_6 => nzA 2 (bd1 (f_X7_of v_d p0 5) (fun r_7 => (if 50 ≤ r_7 then some (v_horn_2, v_brass_3, ((rmI r_6 2) + 0)) else some (v_horn_2, v_brass_3, ((rmI r_6 2) + 1)))))) else some (v_horn_2, v_brass_3, (v_horn_2 + (3 * v_brass_3)))))))))))
set_option maxHeartbeats 600000 in
set_option maxRecDepth 100000 in
theorem c_X7_counts (l : Launch) (D : va_G) (cI cS : ClassId) (o : Nat → Nat) {v_d : Nat → Int32} {v_kept : Nat → Int32} {v_images : Int32} {v_found : Nat → Int32} {v_aside : Nat → Int32} {v_base : Int32} {v_at : Int32} {v_size : Int32} {v_fault : Int32} {v_opened : Int32} {v_isCold : Int32} {v_names : Nat → Int32} {v_code : Nat → Int32} {v_coded : Int32} {v_pile : Nat → Int32} {v_horn : Int32} {v_brass : Int32} {v_coldAhead : Nat → Int32} {v_which : Nat → Int32} {v_whichMany : Int32} {v_bestPass : Int32} {v_bestLive : Int32} {v_bestCode : Int32} {v_traced : Nat → Int32} {v_traceMany : Int32} {v_who : Int32} {v_bitsOf : Nat → Int32} {v_sizeOf : Nat → Int32} {v_number : Nat → Int32} {v_lifted : Nat → Int32} {p0 : Int32} {w_horn : Int32} {w_brass : Int32} {r_out : Int32} (h : f_X7_counts  v_d v_horn v_brass p0 = some (w_horn, w_brass, r_out)) : MetI l D (tysX cI cS) St0 yX7_counts cX7_counts 2 (some .int) 4 88 [.ref (o 0), .int p0] (pcX7 o cI v_d v_kept v_images v_found v_aside v_base v_at v_size v_fault v_opened v_isCold v_names v_code v_coded v_pile v_horn v_brass v_coldAhead v_which v_whichMany v_bestPass v_bestLive v_bestCode v_traced v_traceMany v_who v_bitsOf v_sizeOf v_number v_lifted) r_out (pcX7 o cI v_d v_kept v_images v_found v_aside v_base v_at v_size v_fault v_opened v_isCold v_names v_code v_coded v_pile w_horn w_brass v_coldAhead v_which v_whichMany v_bestPass v_bestLive v_bestCode v_traced v_traceMany v_who v_bitsOf v_sizeOf v_number v_lifted) := by
  refine Ent.metI (by decide +kernel) (Nat.le_of_ble_eq_true rfl) ?_
  intro p e s m args below meth c A ls hx hb hr hml hown hts hlocks hA hK hSt hP hD hS hl
  have hown : s.vm.findClass RX7 = some m.cls := hown
  have S : XFix p m c cX7_counts 2 s args RX7 := ⟨hx, hb, hml, hown, hts⟩
  have hl : lv_has ls 2 [(0, .ref (o 0)), (1, .int p0)] := hl
  unfold f_X7_counts at h
  refine lv_aload_n hx hb dX7_counts_0 rfl (lv_at hl 0 rfl) ?_
  refine lv_iload_n hx hb dX7_counts_1 rfl (lv_at hl 1 rfl) ?_
  obtain ⟨r_1, hc2, h⟩ := bd1_s h
  refine x_selfVi (As := [.int p0]) (rest := []) St0_ok S (c_X7_isWilling l D cI cS o hc2) yf_X7_isWilling wd10_7 ⟨Nat.le_of_ble_eq_true rfl, Nat.le_of_ble_eq_true rfl⟩ hK hSt hA hP hD hS 0 rfl rfl rfl hl.1 rfl (Nat.le_of_ble_eq_true rfl) dX7_counts_2 (Nat.zero_le _) (Nat.zero_le _) (fun H locs hP hD hS => ?_)
  refine x_if_ne (tgt := 10) hx hb h dX7_counts_5 (by decide) (fun c5 h => ?_) (fun c5 h => ?_)
  · refine lv_aload_n hx hb dX7_counts_10 rfl (lv_at hl 0 rfl) ?_
    refine lv_iload_n hx hb dX7_counts_11 rfl (lv_at hl 1 rfl) ?_
    obtain ⟨v_horn_2, v_brass_3, hc12, h⟩ := bd2_s h
    refine x_selfVv (As := [.int p0]) (rest := []) St0_ok S (c_X7_cuts l D cI cS o hc12) yf_X7_cuts wd10_19 ⟨Nat.le_of_ble_eq_true rfl, Nat.le_of_ble_eq_true rfl⟩ hK hSt hA hP hD hS 0 rfl rfl rfl hl.1 rfl (Nat.le_of_ble_eq_true rfl) dX7_counts_12 (Nat.zero_le _) (Nat.zero_le _) (fun H locs hP hD hS => ?_)
    refine lv_aload_n hx hb dX7_counts_15 rfl (lv_at hl 0 rfl) ?_
    refine lv_iload_n hx hb dX7_counts_16 rfl (lv_at hl 1 rfl) ?_
    refine lv_iconst (v := 0) hx hb dX7_counts_17 (by decide) ?_
    obtain ⟨r_4, hc18, h⟩ := bd1_s h
    refine x_selfVi (As := [.int p0, .int 0]) (rest := []) St0_ok S (c_X7_of l D cI cS o hc18) yf_X7_of wd10_11 ⟨Nat.le_of_ble_eq_true rfl, Nat.le_of_ble_eq_true rfl⟩ hK hSt hA hP hD hS 0 rfl rfl rfl hl.1 rfl (Nat.le_of_ble_eq_true rfl) dX7_counts_18 (Nat.zero_le _) (Nat.zero_le _) (fun H locs hP hD hS => ?_)
    by_cases c21_0 : r_4 = 2
    · replace h := ite_t c21_0 h
      refine lv_tableIn (off := 31) (tgt := 52) hx hb dX7_counts_21 (by rw [c21_0]; decide) (by rw [c21_0]; decide) (by rw [c21_0]; rfl) (by decide) ?_
      refine lv_aload_n hx hb dX7_counts_52 rfl (lv_at hl 0 rfl) ?_
      refine lv_iload_n hx hb dX7_counts_53 rfl (lv_at hl 1 rfl) ?_
      refine lv_iconst (v := 1) hx hb dX7_counts_54 (by decide) ?_
      obtain ⟨r_5, hc55, h⟩ := bd1_s h
      refine x_selfVi (As := [.int p0, .int 1]) (rest := []) St0_ok S (c_X7_of l D cI cS o hc55) yf_X7_of wd10_11 ⟨Nat.le_of_ble_eq_true rfl, Nat.le_of_ble_eq_true rfl⟩ hK hSt hA hP hD hS 0 rfl rfl rfl hl.1 rfl (Nat.le_of_ble_eq_true rfl) dX7_counts_55 (Nat.zero_le _) (Nat.zero_le _) (fun H locs hP hD hS => ?_)
      refine lv_iconst (v := 2) hx hb dX7_counts_58 (by decide) ?_
      refine x_irem hx hb h dX7_counts_59 (fun h => ?_)
      cases h
      exact x_iret hx hb hr hlocks hK hP hD hS rfl rfl dX7_counts_60
    replace h := ite_f c21_0 h
    by_cases c21_1 : r_4 = 3
    · replace h := ite_t c21_1 h
      refine lv_tableIn (off := 78) (tgt := 99) hx hb dX7_counts_21 (by rw [c21_1]; decide) (by rw [c21_1]; decide) (by rw [c21_1]; rfl) (by decide) ?_
      refine lv_aload_n hx hb dX7_counts_99 rfl (lv_at hl 0 rfl) ?_
      refine gt_X7_156 S hK hP 0 rfl rfl dX7_counts_100 ?_
      refine lv_iconst (v := 3) hx hb dX7_counts_103 (by decide) ?_
      refine lv_aload_n hx hb dX7_counts_104 rfl (lv_at hl 0 rfl) ?_
      refine gt_X7_159 S hK hP 0 rfl rfl dX7_counts_105 ?_
      refine lv_imul hx hb dX7_counts_108 ?_
      refine lv_iadd hx hb dX7_counts_109 ?_
      cases h
      exact x_iret hx hb hr hlocks hK hP hD hS rfl rfl dX7_counts_110
    replace h := ite_f c21_1 h
    by_cases c21_2 : r_4 = 4
    · replace h := ite_t c21_2 h
      refine lv_tableIn (off := 66) (tgt := 87) hx hb dX7_counts_21 (by rw [c21_2]; decide) (by rw [c21_2]; decide) (by rw [c21_2]; rfl) (by decide) ?_
      refine lv_aload_n hx hb dX7_counts_87 rfl (lv_at hl 0 rfl) ?_
      refine gt_X7_156 S hK hP 0 rfl rfl dX7_counts_88 ?_
      refine lv_iconst (v := 5) hx hb dX7_counts_91 (by decide) ?_
      refine lv_aload_n hx hb dX7_counts_92 rfl (lv_at hl 0 rfl) ?_
      refine gt_X7_159 S hK hP 0 rfl rfl dX7_counts_93 ?_
      refine lv_imul hx hb dX7_counts_96 ?_
      refine lv_iadd hx hb dX7_counts_97 ?_
      cases h
      exact x_iret hx hb hr hlocks hK hP hD hS rfl rfl dX7_counts_98
    replace h := ite_f c21_2 h
    by_cases c21_3 : r_4 = 5
    · replace h := ite_t c21_3 h
      refine lv_tableIn (off := 40) (tgt := 61) hx hb dX7_counts_21 (by rw [c21_3]; decide) (by rw [c21_3]; decide) (by rw [c21_3]; rfl) (by decide) ?_
      refine lv_aload_n hx hb dX7_counts_61 rfl (lv_at hl 0 rfl) ?_
      refine lv_iload_n hx hb dX7_counts_62 rfl (lv_at hl 1 rfl) ?_
      refine lv_iconst (v := 1) hx hb dX7_counts_63 (by decide) ?_
      obtain ⟨r_6, hc64, h⟩ := bd1_s h
      refine x_selfVi (As := [.int p0, .int 1]) (rest := []) St0_ok S (c_X7_of l D cI cS o hc64) yf_X7_of wd10_11 ⟨Nat.le_of_ble_eq_true rfl, Nat.le_of_ble_eq_true rfl⟩ hK hSt hA hP hD hS 0 rfl rfl rfl hl.1 rfl (Nat.le_of_ble_eq_true rfl) dX7_counts_64 (Nat.zero_le _) (Nat.zero_le _) (fun H locs hP hD hS => ?_)
      refine lv_iconst (v := 2) hx hb dX7_counts_67 (by decide) ?_
      refine x_irem hx hb h dX7_counts_68 (fun h => ?_)
      refine lv_aload_n hx hb dX7_counts_69 rfl (lv_at hl 0 rfl) ?_
      refine lv_iload_n hx hb dX7_counts_70 rfl (lv_at hl 1 rfl) ?_
      refine lv_iconst (v := 5) hx hb dX7_counts_71 (by decide) ?_
      obtain ⟨r_7, hc72, h⟩ := bd1_s h
      refine x_selfVi (As := [.int p0, .int 5]) (rest := [.int (rmI r_6 2)]) St0_ok S (c_X7_of l D cI cS o hc72) yf_X7_of wd10_11 ⟨Nat.le_of_ble_eq_true rfl, Nat.le_of_ble_eq_true rfl⟩ hK hSt hA hP hD hS 0 rfl rfl rfl hl.1 rfl (Nat.le_of_ble_eq_true rfl) dX7_counts_72 (Nat.zero_le _) (Nat.zero_le _) (fun H locs hP hD hS => ?_)
      refine lv_bipush (v := 50) hx hb dX7_counts_75 (by decide) ?_
      refine x_icmp_ge (tgt := 84) hx hb h dX7_counts_77 (by decide) (fun c77 h => ?_) (fun c77 h => ?_)
      · refine lv_iconst (v := 0) hx hb dX7_counts_84 (by decide) ?_
        refine lv_iadd hx hb dX7_counts_85 ?_
        cases h
        exact x_iret hx hb hr hlocks hK hP hD hS rfl rfl dX7_counts_86
      · refine lv_iconst (v := 1) hx hb dX7_counts_80 (by decide) ?_
        refine lv_goto (tgt := 85) hx hb dX7_counts_81 (by decide) ?_
        refine lv_iadd hx hb dX7_counts_85 ?_
        cases h
        exact x_iret hx hb hr hlocks hK hP hD hS rfl rfl dX7_counts_86
    replace h := ite_f c21_3 h
    refine lv_tableOut (tgt := 99) hx hb dX7_counts_21 (by have n0 := lv_neT c21_0 (show ((2) : Int32).toInt = 2 by decide); have n1 := lv_neT c21_1 (show ((3) : Int32).toInt = 3 by decide); have n2 := lv_neT c21_2 (show ((4) : Int32).toInt = 4 by decide); have n3 := lv_neT c21_3 (show ((5) : Int32).toInt = 5 by decide); omega) (by decide) ?_
    refine lv_aload_n hx hb dX7_counts_99 rfl (lv_at hl 0 rfl) ?_
    refine gt_X7_156 S hK hP 0 rfl rfl dX7_counts_100 ?_
    refine lv_iconst (v := 3) hx hb dX7_counts_103 (by decide) ?_
    refine lv_aload_n hx hb dX7_counts_104 rfl (lv_at hl 0 rfl) ?_
    refine gt_X7_159 S hK hP 0 rfl rfl dX7_counts_105 ?_
    refine lv_imul hx hb dX7_counts_108 ?_
    refine lv_iadd hx hb dX7_counts_109 ?_
    cases h
    exact x_iret hx hb hr hlocks hK hP hD hS rfl rfl dX7_counts_110
  · refine lv_iconst (v := 0) hx hb dX7_counts_8 (by decide) ?_
    cases h
    exact x_iret hx hb hr hlocks hK hP hD hS rfl rfl dX7_counts_9

def f_X7_countsFor_L5 (v_d : Nat → Int32) (p0 : Int32) (p1 : Int32) : Nat → Int32 → Int32 → Int32 → Int32 → Option ((Int32) × (Int32) × (Int32))
  | 0, _, _, _, _ => none
  | k_n + 1, v_horn_1, v_brass_2, l3_3, l4_4 => rdA 248 v_d 0 (fun x_5 => (if x_5 ≤ l4_4 then some (v_horn_1, v_brass_2, l3_3) else bd1 (f_X7_its v_d p0 1) (fun r_6 => jnA (fun (v_horn_7 : Int32) (v_brass_8 : Int32) (t0_9 : Int32) => nmA (l3_3 + t0_9) (fun l3_10 => nmA (l4_4 + 1) (fun l4_11 => f_X7_countsFor_L5 v_d p0 p1 k_n v_horn_7 v_brass_8 l3_10 l4_11))) (fun J42 => (if ((r_6 >>> (l4_4 &&& 31)) &&& 1) = p1 then bd3 (f_X7_counts v_d v_horn_1 v_brass_2 l4_4) (fun v_horn_12 v_brass_13 r_14 => J42 v_horn_12 v_brass_13 r_14) else J42 v_horn_1 v_brass_2 0)))))
def f_X7_countsFor  (v_d : Nat → Int32) (v_horn : Int32) (v_brass : Int32) (p0 : Int32) (p1 : Int32) : Option ((Int32) × (Int32) × (Int32)) :=
  f_X7_countsFor_L5 v_d p0 p1 300 v_horn v_brass 0 0
set_option maxHeartbeats 600000 in
set_option maxRecDepth 100000 in
theorem c_X7_countsFor (l : Launch) (D : va_G) (cI cS : ClassId) (o : Nat → Nat) {v_d : Nat → Int32} {v_kept : Nat → Int32} {v_images : Int32} {v_found : Nat → Int32} {v_aside : Nat → Int32} {v_base : Int32} {v_at : Int32} {v_size : Int32} {v_fault : Int32} {v_opened : Int32} {v_isCold : Int32} {v_names : Nat → Int32} {v_code : Nat → Int32} {v_coded : Int32} {v_pile : Nat → Int32} {v_horn : Int32} {v_brass : Int32} {v_coldAhead : Nat → Int32} {v_which : Nat → Int32} {v_whichMany : Int32} {v_bestPass : Int32} {v_bestLive : Int32} {v_bestCode : Int32} {v_traced : Nat → Int32} {v_traceMany : Int32} {v_who : Int32} {v_bitsOf : Nat → Int32} {v_sizeOf : Nat → Int32} {v_number : Nat → Int32} {v_lifted : Nat → Int32} {p0 : Int32} {p1 : Int32} {w_horn : Int32} {w_brass : Int32} {r_out : Int32} (h : f_X7_countsFor  v_d v_horn v_brass p0 p1 = some (w_horn, w_brass, r_out)) : MetI l D (tysX cI cS) St0 yX7_countsFor cX7_countsFor 5 (some .int) 5 109 [.ref (o 0), .int p0, .int p1] (pcX7 o cI v_d v_kept v_images v_found v_aside v_base v_at v_size v_fault v_opened v_isCold v_names v_code v_coded v_pile v_horn v_brass v_coldAhead v_which v_whichMany v_bestPass v_bestLive v_bestCode v_traced v_traceMany v_who v_bitsOf v_sizeOf v_number v_lifted) r_out (pcX7 o cI v_d v_kept v_images v_found v_aside v_base v_at v_size v_fault v_opened v_isCold v_names v_code v_coded v_pile w_horn w_brass v_coldAhead v_which v_whichMany v_bestPass v_bestLive v_bestCode v_traced v_traceMany v_who v_bitsOf v_sizeOf v_number v_lifted) := by
  refine Ent.metI (by decide +kernel) (Nat.le_of_ble_eq_true rfl) ?_
  intro p e s m args below meth c A ls hx hb hr hml hown hts hlocks hA hK hSt hP hD hS hl
  have hown : s.vm.findClass RX7 = some m.cls := hown
  have S : XFix p m c cX7_countsFor 5 s args RX7 := ⟨hx, hb, hml, hown, hts⟩
  have hl : lv_has ls 5 [(0, .ref (o 0)), (1, .int p0), (2, .int p1)] := hl
  unfold f_X7_countsFor at h
  refine lv_iconst (v := 0) hx hb dX7_countsFor_0 (by decide) ?_
  refine lv_istore_n (lv' := [(3, .int 0), (0, .ref (o 0)), (1, .int p0), (2, .int p1)]) hx hb dX7_countsFor_1 rfl hl (by decide) rfl (fun ls hl => ?_)
  refine lv_iconst (v := 0) hx hb dX7_countsFor_2 (by decide) ?_
  refine lv_istore (lv' := [(4, .int 0), (3, .int 0), (0, .ref (o 0)), (1, .int p0), (2, .int p1)]) hx hb dX7_countsFor_3 hl (by decide) rfl (fun ls hl => ?_)
  have wf_X7_countsFor_L5 : ∀ (k_n : Nat) (v_horn_1 : Int32) (v_brass_2 : Int32) (l3_3 : Int32) (l4_4 : Int32), f_X7_countsFor_L5 v_d p0 p1 k_n v_horn_1 v_brass_2 l3_3 l4_4 = some (w_horn, w_brass, r_out) → ∀ (H : Heap) (locs : List Loc), va_P D vwCl (pcX7 o cI v_d v_kept v_images v_found v_aside v_base v_at v_size v_fault v_opened v_isCold v_names v_code v_coded v_pile v_horn_1 v_brass_2 v_coldAhead v_which v_whichMany v_bestPass v_bestLive v_bestCode v_traced v_traceMany v_who v_bitsOf v_sizeOf v_number v_lifted) H → va_D A (pcX7 o cI v_d v_kept v_images v_found v_aside v_base v_at v_size v_fault v_opened v_isCold v_names v_code v_coded v_pile v_horn_1 v_brass_2 v_coldAhead v_which v_whichMany v_bestPass v_bestLive v_bestCode v_traced v_traceMany v_who v_bitsOf v_sizeOf v_number v_lifted) → va_S A s.heap H locs → ∀ ls : Array Slot, lv_has ls 5 [(0, .ref (o 0)), (1, .int p0), (2, .int p1), (3, .int l3_3), (4, .int l4_4)] → WI p l e 5 109 s m args below meth c D (tysX cI cS) A r_out (pcX7 o cI v_d v_kept v_images v_found v_aside v_base v_at v_size v_fault v_opened v_isCold v_names v_code v_coded v_pile w_horn w_brass v_coldAhead v_which v_whichMany v_bestPass v_bestLive v_bestCode v_traced v_traceMany v_who v_bitsOf v_sizeOf v_number v_lifted) H locs (F0 m 5 ls []) := by
      intro k_n
      induction k_n with
      | zero => intro v_horn_1 v_brass_2 l3_3 l4_4 h; rw [f_X7_countsFor_L5] at h; cases h
      | succ k_n ih =>
        intro v_horn_1 v_brass_2 l3_3 l4_4 h H locs hP hD hS ls hl
        rw [f_X7_countsFor_L5] at h
        refine lv_iload hx hb dX7_countsFor_5 (lv_at hl 4 rfl) ?_
        refine lv_aload_n hx hb dX7_countsFor_7 rfl (lv_at hl 0 rfl) ?_
        refine gt_X7_7 S hK hP 0 rfl rfl dX7_countsFor_8 ?_
        refine lv_iconst (v := 0) hx hb dX7_countsFor_11 (by decide) ?_
        refine x_ald hx hb hK hP 1 h rfl rfl dX7_countsFor_12 (fun x_5 ex_5 h => ?_)
        refine x_icmp_ge (tgt := 50) hx hb h dX7_countsFor_13 (by decide) (fun c13 h => ?_) (fun c13 h => ?_)
        · refine lv_iload_n hx hb dX7_countsFor_50 rfl (lv_at hl 3 rfl) ?_
          cases h
          exact x_iret hx hb hr hlocks hK hP hD hS rfl rfl dX7_countsFor_51
        · refine lv_iload_n hx hb dX7_countsFor_16 rfl (lv_at hl 3 rfl) ?_
          refine lv_aload_n hx hb dX7_countsFor_17 rfl (lv_at hl 0 rfl) ?_
          refine lv_iload_n hx hb dX7_countsFor_18 rfl (lv_at hl 1 rfl) ?_
          refine lv_iconst (v := 1) hx hb dX7_countsFor_19 (by decide) ?_
          obtain ⟨r_6, hc20, h⟩ := bd1_s h
          refine x_selfVi (As := [.int p0, .int 1]) (rest := [.int l3_3]) St0_ok S (c_X7_its l D cI cS o hc20) yf_X7_its wd11_15 ⟨Nat.le_of_ble_eq_true rfl, Nat.le_of_ble_eq_true rfl⟩ hK hSt hA hP hD hS 0 rfl rfl rfl hl.1 rfl (Nat.le_of_ble_eq_true rfl) dX7_countsFor_20 (Nat.zero_le _) (Nat.zero_le _) (fun H locs hP hD hS => ?_)
          refine lv_iload hx hb dX7_countsFor_23 (lv_at hl 4 rfl) ?_
          refine lv_ishr hx hb dX7_countsFor_25 ?_
          refine lv_iconst (v := 1) hx hb dX7_countsFor_26 (by decide) ?_
          refine lv_iand hx hb dX7_countsFor_27 ?_
          refine lv_iload_n hx hb dX7_countsFor_28 rfl (lv_at hl 2 rfl) ?_
          obtain ⟨J42, eJ42, h⟩ := jnA_s h
          have wJ42 : ∀ (v_horn_7 : Int32) (v_brass_8 : Int32) (t0_9 : Int32), J42 v_horn_7 v_brass_8 t0_9 = some (w_horn, w_brass, r_out) → ∀ (H : Heap) (locs : List Loc), va_P D vwCl (pcX7 o cI v_d v_kept v_images v_found v_aside v_base v_at v_size v_fault v_opened v_isCold v_names v_code v_coded v_pile v_horn_7 v_brass_8 v_coldAhead v_which v_whichMany v_bestPass v_bestLive v_bestCode v_traced v_traceMany v_who v_bitsOf v_sizeOf v_number v_lifted) H → va_D A (pcX7 o cI v_d v_kept v_images v_found v_aside v_base v_at v_size v_fault v_opened v_isCold v_names v_code v_coded v_pile v_horn_7 v_brass_8 v_coldAhead v_which v_whichMany v_bestPass v_bestLive v_bestCode v_traced v_traceMany v_who v_bitsOf v_sizeOf v_number v_lifted) → va_S A s.heap H locs → ∀ ls : Array Slot, lv_has ls 5 [(0, .ref (o 0)), (1, .int p0), (2, .int p1), (4, .int l4_4)] → WI p l e 5 109 s m args below meth c D (tysX cI cS) A r_out (pcX7 o cI v_d v_kept v_images v_found v_aside v_base v_at v_size v_fault v_opened v_isCold v_names v_code v_coded v_pile w_horn w_brass v_coldAhead v_which v_whichMany v_bestPass v_bestLive v_bestCode v_traced v_traceMany v_who v_bitsOf v_sizeOf v_number v_lifted) H locs (F0 m 42 ls [.int t0_9, .int l3_3]) := by
              intro v_horn_7 v_brass_8 t0_9 h H locs hP hD hS ls hl
              subst eJ42
              dsimp only at h
              refine lv_iadd hx hb dX7_countsFor_42 ?_
              refine x_nm h (fun l3_10 el3_10 h => ?_)
              refine lv_istore_n (lv' := [(3, .int l3_10), (0, .ref (o 0)), (1, .int p0), (2, .int p1), (4, .int l4_4)]) hx hb dX7_countsFor_43 rfl hl (by decide) rfl (fun ls hl => ?_)
              obtain ⟨l4_11, el4_11, h⟩ := nmA_s h
              refine lv_iinc (v := l4_11) (lv' := [(4, .int l4_11), (3, .int l3_10), (0, .ref (o 0)), (1, .int p0), (2, .int p1)]) hx hb dX7_countsFor_44 hl (k := 4) rfl (by rw [el4_11]; exact congrArg _ (by decide)) (by decide) rfl (fun ls hl => ?_)
              refine lv_goto (tgt := 5) hx hb dX7_countsFor_47 (by decide) ?_
              exact ih v_horn_7 v_brass_8 l3_10 l4_11 h _ _ hP hD hS _ (lv_sub hl [2, 3, 4, 1, 0] rfl)
          refine x_icmp_ne (tgt := 41) hx hb h dX7_countsFor_29 (by decide) (fun c29 h => ?_) (fun c29 h => ?_)
          · refine lv_iconst (v := 0) hx hb dX7_countsFor_41 (by decide) ?_
            exact wJ42 v_horn_1 v_brass_2 0 h _ _ hP hD hS _ (lv_sub hl [0, 1, 2, 4] rfl)
          · refine lv_aload_n hx hb dX7_countsFor_32 rfl (lv_at hl 0 rfl) ?_
            refine lv_iload hx hb dX7_countsFor_33 (lv_at hl 4 rfl) ?_
            obtain ⟨v_horn_12, v_brass_13, r_14, hc35, h⟩ := bd3_s h
            refine x_selfVi (As := [.int l4_4]) (rest := [.int l3_3]) St0_ok S (c_X7_counts l D cI cS o hc35) yf_X7_counts wd11_3 ⟨Nat.le_of_ble_eq_true rfl, Nat.le_of_ble_eq_true rfl⟩ hK hSt hA hP hD hS 0 rfl rfl rfl hl.1 rfl (Nat.le_of_ble_eq_true rfl) dX7_countsFor_35 (Nat.zero_le _) (Nat.zero_le _) (fun H locs hP hD hS => ?_)
            refine lv_goto (tgt := 42) hx hb dX7_countsFor_38 (by decide) ?_
            exact wJ42 v_horn_12 v_brass_13 r_14 h _ _ hP hD hS _ (lv_sub hl [0, 1, 2, 4] rfl)
  exact wf_X7_countsFor_L5 300 v_horn v_brass 0 0 h _ _ hP hD hS _ (lv_sub hl [2, 3, 4, 1, 0] rfl)

def f_X7_wouldPass  (v_d : Nat → Int32) (v_horn : Int32) (v_brass : Int32) (p0 : Int32) : Option ((Int32) × (Int32) × (Int32)) :=
  bd3 (f_X7_countsFor v_d v_horn v_brass p0 1) (fun v_horn_1 v_brass_2 r_3 => bd3 (f_X7_countsFor v_d v_horn_1 v_brass_2 p0 0) (fun v_horn_4 v_brass_5 r_6 => (if r_3 ≤ r_6 then some (v_horn_4, v_brass_5, 0) else bd1 (f_X7_its v_d p0 0) (fun r_7 => (if (r_3 + r_6) < r_7 then some (v_horn_4, v_brass_5, 0) else some (v_horn_4, v_brass_5, 1))))))
set_option maxHeartbeats 600000 in
set_option maxRecDepth 100000 in
theorem c_X7_wouldPass (l : Launch) (D : va_G) (cI cS : ClassId) (o : Nat → Nat) {v_d : Nat → Int32} {v_kept : Nat → Int32} {v_images : Int32} {v_found : Nat → Int32} {v_aside : Nat → Int32} {v_base : Int32} {v_at : Int32} {v_size : Int32} {v_fault : Int32} {v_opened : Int32} {v_isCold : Int32} {v_names : Nat → Int32} {v_code : Nat → Int32} {v_coded : Int32} {v_pile : Nat → Int32} {v_horn : Int32} {v_brass : Int32} {v_coldAhead : Nat → Int32} {v_which : Nat → Int32} {v_whichMany : Int32} {v_bestPass : Int32} {v_bestLive : Int32} {v_bestCode : Int32} {v_traced : Nat → Int32} {v_traceMany : Int32} {v_who : Int32} {v_bitsOf : Nat → Int32} {v_sizeOf : Nat → Int32} {v_number : Nat → Int32} {v_lifted : Nat → Int32} {p0 : Int32} {w_horn : Int32} {w_brass : Int32} {r_out : Int32} (h : f_X7_wouldPass  v_d v_horn v_brass p0 = some (w_horn, w_brass, r_out)) : MetI l D (tysX cI cS) St0 yX7_wouldPass cX7_wouldPass 4 (some .boolean) 6 133 [.ref (o 0), .int p0] (pcX7 o cI v_d v_kept v_images v_found v_aside v_base v_at v_size v_fault v_opened v_isCold v_names v_code v_coded v_pile v_horn v_brass v_coldAhead v_which v_whichMany v_bestPass v_bestLive v_bestCode v_traced v_traceMany v_who v_bitsOf v_sizeOf v_number v_lifted) r_out (pcX7 o cI v_d v_kept v_images v_found v_aside v_base v_at v_size v_fault v_opened v_isCold v_names v_code v_coded v_pile w_horn w_brass v_coldAhead v_which v_whichMany v_bestPass v_bestLive v_bestCode v_traced v_traceMany v_who v_bitsOf v_sizeOf v_number v_lifted) := by
  refine Ent.metI (by decide +kernel) (Nat.le_of_ble_eq_true rfl) ?_
  intro p e s m args below meth c A ls hx hb hr hml hown hts hlocks hA hK hSt hP hD hS hl
  have hown : s.vm.findClass RX7 = some m.cls := hown
  have S : XFix p m c cX7_wouldPass 4 s args RX7 := ⟨hx, hb, hml, hown, hts⟩
  have hl : lv_has ls 4 [(0, .ref (o 0)), (1, .int p0)] := hl
  unfold f_X7_wouldPass at h
  refine lv_aload_n hx hb dX7_wouldPass_0 rfl (lv_at hl 0 rfl) ?_
  refine lv_iload_n hx hb dX7_wouldPass_1 rfl (lv_at hl 1 rfl) ?_
  refine lv_iconst (v := 1) hx hb dX7_wouldPass_2 (by decide) ?_
  obtain ⟨v_horn_1, v_brass_2, r_3, hc3, h⟩ := bd3_s h
  refine x_selfVi (As := [.int p0, .int 1]) (rest := []) St0_ok S (c_X7_countsFor l D cI cS o hc3) yf_X7_countsFor wd16_2 ⟨Nat.le_of_ble_eq_true rfl, Nat.le_of_ble_eq_true rfl⟩ hK hSt hA hP hD hS 0 rfl rfl rfl hl.1 rfl (Nat.le_of_ble_eq_true rfl) dX7_wouldPass_3 (Nat.zero_le _) (Nat.zero_le _) (fun H locs hP hD hS => ?_)
  refine lv_istore_n (lv' := [(2, .int r_3), (0, .ref (o 0)), (1, .int p0)]) hx hb dX7_wouldPass_6 rfl hl (by decide) rfl (fun ls hl => ?_)
  refine lv_aload_n hx hb dX7_wouldPass_7 rfl (lv_at hl 1 rfl) ?_
  refine lv_iload_n hx hb dX7_wouldPass_8 rfl (lv_at hl 2 rfl) ?_
  refine lv_iconst (v := 0) hx hb dX7_wouldPass_9 (by decide) ?_
  obtain ⟨v_horn_4, v_brass_5, r_6, hc10, h⟩ := bd3_s h
  refine x_selfVi (As := [.int p0, .int 0]) (rest := []) St0_ok S (c_X7_countsFor l D cI cS o hc10) yf_X7_countsFor wd16_2 ⟨Nat.le_of_ble_eq_true rfl, Nat.le_of_ble_eq_true rfl⟩ hK hSt hA hP hD hS 0 rfl rfl rfl hl.1 rfl (Nat.le_of_ble_eq_true rfl) dX7_wouldPass_10 (Nat.zero_le _) (Nat.zero_le _) (fun H locs hP hD hS => ?_)
  refine lv_istore_n (lv' := [(3, .int r_6), (2, .int r_3), (0, .ref (o 0)), (1, .int p0)]) hx hb dX7_wouldPass_13 rfl hl (by decide) rfl (fun ls hl => ?_)
  refine lv_iload_n hx hb dX7_wouldPass_14 rfl (lv_at hl 1 rfl) ?_
  refine lv_iload_n hx hb dX7_wouldPass_15 rfl (lv_at hl 0 rfl) ?_
  refine x_icmp_le (tgt := 35) hx hb h dX7_wouldPass_16 (by decide) (fun c16 h => ?_) (fun c16 h => ?_)
  · refine lv_iconst (v := 0) hx hb dX7_wouldPass_35 (by decide) ?_
    cases h
    exact x_zret hx hb hr hlocks hK hP hD hS rfl rfl (Or.inl rfl) dX7_wouldPass_36
  · refine lv_iload_n hx hb dX7_wouldPass_19 rfl (lv_at hl 1 rfl) ?_
    refine lv_iload_n hx hb dX7_wouldPass_20 rfl (lv_at hl 0 rfl) ?_
    refine lv_iadd hx hb dX7_wouldPass_21 ?_
    refine lv_aload_n hx hb dX7_wouldPass_22 rfl (lv_at hl 2 rfl) ?_
    refine lv_iload_n hx hb dX7_wouldPass_23 rfl (lv_at hl 3 rfl) ?_
    refine lv_iconst (v := 0) hx hb dX7_wouldPass_24 (by decide) ?_
    obtain ⟨r_7, hc25, h⟩ := bd1_s h
    refine x_selfVi (As := [.int p0, .int 0]) (rest := [.int (r_3 + r_6)]) St0_ok S (c_X7_its l D cI cS o hc25) yf_X7_its wd11_15 ⟨Nat.le_of_ble_eq_true rfl, Nat.le_of_ble_eq_true rfl⟩ hK hSt hA hP hD hS 0 rfl rfl rfl hl.1 rfl (Nat.le_of_ble_eq_true rfl) dX7_wouldPass_25 (Nat.zero_le _) (Nat.zero_le _) (fun H locs hP hD hS => ?_)
    refine x_icmp_lt (tgt := 35) hx hb h dX7_wouldPass_28 (by decide) (fun c28 h => ?_) (fun c28 h => ?_)
    · refine lv_iconst (v := 0) hx hb dX7_wouldPass_35 (by decide) ?_
      cases h
      exact x_zret hx hb hr hlocks hK hP hD hS rfl rfl (Or.inl rfl) dX7_wouldPass_36
    · refine lv_iconst (v := 1) hx hb dX7_wouldPass_31 (by decide) ?_
      refine lv_goto (tgt := 36) hx hb dX7_wouldPass_32 (by decide) ?_
      cases h
      exact x_zret hx hb hr hlocks hK hP hD hS rfl rfl (Or.inr rfl) dX7_wouldPass_36

def f_X7_lawMany_L4 (v_d : Nat → Int32) : Nat → Int32 → Int32 → Option ((Int32))
  | 0, _, _ => none
  | k_n + 1, l1_1, l2_2 => rdA 248 v_d 1 (fun x_3 => (if x_3 ≤ l2_2 then some (l1_1) else bd1 (f_X7_its v_d l2_2 2) (fun r_4 => nmA (l1_1 + r_4) (fun l1_5 => nmA (l2_2 + 1) (fun l2_6 => f_X7_lawMany_L4 v_d k_n l1_5 l2_6)))))
def f_X7_lawMany  (v_d : Nat → Int32)  : Option ((Int32)) :=
  f_X7_lawMany_L4 v_d 300 0 0
set_option maxHeartbeats 600000 in
set_option maxRecDepth 100000 in
theorem c_X7_lawMany (l : Launch) (D : va_G) (cI cS : ClassId) (o : Nat → Nat) {v_d : Nat → Int32} {v_kept : Nat → Int32} {v_images : Int32} {v_found : Nat → Int32} {v_aside : Nat → Int32} {v_base : Int32} {v_at : Int32} {v_size : Int32} {v_fault : Int32} {v_opened : Int32} {v_isCold : Int32} {v_names : Nat → Int32} {v_code : Nat → Int32} {v_coded : Int32} {v_pile : Nat → Int32} {v_horn : Int32} {v_brass : Int32} {v_coldAhead : Nat → Int32} {v_which : Nat → Int32} {v_whichMany : Int32} {v_bestPass : Int32} {v_bestLive : Int32} {v_bestCode : Int32} {v_traced : Nat → Int32} {v_traceMany : Int32} {v_who : Int32} {v_bitsOf : Nat → Int32} {v_sizeOf : Nat → Int32} {v_number : Nat → Int32} {v_lifted : Nat → Int32}   {r_out : Int32} (h : f_X7_lawMany  v_d  = some (r_out)) : MetI l D (tysX cI cS) St0 yX7_lawMany cX7_lawMany 3 (some .int) 1 22 [.ref (o 0)] (pcX7 o cI v_d v_kept v_images v_found v_aside v_base v_at v_size v_fault v_opened v_isCold v_names v_code v_coded v_pile v_horn v_brass v_coldAhead v_which v_whichMany v_bestPass v_bestLive v_bestCode v_traced v_traceMany v_who v_bitsOf v_sizeOf v_number v_lifted) r_out (pcX7 o cI v_d v_kept v_images v_found v_aside v_base v_at v_size v_fault v_opened v_isCold v_names v_code v_coded v_pile v_horn v_brass v_coldAhead v_which v_whichMany v_bestPass v_bestLive v_bestCode v_traced v_traceMany v_who v_bitsOf v_sizeOf v_number v_lifted) := by
  refine Ent.metI (by decide +kernel) (Nat.le_of_ble_eq_true rfl) ?_
  intro p e s m args below meth c A ls hx hb hr hml hown hts hlocks hA hK hSt hP hD hS hl
  have hown : s.vm.findClass RX7 = some m.cls := hown
  have S : XFix p m c cX7_lawMany 3 s args RX7 := ⟨hx, hb, hml, hown, hts⟩
  have hl : lv_has ls 3 [(0, .ref (o 0))] := hl
  unfold f_X7_lawMany at h
  refine lv_iconst (v := 0) hx hb dX7_lawMany_0 (by decide) ?_
  refine lv_istore_n (lv' := [(1, .int 0), (0, .ref (o 0))]) hx hb dX7_lawMany_1 rfl hl (by decide) rfl (fun ls hl => ?_)
  refine lv_iconst (v := 0) hx hb dX7_lawMany_2 (by decide) ?_
  refine lv_istore_n (lv' := [(2, .int 0), (1, .int 0), (0, .ref (o 0))]) hx hb dX7_lawMany_3 rfl hl (by decide) rfl (fun ls hl => ?_)
  have wf_X7_lawMany_L4 : ∀ (k_n : Nat) (l1_1 : Int32) (l2_2 : Int32), f_X7_lawMany_L4 v_d k_n l1_1 l2_2 = some (r_out) → ∀ (H : Heap) (locs : List Loc), va_P D vwCl (pcX7 o cI v_d v_kept v_images v_found v_aside v_base v_at v_size v_fault v_opened v_isCold v_names v_code v_coded v_pile v_horn v_brass v_coldAhead v_which v_whichMany v_bestPass v_bestLive v_bestCode v_traced v_traceMany v_who v_bitsOf v_sizeOf v_number v_lifted) H → va_D A (pcX7 o cI v_d v_kept v_images v_found v_aside v_base v_at v_size v_fault v_opened v_isCold v_names v_code v_coded v_pile v_horn v_brass v_coldAhead v_which v_whichMany v_bestPass v_bestLive v_bestCode v_traced v_traceMany v_who v_bitsOf v_sizeOf v_number v_lifted) → va_S A s.heap H locs → ∀ ls : Array Slot, lv_has ls 3 [(0, .ref (o 0)), (1, .int l1_1), (2, .int l2_2)] → WI p l e 1 22 s m args below meth c D (tysX cI cS) A r_out (pcX7 o cI v_d v_kept v_images v_found v_aside v_base v_at v_size v_fault v_opened v_isCold v_names v_code v_coded v_pile v_horn v_brass v_coldAhead v_which v_whichMany v_bestPass v_bestLive v_bestCode v_traced v_traceMany v_who v_bitsOf v_sizeOf v_number v_lifted) H locs (F0 m 4 ls []) := by
      intro k_n
      induction k_n with
      | zero => intro l1_1 l2_2 h; rw [f_X7_lawMany_L4] at h; cases h
      | succ k_n ih =>
        intro l1_1 l2_2 h H locs hP hD hS ls hl
        rw [f_X7_lawMany_L4] at h
        refine lv_iload_n hx hb dX7_lawMany_4 rfl (lv_at hl 2 rfl) ?_
        refine lv_aload_n hx hb dX7_lawMany_5 rfl (lv_at hl 0 rfl) ?_
        refine gt_X7_7 S hK hP 0 rfl rfl dX7_lawMany_6 ?_
        refine lv_iconst (v := 1) hx hb dX7_lawMany_9 (by decide) ?_
        refine x_ald hx hb hK hP 1 h rfl rfl dX7_lawMany_10 (fun x_3 ex_3 h => ?_)
        refine x_icmp_ge (tgt := 29) hx hb h dX7_lawMany_11 (by decide) (fun c11 h => ?_) (fun c11 h => ?_)
        · refine lv_iload_n hx hb dX7_lawMany_29 rfl (lv_at hl 1 rfl) ?_
          cases h
          exact x_iret hx hb hr hlocks hK hP hD hS rfl rfl dX7_lawMany_30
        · refine lv_iload_n hx hb dX7_lawMany_14 rfl (lv_at hl 1 rfl) ?_
          refine lv_aload_n hx hb dX7_lawMany_15 rfl (lv_at hl 0 rfl) ?_
          refine lv_iload_n hx hb dX7_lawMany_16 rfl (lv_at hl 2 rfl) ?_
          refine lv_iconst (v := 2) hx hb dX7_lawMany_17 (by decide) ?_
          obtain ⟨r_4, hc18, h⟩ := bd1_s h
          refine x_selfVi (As := [.int l2_2, .int 2]) (rest := [.int l1_1]) St0_ok S (c_X7_its l D cI cS o hc18) yf_X7_its wd11_15 ⟨Nat.le_of_ble_eq_true rfl, Nat.le_of_ble_eq_true rfl⟩ hK hSt hA hP hD hS 0 rfl rfl rfl hl.1 rfl (Nat.le_of_ble_eq_true rfl) dX7_lawMany_18 (Nat.zero_le _) (Nat.zero_le _) (fun H locs hP hD hS => ?_)
          refine lv_iadd hx hb dX7_lawMany_21 ?_
          refine x_nm h (fun l1_5 el1_5 h => ?_)
          refine lv_istore_n (lv' := [(1, .int l1_5), (0, .ref (o 0)), (2, .int l2_2)]) hx hb dX7_lawMany_22 rfl hl (by decide) rfl (fun ls hl => ?_)
          obtain ⟨l2_6, el2_6, h⟩ := nmA_s h
          refine lv_iinc (v := l2_6) (lv' := [(2, .int l2_6), (1, .int l1_5), (0, .ref (o 0))]) hx hb dX7_lawMany_23 hl (k := 2) rfl (by rw [el2_6]; exact congrArg _ (by decide)) (by decide) rfl (fun ls hl => ?_)
          refine lv_goto (tgt := 4) hx hb dX7_lawMany_26 (by decide) ?_
          exact ih l1_5 l2_6 h _ _ hP hD hS _ (lv_sub hl [2, 1, 0] rfl)
  exact wf_X7_lawMany_L4 300 0 0 h _ _ hP hD hS _ (lv_sub hl [2, 1, 0] rfl)
