def f_X7_finds  (v_found : Nat → Int32) (p0 : Int32) : Option ((Nat → Int32) × (Int32)) :=
  rdA 6 v_found p0 (fun x_1 => wrA 6 v_found p0 (x_1 + 1) (fun v_found_2 => some (v_found_2, ((-1000000000) - p0))))
set_option maxHeartbeats 600000 in
set_option maxRecDepth 100000 in
theorem c_X7_finds (l : Launch) (D : va_G) (cI cS : ClassId) (o : Nat → Nat) {v_d : Nat → Int32} {v_kept : Nat → Int32} {v_images : Int32} {v_found : Nat → Int32} {v_aside : Nat → Int32} {v_base : Int32} {v_at : Int32} {v_size : Int32} {v_fault : Int32} {v_opened : Int32} {v_isCold : Int32} {v_names : Nat → Int32} {v_code : Nat → Int32} {v_coded : Int32} {v_pile : Nat → Int32} {v_horn : Int32} {v_brass : Int32} {v_coldAhead : Nat → Int32} {v_which : Nat → Int32} {v_whichMany : Int32} {v_bestPass : Int32} {v_bestLive : Int32} {v_bestCode : Int32} {v_traced : Nat → Int32} {v_traceMany : Int32} {v_who : Int32} {v_bitsOf : Nat → Int32} {v_sizeOf : Nat → Int32} {v_number : Nat → Int32} {v_lifted : Nat → Int32} {p0 : Int32} {w_found : Nat → Int32} {r_out : Int32} (h : f_X7_finds  v_found p0 = some (w_found, r_out)) : MetI l D (tysX cI cS) St0 yX7_finds cX7_finds 2 (some .int) 0 0 [.ref (o 0), .int p0] (pcX7 o cI v_d v_kept v_images v_found v_aside v_base v_at v_size v_fault v_opened v_isCold v_names v_code v_coded v_pile v_horn v_brass v_coldAhead v_which v_whichMany v_bestPass v_bestLive v_bestCode v_traced v_traceMany v_who v_bitsOf v_sizeOf v_number v_lifted) r_out (pcX7 o cI v_d v_kept v_images w_found v_aside v_base v_at v_size v_fault v_opened v_isCold v_names v_code v_coded v_pile v_horn v_brass v_coldAhead v_which v_whichMany v_bestPass v_bestLive v_bestCode v_traced v_traceMany v_who v_bitsOf v_sizeOf v_number v_lifted) := by
  refine Ent.metI (by decide +kernel) (Nat.le_of_ble_eq_true rfl) ?_
  intro p e s m args below meth c A ls hx hb hr hml hown hts hlocks hA hK hSt hP hD hS hl
  have hown : s.vm.findClass RX7 = some m.cls := hown
  have S : XFix p m c cX7_finds 2 s args RX7 := ⟨hx, hb, hml, hown, hts⟩
  have hl : lv_has ls 2 [(0, .ref (o 0)), (1, .int p0)] := hl
  unfold f_X7_finds at h
  refine lv_aload_n hx hb dX7_finds_0 rfl (lv_at hl 0 rfl) ?_
  refine gt_X7_16 S hK hP 0 rfl rfl dX7_finds_1 ?_
  refine lv_iload_n hx hb dX7_finds_4 rfl (lv_at hl 1 rfl) ?_
  refine lv_dup2_11 hx hb dX7_finds_5 rfl rfl ?_
  refine x_ald hx hb hK hP 3 h rfl rfl dX7_finds_6 (fun x_1 ex_1 h => ?_)
  refine lv_iconst (v := 1) hx hb dX7_finds_7 (by decide) ?_
  refine lv_iadd hx hb dX7_finds_8 ?_
  refine x_ast hx hb hK hP hD hS 3 h rfl rfl dX7_finds_9 (fun v_found_2 ev_found_2 h H locs hP hD hS => ?_)
  have hP : va_P D vwCl (pcX7 o cI v_d v_kept v_images v_found_2 v_aside v_base v_at v_size v_fault v_opened v_isCold v_names v_code v_coded v_pile v_horn v_brass v_coldAhead v_which v_whichMany v_bestPass v_bestLive v_bestCode v_traced v_traceMany v_who v_bitsOf v_sizeOf v_number v_lifted) H := hP
  have hD : va_D A (pcX7 o cI v_d v_kept v_images v_found_2 v_aside v_base v_at v_size v_fault v_opened v_isCold v_names v_code v_coded v_pile v_horn v_brass v_coldAhead v_which v_whichMany v_bestPass v_bestLive v_bestCode v_traced v_traceMany v_who v_bitsOf v_sizeOf v_number v_lifted) := hD
  refine lv_ldc (v := (-1000000000)) hx hb hown (hts _ wd6_14) dX7_finds_10 ?_
  refine lv_iload_n hx hb dX7_finds_12 rfl (lv_at hl 1 rfl) ?_
  refine lv_isub hx hb dX7_finds_13 ?_
  cases h
  exact x_iret hx hb hr hlocks hK hP hD hS rfl rfl dX7_finds_14

def f_X7_in   (p0 : Int64) (p1 : Int64) (p2 : Int64) : Option ((Int32)) :=
  (if (lg_cmp p0 p1) < 0 then some (0) else (if 0 < (lg_cmp p0 p2) then some (0) else some (1)))
set_option maxHeartbeats 600000 in
set_option maxRecDepth 100000 in
theorem c_X7_in (l : Launch) (D : va_G) (cI cS : ClassId) (o : Nat → Nat)  {p0 : Int64} {p1 : Int64} {p2 : Int64}  {r_out : Int32} (h : f_X7_in   p0 p1 p2 = some (r_out)) : MetI l D (tysX cI cS) St0 yX7_in cX7_in 6 (some .boolean) 0 0 [.long p0, .long p1, .long p2] [] r_out [] := by
  refine Ent.metI (by decide +kernel) (Nat.le_of_ble_eq_true rfl) ?_
  intro p e s m args below meth c A ls hx hb hr hml hown hts hlocks hA hK hSt hP hD hS hl
  have hown : s.vm.findClass RX7 = some m.cls := hown
  have S : XFix p m c cX7_in 6 s args RX7 := ⟨hx, hb, hml, hown, hts⟩
  have hl : lv_has ls 6 [(0, .long p0), (2, .long p1), (4, .long p2)] := hl
  unfold f_X7_in at h
  refine lv_lload_n hx hb dX7_in_0 rfl (lv_at hl 0 rfl) ?_
  refine lv_lload_n hx hb dX7_in_1 rfl (lv_at hl 1 rfl) ?_
  refine W.lcmp hx hb dX7_in_2 ?_
  refine x_if_lt (tgt := 17) hx hb h dX7_in_3 (by decide) (fun c3 h => ?_) (fun c3 h => ?_)
  · refine lv_iconst (v := 0) hx hb dX7_in_17 (by decide) ?_
    cases h
    exact x_zret hx hb hr hlocks hK hP hD hS rfl rfl (Or.inl rfl) dX7_in_18
  · refine lv_lload_n hx hb dX7_in_6 rfl (lv_at hl 0 rfl) ?_
    refine lv_lload hx hb dX7_in_7 (lv_at hl 2 rfl) ?_
    refine W.lcmp hx hb dX7_in_9 ?_
    refine x_if_gt (tgt := 17) hx hb h dX7_in_10 (by decide) (fun c10 h => ?_) (fun c10 h => ?_)
    · refine lv_iconst (v := 0) hx hb dX7_in_17 (by decide) ?_
      cases h
      exact x_zret hx hb hr hlocks hK hP hD hS rfl rfl (Or.inl rfl) dX7_in_18
    · refine lv_iconst (v := 1) hx hb dX7_in_13 (by decide) ?_
      refine lv_goto (tgt := 18) hx hb dX7_in_14 (by decide) ?_
      cases h
      exact x_zret hx hb hr hlocks hK hP hD hS rfl rfl (Or.inr rfl) dX7_in_18

def f_X7_held   (p0 : Int32) (p1 : Int32) (p2 : Int32) : Option ((Int32)) :=
  (if p1 ≤ p0 then (if p0 ≤ p2 then some (p0) else some (p2)) else some (p1))
set_option maxHeartbeats 600000 in
set_option maxRecDepth 100000 in
theorem c_X7_held (l : Launch) (D : va_G) (cI cS : ClassId) (o : Nat → Nat)  {p0 : Int32} {p1 : Int32} {p2 : Int32}  {r_out : Int32} (h : f_X7_held   p0 p1 p2 = some (r_out)) : MetI l D (tysX cI cS) St0 yX7_held cX7_held 3 (some .int) 0 0 [.int p0, .int p1, .int p2] [] r_out [] := by
  refine Ent.metI (by decide +kernel) (Nat.le_of_ble_eq_true rfl) ?_
  intro p e s m args below meth c A ls hx hb hr hml hown hts hlocks hA hK hSt hP hD hS hl
  have hown : s.vm.findClass RX7 = some m.cls := hown
  have S : XFix p m c cX7_held 3 s args RX7 := ⟨hx, hb, hml, hown, hts⟩
  have hl : lv_has ls 3 [(0, .int p0), (1, .int p1), (2, .int p2)] := hl
  unfold f_X7_held at h
  refine lv_iload_n hx hb dX7_held_0 rfl (lv_at hl 0 rfl) ?_
  refine lv_iload_n hx hb dX7_held_1 rfl (lv_at hl 1 rfl) ?_
  refine x_icmp_ge (tgt := 9) hx hb h dX7_held_2 (by decide) (fun c2 h => ?_) (fun c2 h => ?_)
  · refine lv_iload_n hx hb dX7_held_9 rfl (lv_at hl 0 rfl) ?_
    refine lv_iload_n hx hb dX7_held_10 rfl (lv_at hl 2 rfl) ?_
    refine x_icmp_le (tgt := 18) hx hb h dX7_held_11 (by decide) (fun c11 h => ?_) (fun c11 h => ?_)
    · refine lv_iload_n hx hb dX7_held_18 rfl (lv_at hl 0 rfl) ?_
      cases h
      exact x_iret hx hb hr hlocks hK hP hD hS rfl rfl dX7_held_19
    · refine lv_iload_n hx hb dX7_held_14 rfl (lv_at hl 2 rfl) ?_
      refine lv_goto (tgt := 19) hx hb dX7_held_15 (by decide) ?_
      cases h
      exact x_iret hx hb hr hlocks hK hP hD hS rfl rfl dX7_held_19
  · refine lv_iload_n hx hb dX7_held_5 rfl (lv_at hl 1 rfl) ?_
    refine lv_goto (tgt := 19) hx hb dX7_held_6 (by decide) ?_
    cases h
    exact x_iret hx hb hr hlocks hK hP hD hS rfl rfl dX7_held_19

def f_X7_isPerson  (v_d : Nat → Int32) (p0 : Int32) : Option ((Int32)) :=
  rdA 248 v_d 0 (fun x_1 => bd1 (f_X7_in (p0.toInt64) 0 ((x_1 - 1).toInt64)) (fun r_2 => bzA r_2 (some (r_2))))
set_option maxHeartbeats 600000 in
set_option maxRecDepth 100000 in
theorem c_X7_isPerson (l : Launch) (D : va_G) (cI cS : ClassId) (o : Nat → Nat) {v_d : Nat → Int32} {v_kept : Nat → Int32} {v_images : Int32} {v_found : Nat → Int32} {v_aside : Nat → Int32} {v_base : Int32} {v_at : Int32} {v_size : Int32} {v_fault : Int32} {v_opened : Int32} {v_isCold : Int32} {v_names : Nat → Int32} {v_code : Nat → Int32} {v_coded : Int32} {v_pile : Nat → Int32} {v_horn : Int32} {v_brass : Int32} {v_coldAhead : Nat → Int32} {v_which : Nat → Int32} {v_whichMany : Int32} {v_bestPass : Int32} {v_bestLive : Int32} {v_bestCode : Int32} {v_traced : Nat → Int32} {v_traceMany : Int32} {v_who : Int32} {v_bitsOf : Nat → Int32} {v_sizeOf : Nat → Int32} {v_number : Nat → Int32} {v_lifted : Nat → Int32} {p0 : Int32}  {r_out : Int32} (h : f_X7_isPerson  v_d p0 = some (r_out)) : MetI l D (tysX cI cS) St0 yX7_isPerson cX7_isPerson 2 (some .boolean) 1 25 [.ref (o 0), .int p0] (pcX7 o cI v_d v_kept v_images v_found v_aside v_base v_at v_size v_fault v_opened v_isCold v_names v_code v_coded v_pile v_horn v_brass v_coldAhead v_which v_whichMany v_bestPass v_bestLive v_bestCode v_traced v_traceMany v_who v_bitsOf v_sizeOf v_number v_lifted) r_out (pcX7 o cI v_d v_kept v_images v_found v_aside v_base v_at v_size v_fault v_opened v_isCold v_names v_code v_coded v_pile v_horn v_brass v_coldAhead v_which v_whichMany v_bestPass v_bestLive v_bestCode v_traced v_traceMany v_who v_bitsOf v_sizeOf v_number v_lifted) := by
  refine Ent.metI (by decide +kernel) (Nat.le_of_ble_eq_true rfl) ?_
  intro p e s m args below meth c A ls hx hb hr hml hown hts hlocks hA hK hSt hP hD hS hl
  have hown : s.vm.findClass RX7 = some m.cls := hown
  have S : XFix p m c cX7_isPerson 2 s args RX7 := ⟨hx, hb, hml, hown, hts⟩
  have hl : lv_has ls 2 [(0, .ref (o 0)), (1, .int p0)] := hl
  unfold f_X7_isPerson at h
  refine lv_iload_n hx hb dX7_isPerson_0 rfl (lv_at hl 1 rfl) ?_
  refine lv_i2l (v := (p0.toInt64)) hx hb dX7_isPerson_1 rfl ?_
  refine lv_lconst (v := 0) hx hb dX7_isPerson_2 (by decide) ?_
  refine lv_aload_n hx hb dX7_isPerson_3 rfl (lv_at hl 0 rfl) ?_
  refine gt_X7_7 S hK hP 0 rfl rfl dX7_isPerson_4 ?_
  refine lv_iconst (v := 0) hx hb dX7_isPerson_7 (by decide) ?_
  refine x_ald hx hb hK hP 1 h rfl rfl dX7_isPerson_8 (fun x_1 ex_1 h => ?_)
  refine lv_iconst (v := 1) hx hb dX7_isPerson_9 (by decide) ?_
  refine lv_isub hx hb dX7_isPerson_10 ?_
  refine lv_i2l (v := ((x_1 - 1).toInt64)) hx hb dX7_isPerson_11 rfl ?_
  obtain ⟨r_2, hc12, h⟩ := bd1_s h
  refine x_statI (As := [.long (p0.toInt64), .long 0, .long ((x_1 - 1).toInt64)]) (rest := []) St0_ok S (c_X7_in l D cI cS o hc12) ys_X7_in wd6_7 ⟨Nat.le_of_ble_eq_true rfl, Nat.le_of_ble_eq_true rfl⟩ hK hSt hA hP hD hS rfl hl.1 rfl (Nat.le_of_ble_eq_true rfl) dX7_isPerson_12 (Nat.zero_le _) (Nat.zero_le _) (fun H locs hP hD hS => ?_)
  obtain ⟨hz15, h⟩ := bzA_s h
  cases h
  exact x_zret hx hb hr hlocks hK hP hD hS rfl rfl hz15 dX7_isPerson_15

def f_X7_isMotion  (v_d : Nat → Int32) (p0 : Int32) : Option ((Int32)) :=
  rdA 248 v_d 1 (fun x_1 => bd1 (f_X7_in (p0.toInt64) 0 ((x_1 - 1).toInt64)) (fun r_2 => bzA r_2 (some (r_2))))
set_option maxHeartbeats 600000 in
set_option maxRecDepth 100000 in
theorem c_X7_isMotion (l : Launch) (D : va_G) (cI cS : ClassId) (o : Nat → Nat) {v_d : Nat → Int32} {v_kept : Nat → Int32} {v_images : Int32} {v_found : Nat → Int32} {v_aside : Nat → Int32} {v_base : Int32} {v_at : Int32} {v_size : Int32} {v_fault : Int32} {v_opened : Int32} {v_isCold : Int32} {v_names : Nat → Int32} {v_code : Nat → Int32} {v_coded : Int32} {v_pile : Nat → Int32} {v_horn : Int32} {v_brass : Int32} {v_coldAhead : Nat → Int32} {v_which : Nat → Int32} {v_whichMany : Int32} {v_bestPass : Int32} {v_bestLive : Int32} {v_bestCode : Int32} {v_traced : Nat → Int32} {v_traceMany : Int32} {v_who : Int32} {v_bitsOf : Nat → Int32} {v_sizeOf : Nat → Int32} {v_number : Nat → Int32} {v_lifted : Nat → Int32} {p0 : Int32}  {r_out : Int32} (h : f_X7_isMotion  v_d p0 = some (r_out)) : MetI l D (tysX cI cS) St0 yX7_isMotion cX7_isMotion 2 (some .boolean) 1 25 [.ref (o 0), .int p0] (pcX7 o cI v_d v_kept v_images v_found v_aside v_base v_at v_size v_fault v_opened v_isCold v_names v_code v_coded v_pile v_horn v_brass v_coldAhead v_which v_whichMany v_bestPass v_bestLive v_bestCode v_traced v_traceMany v_who v_bitsOf v_sizeOf v_number v_lifted) r_out (pcX7 o cI v_d v_kept v_images v_found v_aside v_base v_at v_size v_fault v_opened v_isCold v_names v_code v_coded v_pile v_horn v_brass v_coldAhead v_which v_whichMany v_bestPass v_bestLive v_bestCode v_traced v_traceMany v_who v_bitsOf v_sizeOf v_number v_lifted) := by
  refine Ent.metI (by decide +kernel) (Nat.le_of_ble_eq_true rfl) ?_
  intro p e s m args below meth c A ls hx hb hr hml hown hts hlocks hA hK hSt hP hD hS hl
  have hown : s.vm.findClass RX7 = some m.cls := hown
  have S : XFix p m c cX7_isMotion 2 s args RX7 := ⟨hx, hb, hml, hown, hts⟩
  have hl : lv_has ls 2 [(0, .ref (o 0)), (1, .int p0)] := hl
  unfold f_X7_isMotion at h
  refine lv_iload_n hx hb dX7_isMotion_0 rfl (lv_at hl 1 rfl) ?_
  refine lv_i2l (v := (p0.toInt64)) hx hb dX7_isMotion_1 rfl ?_
  refine lv_lconst (v := 0) hx hb dX7_isMotion_2 (by decide) ?_
  refine lv_aload_n hx hb dX7_isMotion_3 rfl (lv_at hl 0 rfl) ?_
  refine gt_X7_7 S hK hP 0 rfl rfl dX7_isMotion_4 ?_
  refine lv_iconst (v := 1) hx hb dX7_isMotion_7 (by decide) ?_
  refine x_ald hx hb hK hP 1 h rfl rfl dX7_isMotion_8 (fun x_1 ex_1 h => ?_)
  refine lv_iconst (v := 1) hx hb dX7_isMotion_9 (by decide) ?_
  refine lv_isub hx hb dX7_isMotion_10 ?_
  refine lv_i2l (v := ((x_1 - 1).toInt64)) hx hb dX7_isMotion_11 rfl ?_
  obtain ⟨r_2, hc12, h⟩ := bd1_s h
  refine x_statI (As := [.long (p0.toInt64), .long 0, .long ((x_1 - 1).toInt64)]) (rest := []) St0_ok S (c_X7_in l D cI cS o hc12) ys_X7_in wd6_7 ⟨Nat.le_of_ble_eq_true rfl, Nat.le_of_ble_eq_true rfl⟩ hK hSt hA hP hD hS rfl hl.1 rfl (Nat.le_of_ble_eq_true rfl) dX7_isMotion_12 (Nat.zero_le _) (Nat.zero_le _) (fun H locs hP hD hS => ?_)
  obtain ⟨hz15, h⟩ := bzA_s h
  cases h
  exact x_zret hx hb hr hlocks hK hP hD hS rfl rfl hz15 dX7_isMotion_15

def f_X7_of  (v_d : Nat → Int32) (p0 : Int32) (p1 : Int32) : Option ((Int32)) :=
  rdA 248 v_d ((10 + (6 * p0)) + p1) (fun x_1 => some (x_1))
set_option maxHeartbeats 600000 in
set_option maxRecDepth 100000 in
theorem c_X7_of (l : Launch) (D : va_G) (cI cS : ClassId) (o : Nat → Nat) {v_d : Nat → Int32} {v_kept : Nat → Int32} {v_images : Int32} {v_found : Nat → Int32} {v_aside : Nat → Int32} {v_base : Int32} {v_at : Int32} {v_size : Int32} {v_fault : Int32} {v_opened : Int32} {v_isCold : Int32} {v_names : Nat → Int32} {v_code : Nat → Int32} {v_coded : Int32} {v_pile : Nat → Int32} {v_horn : Int32} {v_brass : Int32} {v_coldAhead : Nat → Int32} {v_which : Nat → Int32} {v_whichMany : Int32} {v_bestPass : Int32} {v_bestLive : Int32} {v_bestCode : Int32} {v_traced : Nat → Int32} {v_traceMany : Int32} {v_who : Int32} {v_bitsOf : Nat → Int32} {v_sizeOf : Nat → Int32} {v_number : Nat → Int32} {v_lifted : Nat → Int32} {p0 : Int32} {p1 : Int32}  {r_out : Int32} (h : f_X7_of  v_d p0 p1 = some (r_out)) : MetI l D (tysX cI cS) St0 yX7_of cX7_of 3 (some .int) 0 0 [.ref (o 0), .int p0, .int p1] (pcX7 o cI v_d v_kept v_images v_found v_aside v_base v_at v_size v_fault v_opened v_isCold v_names v_code v_coded v_pile v_horn v_brass v_coldAhead v_which v_whichMany v_bestPass v_bestLive v_bestCode v_traced v_traceMany v_who v_bitsOf v_sizeOf v_number v_lifted) r_out (pcX7 o cI v_d v_kept v_images v_found v_aside v_base v_at v_size v_fault v_opened v_isCold v_names v_code v_coded v_pile v_horn v_brass v_coldAhead v_which v_whichMany v_bestPass v_bestLive v_bestCode v_traced v_traceMany v_who v_bitsOf v_sizeOf v_number v_lifted) := by
  refine Ent.metI (by decide +kernel) (Nat.le_of_ble_eq_true rfl) ?_
  intro p e s m args below meth c A ls hx hb hr hml hown hts hlocks hA hK hSt hP hD hS hl
  have hown : s.vm.findClass RX7 = some m.cls := hown
  have S : XFix p m c cX7_of 3 s args RX7 := ⟨hx, hb, hml, hown, hts⟩
  have hl : lv_has ls 3 [(0, .ref (o 0)), (1, .int p0), (2, .int p1)] := hl
  unfold f_X7_of at h
  refine lv_aload_n hx hb dX7_of_0 rfl (lv_at hl 0 rfl) ?_
  refine gt_X7_7 S hK hP 0 rfl rfl dX7_of_1 ?_
  refine lv_bipush (v := 10) hx hb dX7_of_4 (by decide) ?_
  refine lv_bipush (v := 6) hx hb dX7_of_6 (by decide) ?_
  refine lv_iload_n hx hb dX7_of_8 rfl (lv_at hl 1 rfl) ?_
  refine lv_imul hx hb dX7_of_9 ?_
  refine lv_iadd hx hb dX7_of_10 ?_
  refine lv_iload_n hx hb dX7_of_11 rfl (lv_at hl 2 rfl) ?_
  refine lv_iadd hx hb dX7_of_12 ?_
  refine x_ald hx hb hK hP 1 h rfl rfl dX7_of_13 (fun x_1 ex_1 h => ?_)
  cases h
  exact x_iret hx hb hr hlocks hK hP hD hS rfl rfl dX7_of_14

def f_X7_sets  (v_d : Nat → Int32) (p0 : Int32) (p1 : Int32) (p2 : Int32) : Option ((Nat → Int32)) :=
  wrA 248 v_d ((10 + (6 * p0)) + p1) p2 (fun v_d_1 => some (v_d_1))
set_option maxHeartbeats 600000 in
set_option maxRecDepth 100000 in
theorem c_X7_sets (l : Launch) (D : va_G) (cI cS : ClassId) (o : Nat → Nat) {v_d : Nat → Int32} {v_kept : Nat → Int32} {v_images : Int32} {v_found : Nat → Int32} {v_aside : Nat → Int32} {v_base : Int32} {v_at : Int32} {v_size : Int32} {v_fault : Int32} {v_opened : Int32} {v_isCold : Int32} {v_names : Nat → Int32} {v_code : Nat → Int32} {v_coded : Int32} {v_pile : Nat → Int32} {v_horn : Int32} {v_brass : Int32} {v_coldAhead : Nat → Int32} {v_which : Nat → Int32} {v_whichMany : Int32} {v_bestPass : Int32} {v_bestLive : Int32} {v_bestCode : Int32} {v_traced : Nat → Int32} {v_traceMany : Int32} {v_who : Int32} {v_bitsOf : Nat → Int32} {v_sizeOf : Nat → Int32} {v_number : Nat → Int32} {v_lifted : Nat → Int32} {p0 : Int32} {p1 : Int32} {p2 : Int32} {w_d : Nat → Int32} (h : f_X7_sets  v_d p0 p1 p2 = some (w_d)) : MetV l D (tysX cI cS) St0 yX7_sets cX7_sets 4 none 0 0 [.ref (o 0), .int p0, .int p1, .int p2] (pcX7 o cI v_d v_kept v_images v_found v_aside v_base v_at v_size v_fault v_opened v_isCold v_names v_code v_coded v_pile v_horn v_brass v_coldAhead v_which v_whichMany v_bestPass v_bestLive v_bestCode v_traced v_traceMany v_who v_bitsOf v_sizeOf v_number v_lifted) (pcX7 o cI w_d v_kept v_images v_found v_aside v_base v_at v_size v_fault v_opened v_isCold v_names v_code v_coded v_pile v_horn v_brass v_coldAhead v_which v_whichMany v_bestPass v_bestLive v_bestCode v_traced v_traceMany v_who v_bitsOf v_sizeOf v_number v_lifted) := by
  refine Ent.metV (by decide +kernel) (Nat.le_of_ble_eq_true rfl) ?_
  intro p e s m args below meth c A ls hx hb hr hml hown hts hlocks hA hK hSt hP hD hS hl
  have hown : s.vm.findClass RX7 = some m.cls := hown
  have S : XFix p m c cX7_sets 4 s args RX7 := ⟨hx, hb, hml, hown, hts⟩
  have hl : lv_has ls 4 [(0, .ref (o 0)), (1, .int p0), (2, .int p1), (3, .int p2)] := hl
  unfold f_X7_sets at h
  refine lv_aload_n hx hb dX7_sets_0 rfl (lv_at hl 0 rfl) ?_
  refine gt_X7_7 S hK hP 0 rfl rfl dX7_sets_1 ?_
  refine lv_bipush (v := 10) hx hb dX7_sets_4 (by decide) ?_
  refine lv_bipush (v := 6) hx hb dX7_sets_6 (by decide) ?_
  refine lv_iload_n hx hb dX7_sets_8 rfl (lv_at hl 1 rfl) ?_
  refine lv_imul hx hb dX7_sets_9 ?_
  refine lv_iadd hx hb dX7_sets_10 ?_
  refine lv_iload_n hx hb dX7_sets_11 rfl (lv_at hl 2 rfl) ?_
  refine lv_iadd hx hb dX7_sets_12 ?_
  refine lv_iload_n hx hb dX7_sets_13 rfl (lv_at hl 3 rfl) ?_
  refine x_ast hx hb hK hP hD hS 1 h rfl rfl dX7_sets_14 (fun v_d_1 ev_d_1 h H locs hP hD hS => ?_)
  have hP : va_P D vwCl (pcX7 o cI v_d_1 v_kept v_images v_found v_aside v_base v_at v_size v_fault v_opened v_isCold v_names v_code v_coded v_pile v_horn v_brass v_coldAhead v_which v_whichMany v_bestPass v_bestLive v_bestCode v_traced v_traceMany v_who v_bitsOf v_sizeOf v_number v_lifted) H := hP
  have hD : va_D A (pcX7 o cI v_d_1 v_kept v_images v_found v_aside v_base v_at v_size v_fault v_opened v_isCold v_names v_code v_coded v_pile v_horn v_brass v_coldAhead v_which v_whichMany v_bestPass v_bestLive v_bestCode v_traced v_traceMany v_who v_bitsOf v_sizeOf v_number v_lifted) := hD
  cases h
  exact x_vret hx hb hr hlocks hK hP hD hS rfl dX7_sets_15

def f_X7_its  (v_d : Nat → Int32) (p0 : Int32) (p1 : Int32) : Option ((Int32)) :=
  rdA 248 v_d ((58 + (3 * p0)) + p1) (fun x_1 => some (x_1))
set_option maxHeartbeats 600000 in
set_option maxRecDepth 100000 in
theorem c_X7_its (l : Launch) (D : va_G) (cI cS : ClassId) (o : Nat → Nat) {v_d : Nat → Int32} {v_kept : Nat → Int32} {v_images : Int32} {v_found : Nat → Int32} {v_aside : Nat → Int32} {v_base : Int32} {v_at : Int32} {v_size : Int32} {v_fault : Int32} {v_opened : Int32} {v_isCold : Int32} {v_names : Nat → Int32} {v_code : Nat → Int32} {v_coded : Int32} {v_pile : Nat → Int32} {v_horn : Int32} {v_brass : Int32} {v_coldAhead : Nat → Int32} {v_which : Nat → Int32} {v_whichMany : Int32} {v_bestPass : Int32} {v_bestLive : Int32} {v_bestCode : Int32} {v_traced : Nat → Int32} {v_traceMany : Int32} {v_who : Int32} {v_bitsOf : Nat → Int32} {v_sizeOf : Nat → Int32} {v_number : Nat → Int32} {v_lifted : Nat → Int32} {p0 : Int32} {p1 : Int32}  {r_out : Int32} (h : f_X7_its  v_d p0 p1 = some (r_out)) : MetI l D (tysX cI cS) St0 yX7_its cX7_its 3 (some .int) 0 0 [.ref (o 0), .int p0, .int p1] (pcX7 o cI v_d v_kept v_images v_found v_aside v_base v_at v_size v_fault v_opened v_isCold v_names v_code v_coded v_pile v_horn v_brass v_coldAhead v_which v_whichMany v_bestPass v_bestLive v_bestCode v_traced v_traceMany v_who v_bitsOf v_sizeOf v_number v_lifted) r_out (pcX7 o cI v_d v_kept v_images v_found v_aside v_base v_at v_size v_fault v_opened v_isCold v_names v_code v_coded v_pile v_horn v_brass v_coldAhead v_which v_whichMany v_bestPass v_bestLive v_bestCode v_traced v_traceMany v_who v_bitsOf v_sizeOf v_number v_lifted) := by
  refine Ent.metI (by decide +kernel) (Nat.le_of_ble_eq_true rfl) ?_
  intro p e s m args below meth c A ls hx hb hr hml hown hts hlocks hA hK hSt hP hD hS hl
  have hown : s.vm.findClass RX7 = some m.cls := hown
  have S : XFix p m c cX7_its 3 s args RX7 := ⟨hx, hb, hml, hown, hts⟩
  have hl : lv_has ls 3 [(0, .ref (o 0)), (1, .int p0), (2, .int p1)] := hl
  unfold f_X7_its at h
  refine lv_aload_n hx hb dX7_its_0 rfl (lv_at hl 0 rfl) ?_
  refine gt_X7_7 S hK hP 0 rfl rfl dX7_its_1 ?_
  refine lv_bipush (v := 58) hx hb dX7_its_4 (by decide) ?_
  refine lv_iconst (v := 3) hx hb dX7_its_6 (by decide) ?_
  refine lv_iload_n hx hb dX7_its_7 rfl (lv_at hl 1 rfl) ?_
  refine lv_imul hx hb dX7_its_8 ?_
  refine lv_iadd hx hb dX7_its_9 ?_
  refine lv_iload_n hx hb dX7_its_10 rfl (lv_at hl 2 rfl) ?_
  refine lv_iadd hx hb dX7_its_11 ?_
  refine x_ald hx hb hK hP 1 h rfl rfl dX7_its_12 (fun x_1 ex_1 h => ?_)
  cases h
  exact x_iret hx hb hr hlocks hK hP hD hS rfl rfl dX7_its_13

def f_X7_keepAside_L2 (v_d : Nat → Int32) : Nat → (Nat → Int32) → Int32 → Option ((Nat → Int32))
  | 0, _, _ => none
  | k_n + 1, v_aside_1, l1_2 => (if 76 ≤ l1_2 then some (v_aside_1) else rdA 248 v_d l1_2 (fun x_3 => wrA 76 v_aside_1 l1_2 x_3 (fun v_aside_4 => nmA (l1_2 + 1) (fun l1_5 => f_X7_keepAside_L2 v_d k_n v_aside_4 l1_5))))
def f_X7_keepAside  (v_d : Nat → Int32) (v_aside : Nat → Int32)  : Option ((Nat → Int32)) :=
  f_X7_keepAside_L2 v_d 300 v_aside 0
set_option maxHeartbeats 600000 in
set_option maxRecDepth 100000 in
theorem c_X7_keepAside (l : Launch) (D : va_G) (cI cS : ClassId) (o : Nat → Nat) {v_d : Nat → Int32} {v_kept : Nat → Int32} {v_images : Int32} {v_found : Nat → Int32} {v_aside : Nat → Int32} {v_base : Int32} {v_at : Int32} {v_size : Int32} {v_fault : Int32} {v_opened : Int32} {v_isCold : Int32} {v_names : Nat → Int32} {v_code : Nat → Int32} {v_coded : Int32} {v_pile : Nat → Int32} {v_horn : Int32} {v_brass : Int32} {v_coldAhead : Nat → Int32} {v_which : Nat → Int32} {v_whichMany : Int32} {v_bestPass : Int32} {v_bestLive : Int32} {v_bestCode : Int32} {v_traced : Nat → Int32} {v_traceMany : Int32} {v_who : Int32} {v_bitsOf : Nat → Int32} {v_sizeOf : Nat → Int32} {v_number : Nat → Int32} {v_lifted : Nat → Int32}  {w_aside : Nat → Int32} (h : f_X7_keepAside  v_d v_aside  = some (w_aside)) : MetV l D (tysX cI cS) St0 yX7_keepAside cX7_keepAside 2 none 0 0 [.ref (o 0)] (pcX7 o cI v_d v_kept v_images v_found v_aside v_base v_at v_size v_fault v_opened v_isCold v_names v_code v_coded v_pile v_horn v_brass v_coldAhead v_which v_whichMany v_bestPass v_bestLive v_bestCode v_traced v_traceMany v_who v_bitsOf v_sizeOf v_number v_lifted) (pcX7 o cI v_d v_kept v_images v_found w_aside v_base v_at v_size v_fault v_opened v_isCold v_names v_code v_coded v_pile v_horn v_brass v_coldAhead v_which v_whichMany v_bestPass v_bestLive v_bestCode v_traced v_traceMany v_who v_bitsOf v_sizeOf v_number v_lifted) := by
  refine Ent.metV (by decide +kernel) (Nat.le_of_ble_eq_true rfl) ?_
  intro p e s m args below meth c A ls hx hb hr hml hown hts hlocks hA hK hSt hP hD hS hl
  have hown : s.vm.findClass RX7 = some m.cls := hown
  have S : XFix p m c cX7_keepAside 2 s args RX7 := ⟨hx, hb, hml, hown, hts⟩
  have hl : lv_has ls 2 [(0, .ref (o 0))] := hl
  unfold f_X7_keepAside at h
  refine lv_iconst (v := 0) hx hb dX7_keepAside_0 (by decide) ?_
  refine lv_istore_n (lv' := [(1, .int 0), (0, .ref (o 0))]) hx hb dX7_keepAside_1 rfl hl (by decide) rfl (fun ls hl => ?_)
  have wf_X7_keepAside_L2 : ∀ (k_n : Nat) (v_aside_1 : Nat → Int32) (l1_2 : Int32), f_X7_keepAside_L2 v_d k_n v_aside_1 l1_2 = some (w_aside) → ∀ (H : Heap) (locs : List Loc), va_P D vwCl (pcX7 o cI v_d v_kept v_images v_found v_aside_1 v_base v_at v_size v_fault v_opened v_isCold v_names v_code v_coded v_pile v_horn v_brass v_coldAhead v_which v_whichMany v_bestPass v_bestLive v_bestCode v_traced v_traceMany v_who v_bitsOf v_sizeOf v_number v_lifted) H → va_D A (pcX7 o cI v_d v_kept v_images v_found v_aside_1 v_base v_at v_size v_fault v_opened v_isCold v_names v_code v_coded v_pile v_horn v_brass v_coldAhead v_which v_whichMany v_bestPass v_bestLive v_bestCode v_traced v_traceMany v_who v_bitsOf v_sizeOf v_number v_lifted) → va_S A s.heap H locs → ∀ ls : Array Slot, lv_has ls 2 [(0, .ref (o 0)), (1, .int l1_2)] → WV p l e 0 0 s m args below meth c D (tysX cI cS) A (pcX7 o cI v_d v_kept v_images v_found w_aside v_base v_at v_size v_fault v_opened v_isCold v_names v_code v_coded v_pile v_horn v_brass v_coldAhead v_which v_whichMany v_bestPass v_bestLive v_bestCode v_traced v_traceMany v_who v_bitsOf v_sizeOf v_number v_lifted) H locs (F0 m 2 ls []) := by
      intro k_n
      induction k_n with
      | zero => intro v_aside_1 l1_2 h; rw [f_X7_keepAside_L2] at h; cases h
      | succ k_n ih =>
        intro v_aside_1 l1_2 h H locs hP hD hS ls hl
        rw [f_X7_keepAside_L2] at h
        refine lv_iload_n hx hb dX7_keepAside_2 rfl (lv_at hl 1 rfl) ?_
        refine lv_bipush (v := 76) hx hb dX7_keepAside_3 (by decide) ?_
        refine x_icmp_ge (tgt := 26) hx hb h dX7_keepAside_5 (by decide) (fun c5 h => ?_) (fun c5 h => ?_)
        · cases h
          exact x_vret hx hb hr hlocks hK hP hD hS rfl dX7_keepAside_26
        · refine lv_aload_n hx hb dX7_keepAside_8 rfl (lv_at hl 0 rfl) ?_
          refine gt_X7_19 S hK hP 0 rfl rfl dX7_keepAside_9 ?_
          refine lv_iload_n hx hb dX7_keepAside_12 rfl (lv_at hl 1 rfl) ?_
          refine lv_aload_n hx hb dX7_keepAside_13 rfl (lv_at hl 0 rfl) ?_
          refine gt_X7_7 S hK hP 0 rfl rfl dX7_keepAside_14 ?_
          refine lv_iload_n hx hb dX7_keepAside_17 rfl (lv_at hl 1 rfl) ?_
          refine x_ald hx hb hK hP 1 h rfl rfl dX7_keepAside_18 (fun x_3 ex_3 h => ?_)
          refine x_ast hx hb hK hP hD hS 4 h rfl rfl dX7_keepAside_19 (fun v_aside_4 ev_aside_4 h H locs hP hD hS => ?_)
          have hP : va_P D vwCl (pcX7 o cI v_d v_kept v_images v_found v_aside_4 v_base v_at v_size v_fault v_opened v_isCold v_names v_code v_coded v_pile v_horn v_brass v_coldAhead v_which v_whichMany v_bestPass v_bestLive v_bestCode v_traced v_traceMany v_who v_bitsOf v_sizeOf v_number v_lifted) H := hP
          have hD : va_D A (pcX7 o cI v_d v_kept v_images v_found v_aside_4 v_base v_at v_size v_fault v_opened v_isCold v_names v_code v_coded v_pile v_horn v_brass v_coldAhead v_which v_whichMany v_bestPass v_bestLive v_bestCode v_traced v_traceMany v_who v_bitsOf v_sizeOf v_number v_lifted) := hD
          obtain ⟨l1_5, el1_5, h⟩ := nmA_s h
          refine lv_iinc (v := l1_5) (lv' := [(1, .int l1_5), (0, .ref (o 0))]) hx hb dX7_keepAside_20 hl (k := 1) rfl (by rw [el1_5]; exact congrArg _ (by decide)) (by decide) rfl (fun ls hl => ?_)
          refine lv_goto (tgt := 2) hx hb dX7_keepAside_23 (by decide) ?_
          exact ih v_aside_4 l1_5 h _ _ hP hD hS _ (lv_sub hl [1, 0] rfl)
  exact wf_X7_keepAside_L2 300 v_aside 0 h _ _ hP hD hS _ (lv_sub hl [1, 0] rfl)

def f_X7_putBack_L2 (v_aside : Nat → Int32) : Nat → (Nat → Int32) → Int32 → Option ((Nat → Int32))
  | 0, _, _ => none
  | k_n + 1, v_d_1, l1_2 => (if 76 ≤ l1_2 then some (v_d_1) else rdA 76 v_aside l1_2 (fun x_3 => wrA 248 v_d_1 l1_2 x_3 (fun v_d_4 => nmA (l1_2 + 1) (fun l1_5 => f_X7_putBack_L2 v_aside k_n v_d_4 l1_5))))
def f_X7_putBack  (v_d : Nat → Int32) (v_aside : Nat → Int32)  : Option ((Nat → Int32)) :=
  f_X7_putBack_L2 v_aside 300 v_d 0
set_option maxHeartbeats 600000 in
set_option maxRecDepth 100000 in
theorem c_X7_putBack (l : Launch) (D : va_G) (cI cS : ClassId) (o : Nat → Nat) {v_d : Nat → Int32} {v_kept : Nat → Int32} {v_images : Int32} {v_found : Nat → Int32} {v_aside : Nat → Int32} {v_base : Int32} {v_at : Int32} {v_size : Int32} {v_fault : Int32} {v_opened : Int32} {v_isCold : Int32} {v_names : Nat → Int32} {v_code : Nat → Int32} {v_coded : Int32} {v_pile : Nat → Int32} {v_horn : Int32} {v_brass : Int32} {v_coldAhead : Nat → Int32} {v_which : Nat → Int32} {v_whichMany : Int32} {v_bestPass : Int32} {v_bestLive : Int32} {v_bestCode : Int32} {v_traced : Nat → Int32} {v_traceMany : Int32} {v_who : Int32} {v_bitsOf : Nat → Int32} {v_sizeOf : Nat → Int32} {v_number : Nat → Int32} {v_lifted : Nat → Int32}  {w_d : Nat → Int32} (h : f_X7_putBack  v_d v_aside  = some (w_d)) : MetV l D (tysX cI cS) St0 yX7_putBack cX7_putBack 2 none 0 0 [.ref (o 0)] (pcX7 o cI v_d v_kept v_images v_found v_aside v_base v_at v_size v_fault v_opened v_isCold v_names v_code v_coded v_pile v_horn v_brass v_coldAhead v_which v_whichMany v_bestPass v_bestLive v_bestCode v_traced v_traceMany v_who v_bitsOf v_sizeOf v_number v_lifted) (pcX7 o cI w_d v_kept v_images v_found v_aside v_base v_at v_size v_fault v_opened v_isCold v_names v_code v_coded v_pile v_horn v_brass v_coldAhead v_which v_whichMany v_bestPass v_bestLive v_bestCode v_traced v_traceMany v_who v_bitsOf v_sizeOf v_number v_lifted) := by
  refine Ent.metV (by decide +kernel) (Nat.le_of_ble_eq_true rfl) ?_
  intro p e s m args below meth c A ls hx hb hr hml hown hts hlocks hA hK hSt hP hD hS hl
  have hown : s.vm.findClass RX7 = some m.cls := hown
  have S : XFix p m c cX7_putBack 2 s args RX7 := ⟨hx, hb, hml, hown, hts⟩
  have hl : lv_has ls 2 [(0, .ref (o 0))] := hl
  unfold f_X7_putBack at h
  refine lv_iconst (v := 0) hx hb dX7_putBack_0 (by decide) ?_
  refine lv_istore_n (lv' := [(1, .int 0), (0, .ref (o 0))]) hx hb dX7_putBack_1 rfl hl (by decide) rfl (fun ls hl => ?_)
  have wf_X7_putBack_L2 : ∀ (k_n : Nat) (v_d_1 : Nat → Int32) (l1_2 : Int32), f_X7_putBack_L2 v_aside k_n v_d_1 l1_2 = some (w_d) → ∀ (H : Heap) (locs : List Loc), va_P D vwCl (pcX7 o cI v_d_1 v_kept v_images v_found v_aside v_base v_at v_size v_fault v_opened v_isCold v_names v_code v_coded v_pile v_horn v_brass v_coldAhead v_which v_whichMany v_bestPass v_bestLive v_bestCode v_traced v_traceMany v_who v_bitsOf v_sizeOf v_number v_lifted) H → va_D A (pcX7 o cI v_d_1 v_kept v_images v_found v_aside v_base v_at v_size v_fault v_opened v_isCold v_names v_code v_coded v_pile v_horn v_brass v_coldAhead v_which v_whichMany v_bestPass v_bestLive v_bestCode v_traced v_traceMany v_who v_bitsOf v_sizeOf v_number v_lifted) → va_S A s.heap H locs → ∀ ls : Array Slot, lv_has ls 2 [(0, .ref (o 0)), (1, .int l1_2)] → WV p l e 0 0 s m args below meth c D (tysX cI cS) A (pcX7 o cI w_d v_kept v_images v_found v_aside v_base v_at v_size v_fault v_opened v_isCold v_names v_code v_coded v_pile v_horn v_brass v_coldAhead v_which v_whichMany v_bestPass v_bestLive v_bestCode v_traced v_traceMany v_who v_bitsOf v_sizeOf v_number v_lifted) H locs (F0 m 2 ls []) := by
      intro k_n
      induction k_n with
      | zero => intro v_d_1 l1_2 h; rw [f_X7_putBack_L2] at h; cases h
      | succ k_n ih =>
        intro v_d_1 l1_2 h H locs hP hD hS ls hl
        rw [f_X7_putBack_L2] at h
        refine lv_iload_n hx hb dX7_putBack_2 rfl (lv_at hl 1 rfl) ?_
        refine lv_bipush (v := 76) hx hb dX7_putBack_3 (by decide) ?_
        refine x_icmp_ge (tgt := 26) hx hb h dX7_putBack_5 (by decide) (fun c5 h => ?_) (fun c5 h => ?_)
        · cases h
          exact x_vret hx hb hr hlocks hK hP hD hS rfl dX7_putBack_26
        · refine lv_aload_n hx hb dX7_putBack_8 rfl (lv_at hl 0 rfl) ?_
          refine gt_X7_7 S hK hP 0 rfl rfl dX7_putBack_9 ?_
          refine lv_iload_n hx hb dX7_putBack_12 rfl (lv_at hl 1 rfl) ?_
          refine lv_aload_n hx hb dX7_putBack_13 rfl (lv_at hl 0 rfl) ?_
          refine gt_X7_19 S hK hP 0 rfl rfl dX7_putBack_14 ?_
          refine lv_iload_n hx hb dX7_putBack_17 rfl (lv_at hl 1 rfl) ?_
          refine x_ald hx hb hK hP 4 h rfl rfl dX7_putBack_18 (fun x_3 ex_3 h => ?_)
          refine x_ast hx hb hK hP hD hS 1 h rfl rfl dX7_putBack_19 (fun v_d_4 ev_d_4 h H locs hP hD hS => ?_)
          have hP : va_P D vwCl (pcX7 o cI v_d_4 v_kept v_images v_found v_aside v_base v_at v_size v_fault v_opened v_isCold v_names v_code v_coded v_pile v_horn v_brass v_coldAhead v_which v_whichMany v_bestPass v_bestLive v_bestCode v_traced v_traceMany v_who v_bitsOf v_sizeOf v_number v_lifted) H := hP
          have hD : va_D A (pcX7 o cI v_d_4 v_kept v_images v_found v_aside v_base v_at v_size v_fault v_opened v_isCold v_names v_code v_coded v_pile v_horn v_brass v_coldAhead v_which v_whichMany v_bestPass v_bestLive v_bestCode v_traced v_traceMany v_who v_bitsOf v_sizeOf v_number v_lifted) := hD
          obtain ⟨l1_5, el1_5, h⟩ := nmA_s h
          refine lv_iinc (v := l1_5) (lv' := [(1, .int l1_5), (0, .ref (o 0))]) hx hb dX7_putBack_20 hl (k := 1) rfl (by rw [el1_5]; exact congrArg _ (by decide)) (by decide) rfl (fun ls hl => ?_)
          refine lv_goto (tgt := 2) hx hb dX7_putBack_23 (by decide) ?_
          exact ih v_d_4 l1_5 h _ _ hP hD hS _ (lv_sub hl [1, 0] rfl)
  exact wf_X7_putBack_L2 300 v_d 0 h _ _ hP hD hS _ (lv_sub hl [1, 0] rfl)

def f_X7_here  (v_d : Nat → Int32) (v_base : Int32) (v_at : Int32) (v_size : Int32) (v_fault : Int32)  : Option ((Int32)) :=
  (if v_size ≤ v_at then some ((-1)) else (if 0 ≤ v_fault then some ((-1)) else rdA 248 v_d (v_base + v_at) (fun x_1 => some (x_1))))
set_option maxHeartbeats 600000 in
set_option maxRecDepth 100000 in
theorem c_X7_here (l : Launch) (D : va_G) (cI cS : ClassId) (o : Nat → Nat) {v_d : Nat → Int32} {v_kept : Nat → Int32} {v_images : Int32} {v_found : Nat → Int32} {v_aside : Nat → Int32} {v_base : Int32} {v_at : Int32} {v_size : Int32} {v_fault : Int32} {v_opened : Int32} {v_isCold : Int32} {v_names : Nat → Int32} {v_code : Nat → Int32} {v_coded : Int32} {v_pile : Nat → Int32} {v_horn : Int32} {v_brass : Int32} {v_coldAhead : Nat → Int32} {v_which : Nat → Int32} {v_whichMany : Int32} {v_bestPass : Int32} {v_bestLive : Int32} {v_bestCode : Int32} {v_traced : Nat → Int32} {v_traceMany : Int32} {v_who : Int32} {v_bitsOf : Nat → Int32} {v_sizeOf : Nat → Int32} {v_number : Nat → Int32} {v_lifted : Nat → Int32}   {r_out : Int32} (h : f_X7_here  v_d v_base v_at v_size v_fault  = some (r_out)) : MetI l D (tysX cI cS) St0 yX7_here cX7_here 1 (some .int) 0 0 [.ref (o 0)] (pcX7 o cI v_d v_kept v_images v_found v_aside v_base v_at v_size v_fault v_opened v_isCold v_names v_code v_coded v_pile v_horn v_brass v_coldAhead v_which v_whichMany v_bestPass v_bestLive v_bestCode v_traced v_traceMany v_who v_bitsOf v_sizeOf v_number v_lifted) r_out (pcX7 o cI v_d v_kept v_images v_found v_aside v_base v_at v_size v_fault v_opened v_isCold v_names v_code v_coded v_pile v_horn v_brass v_coldAhead v_which v_whichMany v_bestPass v_bestLive v_bestCode v_traced v_traceMany v_who v_bitsOf v_sizeOf v_number v_lifted) := by
  refine Ent.metI (by decide +kernel) (Nat.le_of_ble_eq_true rfl) ?_
  intro p e s m args below meth c A ls hx hb hr hml hown hts hlocks hA hK hSt hP hD hS hl
  have hown : s.vm.findClass RX7 = some m.cls := hown
  have S : XFix p m c cX7_here 1 s args RX7 := ⟨hx, hb, hml, hown, hts⟩
  have hl : lv_has ls 1 [(0, .ref (o 0))] := hl
  unfold f_X7_here at h
  refine lv_aload_n hx hb dX7_here_0 rfl (lv_at hl 0 rfl) ?_
  refine gt_X7_57 S hK hP 0 rfl rfl dX7_here_1 ?_
  refine lv_aload_n hx hb dX7_here_4 rfl (lv_at hl 0 rfl) ?_
  refine gt_X7_61 S hK hP 0 rfl rfl dX7_here_5 ?_
  refine x_icmp_ge (tgt := 35) hx hb h dX7_here_8 (by decide) (fun c8 h => ?_) (fun c8 h => ?_)
  · refine lv_iconst (v := (-1)) hx hb dX7_here_35 (by decide) ?_
    cases h
    exact x_iret hx hb hr hlocks hK hP hD hS rfl rfl dX7_here_36
  · refine lv_aload_n hx hb dX7_here_11 rfl (lv_at hl 0 rfl) ?_
    refine gt_X7_64 S hK hP 0 rfl rfl dX7_here_12 ?_
    refine x_if_ge (tgt := 35) hx hb h dX7_here_15 (by decide) (fun c15 h => ?_) (fun c15 h => ?_)
    · refine lv_iconst (v := (-1)) hx hb dX7_here_35 (by decide) ?_
      cases h
      exact x_iret hx hb hr hlocks hK hP hD hS rfl rfl dX7_here_36
    · refine lv_aload_n hx hb dX7_here_18 rfl (lv_at hl 0 rfl) ?_
      refine gt_X7_7 S hK hP 0 rfl rfl dX7_here_19 ?_
      refine lv_aload_n hx hb dX7_here_22 rfl (lv_at hl 0 rfl) ?_
      refine gt_X7_67 S hK hP 0 rfl rfl dX7_here_23 ?_
      refine lv_aload_n hx hb dX7_here_26 rfl (lv_at hl 0 rfl) ?_
      refine gt_X7_57 S hK hP 0 rfl rfl dX7_here_27 ?_
      refine lv_iadd hx hb dX7_here_30 ?_
      refine x_ald hx hb hK hP 1 h rfl rfl dX7_here_31 (fun x_1 ex_1 h => ?_)
      refine lv_goto (tgt := 36) hx hb dX7_here_32 (by decide) ?_
      cases h
      exact x_iret hx hb hr hlocks hK hP hD hS rfl rfl dX7_here_36

def f_X7_wrong  (v_at : Int32) (v_fault : Int32)  : Option ((Int32)) :=
  jnA (fun (t0_1 : Int32) => some (t0_1)) (fun J19 => (if 0 ≤ v_fault then J19 v_fault else J19 v_at))
set_option maxHeartbeats 600000 in
set_option maxRecDepth 100000 in
theorem c_X7_wrong (l : Launch) (D : va_G) (cI cS : ClassId) (o : Nat → Nat) {v_d : Nat → Int32} {v_kept : Nat → Int32} {v_images : Int32} {v_found : Nat → Int32} {v_aside : Nat → Int32} {v_base : Int32} {v_at : Int32} {v_size : Int32} {v_fault : Int32} {v_opened : Int32} {v_isCold : Int32} {v_names : Nat → Int32} {v_code : Nat → Int32} {v_coded : Int32} {v_pile : Nat → Int32} {v_horn : Int32} {v_brass : Int32} {v_coldAhead : Nat → Int32} {v_which : Nat → Int32} {v_whichMany : Int32} {v_bestPass : Int32} {v_bestLive : Int32} {v_bestCode : Int32} {v_traced : Nat → Int32} {v_traceMany : Int32} {v_who : Int32} {v_bitsOf : Nat → Int32} {v_sizeOf : Nat → Int32} {v_number : Nat → Int32} {v_lifted : Nat → Int32}  {w_fault : Int32} (h : f_X7_wrong  v_at v_fault  = some (w_fault)) : MetV l D (tysX cI cS) St0 yX7_wrong cX7_wrong 1 none 0 0 [.ref (o 0)] (pcX7 o cI v_d v_kept v_images v_found v_aside v_base v_at v_size v_fault v_opened v_isCold v_names v_code v_coded v_pile v_horn v_brass v_coldAhead v_which v_whichMany v_bestPass v_bestLive v_bestCode v_traced v_traceMany v_who v_bitsOf v_sizeOf v_number v_lifted) (pcX7 o cI v_d v_kept v_images v_found v_aside v_base v_at v_size w_fault v_opened v_isCold v_names v_code v_coded v_pile v_horn v_brass v_coldAhead v_which v_whichMany v_bestPass v_bestLive v_bestCode v_traced v_traceMany v_who v_bitsOf v_sizeOf v_number v_lifted) := by
  refine Ent.metV (by decide +kernel) (Nat.le_of_ble_eq_true rfl) ?_
  intro p e s m args below meth c A ls hx hb hr hml hown hts hlocks hA hK hSt hP hD hS hl
  have hown : s.vm.findClass RX7 = some m.cls := hown
  have S : XFix p m c cX7_wrong 1 s args RX7 := ⟨hx, hb, hml, hown, hts⟩
  have hl : lv_has ls 1 [(0, .ref (o 0))] := hl
  unfold f_X7_wrong at h
  refine lv_aload_n hx hb dX7_wrong_0 rfl (lv_at hl 0 rfl) ?_
  refine lv_aload_n hx hb dX7_wrong_1 rfl (lv_at hl 0 rfl) ?_
  refine gt_X7_64 S hK hP 0 rfl rfl dX7_wrong_2 ?_
  obtain ⟨J19, eJ19, h⟩ := jnA_s h
  have wJ19 : ∀ (t0_1 : Int32), J19 t0_1 = some (w_fault) → ∀ (H : Heap) (locs : List Loc), va_P D vwCl (pcX7 o cI v_d v_kept v_images v_found v_aside v_base v_at v_size v_fault v_opened v_isCold v_names v_code v_coded v_pile v_horn v_brass v_coldAhead v_which v_whichMany v_bestPass v_bestLive v_bestCode v_traced v_traceMany v_who v_bitsOf v_sizeOf v_number v_lifted) H → va_D A (pcX7 o cI v_d v_kept v_images v_found v_aside v_base v_at v_size v_fault v_opened v_isCold v_names v_code v_coded v_pile v_horn v_brass v_coldAhead v_which v_whichMany v_bestPass v_bestLive v_bestCode v_traced v_traceMany v_who v_bitsOf v_sizeOf v_number v_lifted) → va_S A s.heap H locs → ∀ ls : Array Slot, lv_has ls 1 [] → WV p l e 0 0 s m args below meth c D (tysX cI cS) A (pcX7 o cI v_d v_kept v_images v_found v_aside v_base v_at v_size w_fault v_opened v_isCold v_names v_code v_coded v_pile v_horn v_brass v_coldAhead v_which v_whichMany v_bestPass v_bestLive v_bestCode v_traced v_traceMany v_who v_bitsOf v_sizeOf v_number v_lifted) H locs (F0 m 19 ls [.int t0_1, .ref (o 0)]) := by
      intro t0_1 h H locs hP hD hS ls hl
      subst eJ19
      dsimp only at h
      refine pt_X7_64 S hK hP hD hS 0 rfl (Nat.le_of_ble_eq_true rfl) dX7_wrong_19 (fun H locs hP hD hS => ?_)
      have hP : va_P D vwCl (pcX7 o cI v_d v_kept v_images v_found v_aside v_base v_at v_size t0_1 v_opened v_isCold v_names v_code v_coded v_pile v_horn v_brass v_coldAhead v_which v_whichMany v_bestPass v_bestLive v_bestCode v_traced v_traceMany v_who v_bitsOf v_sizeOf v_number v_lifted) H := hP
      have hD : va_D A (pcX7 o cI v_d v_kept v_images v_found v_aside v_base v_at v_size t0_1 v_opened v_isCold v_names v_code v_coded v_pile v_horn v_brass v_coldAhead v_which v_whichMany v_bestPass v_bestLive v_bestCode v_traced v_traceMany v_who v_bitsOf v_sizeOf v_number v_lifted) := hD
      cases h
      exact x_vret hx hb hr hlocks hK hP hD hS rfl dX7_wrong_22
  refine x_if_ge (tgt := 15) hx hb h dX7_wrong_5 (by decide) (fun c5 h => ?_) (fun c5 h => ?_)
  · refine lv_aload_n hx hb dX7_wrong_15 rfl (lv_at hl 0 rfl) ?_
    refine gt_X7_64 S hK hP 0 rfl rfl dX7_wrong_16 ?_
    exact wJ19 v_fault h _ _ hP hD hS _ (lv_sub hl [] rfl)
  · refine lv_aload_n hx hb dX7_wrong_8 rfl (lv_at hl 0 rfl) ?_
    refine gt_X7_57 S hK hP 0 rfl rfl dX7_wrong_9 ?_
    refine lv_goto (tgt := 19) hx hb dX7_wrong_12 (by decide) ?_
    exact wJ19 v_at h _ _ hP hD hS _ (lv_sub hl [] rfl)

def f_X7_takes  (v_d : Nat → Int32) (v_base : Int32) (v_at : Int32) (v_size : Int32) (v_fault : Int32) (p0 : Int32) : Option ((Int32) × (Int32)) :=
  bd1 (f_X7_here v_d v_base v_at v_size v_fault) (fun r_1 => (if r_1 = p0 then nmA (v_at + 1) (fun v_at_2 => some (v_at_2, 1)) else some (v_at, 0)))
set_option maxHeartbeats 600000 in
set_option maxRecDepth 100000 in
theorem c_X7_takes (l : Launch) (D : va_G) (cI cS : ClassId) (o : Nat → Nat) {v_d : Nat → Int32} {v_kept : Nat → Int32} {v_images : Int32} {v_found : Nat → Int32} {v_aside : Nat → Int32} {v_base : Int32} {v_at : Int32} {v_size : Int32} {v_fault : Int32} {v_opened : Int32} {v_isCold : Int32} {v_names : Nat → Int32} {v_code : Nat → Int32} {v_coded : Int32} {v_pile : Nat → Int32} {v_horn : Int32} {v_brass : Int32} {v_coldAhead : Nat → Int32} {v_which : Nat → Int32} {v_whichMany : Int32} {v_bestPass : Int32} {v_bestLive : Int32} {v_bestCode : Int32} {v_traced : Nat → Int32} {v_traceMany : Int32} {v_who : Int32} {v_bitsOf : Nat → Int32} {v_sizeOf : Nat → Int32} {v_number : Nat → Int32} {v_lifted : Nat → Int32} {p0 : Int32} {w_at : Int32} {r_out : Int32} (h : f_X7_takes  v_d v_base v_at v_size v_fault p0 = some (w_at, r_out)) : MetI l D (tysX cI cS) St0 yX7_takes cX7_takes 2 (some .boolean) 1 20 [.ref (o 0), .int p0] (pcX7 o cI v_d v_kept v_images v_found v_aside v_base v_at v_size v_fault v_opened v_isCold v_names v_code v_coded v_pile v_horn v_brass v_coldAhead v_which v_whichMany v_bestPass v_bestLive v_bestCode v_traced v_traceMany v_who v_bitsOf v_sizeOf v_number v_lifted) r_out (pcX7 o cI v_d v_kept v_images v_found v_aside v_base w_at v_size v_fault v_opened v_isCold v_names v_code v_coded v_pile v_horn v_brass v_coldAhead v_which v_whichMany v_bestPass v_bestLive v_bestCode v_traced v_traceMany v_who v_bitsOf v_sizeOf v_number v_lifted) := by
  refine Ent.metI (by decide +kernel) (Nat.le_of_ble_eq_true rfl) ?_
  intro p e s m args below meth c A ls hx hb hr hml hown hts hlocks hA hK hSt hP hD hS hl
  have hown : s.vm.findClass RX7 = some m.cls := hown
  have S : XFix p m c cX7_takes 2 s args RX7 := ⟨hx, hb, hml, hown, hts⟩
  have hl : lv_has ls 2 [(0, .ref (o 0)), (1, .int p0)] := hl
  unfold f_X7_takes at h
  refine lv_aload_n hx hb dX7_takes_0 rfl (lv_at hl 0 rfl) ?_
  obtain ⟨r_1, hc1, h⟩ := bd1_s h
  refine x_selfVi (As := []) (rest := []) St0_ok S (c_X7_here l D cI cS o hc1) yf_X7_here wd21_5 ⟨Nat.le_of_ble_eq_true rfl, Nat.le_of_ble_eq_true rfl⟩ hK hSt hA hP hD hS 0 rfl rfl rfl hl.1 rfl (Nat.le_of_ble_eq_true rfl) dX7_takes_1 (Nat.zero_le _) (Nat.zero_le _) (fun H locs hP hD hS => ?_)
  refine lv_iload_n hx hb dX7_takes_4 rfl (lv_at hl 1 rfl) ?_
  refine x_icmp_eq (tgt := 10) hx hb h dX7_takes_5 (by decide) (fun c5 h => ?_) (fun c5 h => ?_)
  · refine lv_aload_n hx hb dX7_takes_10 rfl (lv_at hl 0 rfl) ?_
    refine lv_dup hx hb dX7_takes_11 rfl ?_
    refine gt_X7_57 S hK hP 0 rfl rfl dX7_takes_12 ?_
    refine lv_iconst (v := 1) hx hb dX7_takes_15 (by decide) ?_
    refine lv_iadd hx hb dX7_takes_16 ?_
    refine x_nm h (fun v_at_2 ev_at_2 h => ?_)
    refine pt_X7_57 S hK hP hD hS 0 rfl (Nat.le_of_ble_eq_true rfl) dX7_takes_17 (fun H locs hP hD hS => ?_)
    have hP : va_P D vwCl (pcX7 o cI v_d v_kept v_images v_found v_aside v_base v_at_2 v_size v_fault v_opened v_isCold v_names v_code v_coded v_pile v_horn v_brass v_coldAhead v_which v_whichMany v_bestPass v_bestLive v_bestCode v_traced v_traceMany v_who v_bitsOf v_sizeOf v_number v_lifted) H := hP
    have hD : va_D A (pcX7 o cI v_d v_kept v_images v_found v_aside v_base v_at_2 v_size v_fault v_opened v_isCold v_names v_code v_coded v_pile v_horn v_brass v_coldAhead v_which v_whichMany v_bestPass v_bestLive v_bestCode v_traced v_traceMany v_who v_bitsOf v_sizeOf v_number v_lifted) := hD
    refine lv_iconst (v := 1) hx hb dX7_takes_20 (by decide) ?_
    cases h
    exact x_zret hx hb hr hlocks hK hP hD hS rfl rfl (Or.inr rfl) dX7_takes_21
  · refine lv_iconst (v := 0) hx hb dX7_takes_8 (by decide) ?_
    cases h
    exact x_zret hx hb hr hlocks hK hP hD hS rfl rfl (Or.inl rfl) dX7_takes_9

def f_X7_nameOf  (v_isCold : Int32) (p0 : Int32) : Option ((Int32)) :=
  (if v_isCold = 0 then (if p0 = 99 then some (0) else (if p0 = 111 then some (1) else (if p0 = 104 then some (2) else some ((-1))))) else (if p0 = 100 then some (0) else (if p0 = 119 then some (1) else (if p0 = 108 then some (2) else some ((-1))))))
set_option maxHeartbeats 600000 in
set_option maxRecDepth 100000 in
theorem c_X7_nameOf (l : Launch) (D : va_G) (cI cS : ClassId) (o : Nat → Nat) {v_d : Nat → Int32} {v_kept : Nat → Int32} {v_images : Int32} {v_found : Nat → Int32} {v_aside : Nat → Int32} {v_base : Int32} {v_at : Int32} {v_size : Int32} {v_fault : Int32} {v_opened : Int32} {v_isCold : Int32} {v_names : Nat → Int32} {v_code : Nat → Int32} {v_coded : Int32} {v_pile : Nat → Int32} {v_horn : Int32} {v_brass : Int32} {v_coldAhead : Nat → Int32} {v_which : Nat → Int32} {v_whichMany : Int32} {v_bestPass : Int32} {v_bestLive : Int32} {v_bestCode : Int32} {v_traced : Nat → Int32} {v_traceMany : Int32} {v_who : Int32} {v_bitsOf : Nat → Int32} {v_sizeOf : Nat → Int32} {v_number : Nat → Int32} {v_lifted : Nat → Int32} {p0 : Int32}  {r_out : Int32} (h : f_X7_nameOf  v_isCold p0 = some (r_out)) : MetI l D (tysX cI cS) St0 yX7_nameOf cX7_nameOf 2 (some .int) 0 0 [.ref (o 0), .int p0] (pcX7 o cI v_d v_kept v_images v_found v_aside v_base v_at v_size v_fault v_opened v_isCold v_names v_code v_coded v_pile v_horn v_brass v_coldAhead v_which v_whichMany v_bestPass v_bestLive v_bestCode v_traced v_traceMany v_who v_bitsOf v_sizeOf v_number v_lifted) r_out (pcX7 o cI v_d v_kept v_images v_found v_aside v_base v_at v_size v_fault v_opened v_isCold v_names v_code v_coded v_pile v_horn v_brass v_coldAhead v_which v_whichMany v_bestPass v_bestLive v_bestCode v_traced v_traceMany v_who v_bitsOf v_sizeOf v_number v_lifted) := by
  refine Ent.metI (by decide +kernel) (Nat.le_of_ble_eq_true rfl) ?_
  intro p e s m args below meth c A ls hx hb hr hml hown hts hlocks hA hK hSt hP hD hS hl
  have hown : s.vm.findClass RX7 = some m.cls := hown
  have S : XFix p m c cX7_nameOf 2 s args RX7 := ⟨hx, hb, hml, hown, hts⟩
  have hl : lv_has ls 2 [(0, .ref (o 0)), (1, .int p0)] := hl
  unfold f_X7_nameOf at h
  refine lv_aload_n hx hb dX7_nameOf_0 rfl (lv_at hl 0 rfl) ?_
  refine gt_X7_74 S hK hP 0 rfl rfl dX7_nameOf_1 ?_
  refine x_if_eq (tgt := 39) hx hb h dX7_nameOf_4 (by decide) (fun c4 h => ?_) (fun c4 h => ?_)
  · refine lv_iload_n hx hb dX7_nameOf_39 rfl (lv_at hl 1 rfl) ?_
    refine lv_bipush (v := 99) hx hb dX7_nameOf_40 (by decide) ?_
    refine x_icmp_ne (tgt := 49) hx hb h dX7_nameOf_42 (by decide) (fun c42 h => ?_) (fun c42 h => ?_)
    · refine lv_iload_n hx hb dX7_nameOf_49 rfl (lv_at hl 1 rfl) ?_
      refine lv_bipush (v := 111) hx hb dX7_nameOf_50 (by decide) ?_
      refine x_icmp_ne (tgt := 59) hx hb h dX7_nameOf_52 (by decide) (fun c52 h => ?_) (fun c52 h => ?_)
      · refine lv_iload_n hx hb dX7_nameOf_59 rfl (lv_at hl 1 rfl) ?_
        refine lv_bipush (v := 104) hx hb dX7_nameOf_60 (by decide) ?_
        refine x_icmp_ne (tgt := 69) hx hb h dX7_nameOf_62 (by decide) (fun c62 h => ?_) (fun c62 h => ?_)
        · refine lv_iconst (v := (-1)) hx hb dX7_nameOf_69 (by decide) ?_
          cases h
          exact x_iret hx hb hr hlocks hK hP hD hS rfl rfl dX7_nameOf_70
        · refine lv_iconst (v := 2) hx hb dX7_nameOf_65 (by decide) ?_
          refine lv_goto (tgt := 70) hx hb dX7_nameOf_66 (by decide) ?_
          cases h
          exact x_iret hx hb hr hlocks hK hP hD hS rfl rfl dX7_nameOf_70
      · refine lv_iconst (v := 1) hx hb dX7_nameOf_55 (by decide) ?_
        refine lv_goto (tgt := 70) hx hb dX7_nameOf_56 (by decide) ?_
        cases h
        exact x_iret hx hb hr hlocks hK hP hD hS rfl rfl dX7_nameOf_70
    · refine lv_iconst (v := 0) hx hb dX7_nameOf_45 (by decide) ?_
      refine lv_goto (tgt := 70) hx hb dX7_nameOf_46 (by decide) ?_
      cases h
      exact x_iret hx hb hr hlocks hK hP hD hS rfl rfl dX7_nameOf_70
  · refine lv_iload_n hx hb dX7_nameOf_7 rfl (lv_at hl 1 rfl) ?_
    refine lv_bipush (v := 100) hx hb dX7_nameOf_8 (by decide) ?_
    refine x_icmp_ne (tgt := 17) hx hb h dX7_nameOf_10 (by decide) (fun c10 h => ?_) (fun c10 h => ?_)
    · refine lv_iload_n hx hb dX7_nameOf_17 rfl (lv_at hl 1 rfl) ?_
      refine lv_bipush (v := 119) hx hb dX7_nameOf_18 (by decide) ?_
      refine x_icmp_ne (tgt := 27) hx hb h dX7_nameOf_20 (by decide) (fun c20 h => ?_) (fun c20 h => ?_)
      · refine lv_iload_n hx hb dX7_nameOf_27 rfl (lv_at hl 1 rfl) ?_
        refine lv_bipush (v := 108) hx hb dX7_nameOf_28 (by decide) ?_
        refine x_icmp_ne (tgt := 37) hx hb h dX7_nameOf_30 (by decide) (fun c30 h => ?_) (fun c30 h => ?_)
        · refine lv_iconst (v := (-1)) hx hb dX7_nameOf_37 (by decide) ?_
          cases h
          exact x_iret hx hb hr hlocks hK hP hD hS rfl rfl dX7_nameOf_38
        · refine lv_iconst (v := 2) hx hb dX7_nameOf_33 (by decide) ?_
          refine lv_goto (tgt := 38) hx hb dX7_nameOf_34 (by decide) ?_
          cases h
          exact x_iret hx hb hr hlocks hK hP hD hS rfl rfl dX7_nameOf_38
      · refine lv_iconst (v := 1) hx hb dX7_nameOf_23 (by decide) ?_
        refine lv_goto (tgt := 38) hx hb dX7_nameOf_24 (by decide) ?_
        cases h
        exact x_iret hx hb hr hlocks hK hP hD hS rfl rfl dX7_nameOf_38
    · refine lv_iconst (v := 0) hx hb dX7_nameOf_13 (by decide) ?_
      refine lv_goto (tgt := 38) hx hb dX7_nameOf_14 (by decide) ?_
      cases h
      exact x_iret hx hb hr hlocks hK hP hD hS rfl rfl dX7_nameOf_38
