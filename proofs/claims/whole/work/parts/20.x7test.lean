def f_X7_finds  (v_found : Nat → Int32) (p0 : Int32) : Option ((Nat → Int32) × (Int32)) :=
  rdA 6 v_found p0 (fun x_1 => wrA 6 v_found p0 (x_1 + 1) (fun v_found_2 => some (v_found_2, ((-1000000000) - p0))))
set_option maxHeartbeats 4000000 in
set_option maxRecDepth 100000 in
theorem c_X7_finds (l : Launch) (D : va_G) (cI cS : ClassId) (o : Nat → Nat) {v_d : Nat → Int32} {v_kept : Nat → Int32} {v_images : Int32} {v_found : Nat → Int32} {v_aside : Nat → Int32} {v_base : Int32} {v_at : Int32} {v_size : Int32} {v_fault : Int32} {v_opened : Int32} {v_isCold : Int32} {v_names : Nat → Int32} {v_code : Nat → Int32} {v_coded : Int32} {v_pile : Nat → Int32} {v_horn : Int32} {v_brass : Int32} {v_coldAhead : Nat → Int32} {v_which : Nat → Int32} {v_whichMany : Int32} {v_bestPass : Int32} {v_bestLive : Int32} {v_bestCode : Int32} {v_traced : Nat → Int32} {v_traceMany : Int32} {v_who : Int32} {v_bitsOf : Nat → Int32} {v_sizeOf : Nat → Int32} {v_number : Nat → Int32} {v_lifted : Nat → Int32} {p0 : Int32} {w_found : Nat → Int32} {r_out : Int32} (h : f_X7_finds  v_found p0 = some (w_found, r_out)) : MetI l D (tysX cI cS) St0 yX7_finds cX7_finds 2 (some .int) 0 0 [.ref (o 0), .int p0] (pcX7 o cI v_d v_kept v_images v_found v_aside v_base v_at v_size v_fault v_opened v_isCold v_names v_code v_coded v_pile v_horn v_brass v_coldAhead v_which v_whichMany v_bestPass v_bestLive v_bestCode v_traced v_traceMany v_who v_bitsOf v_sizeOf v_number v_lifted) r_out (pcX7 o cI v_d v_kept v_images w_found v_aside v_base v_at v_size v_fault v_opened v_isCold v_names v_code v_coded v_pile v_horn v_brass v_coldAhead v_which v_whichMany v_bestPass v_bestLive v_bestCode v_traced v_traceMany v_who v_bitsOf v_sizeOf v_number v_lifted) := by
  refine Ent.metI (by decide +kernel) (Nat.le_of_ble_eq_true rfl) ?_
  intro p e s m args below meth c A ls hx hb hr hml hown hts hlocks hA hK hSt hP hD hS hl
  have hown : s.vm.findClass RX7 = some m.cls := hown
  have S : XFix p m c cX7_finds 2 s args RX7 := ⟨hx, hb, hml, hown, hts⟩
  have hl : lv_has ls 2 [(0, .ref (o 0)), (1, .int p0)] := hl
  unfold f_X7_finds at h
  refine lv_aload_n hx hb dX7_finds_0 rfl (lv_at hl 0 rfl) ?_
  refine gt_X7_16 S hK hP 0 rfl rfl dX7_finds_1 ?_
  refine lv_iload_n hx hb dX7_finds_4 rfl (lv_at hl 1 rfl) ?_
  refine lv_dup2_11 hx hb dX7_finds_5 rfl rfl ?_
  refine x_ald hx hb hK hP 3 h rfl rfl dX7_finds_6 (fun x_1 ex_1 h => ?_)
  refine lv_iconst (v := 1) hx hb dX7_finds_7 (by decide) ?_
  refine lv_iadd hx hb dX7_finds_8 ?_
  refine x_ast hx hb hK hP hD hS 3 h rfl rfl dX7_finds_9 (fun v_found_2 ev_found_2 h H locs hP hD hS => ?_)
  have hP : va_P D vwCl (pcX7 o cI v_d v_kept v_images v_found_2 v_aside v_base v_at v_size v_fault v_opened v_isCold v_names v_code v_coded v_pile v_horn v_brass v_coldAhead v_which v_whichMany v_bestPass v_bestLive v_bestCode v_traced v_traceMany v_who v_bitsOf v_sizeOf v_number v_lifted) H := hP
  have hD : va_D A (pcX7 o cI v_d v_kept v_images v_found_2 v_aside v_base v_at v_size v_fault v_opened v_isCold v_names v_code v_coded v_pile v_horn v_brass v_coldAhead v_which v_whichMany v_bestPass v_bestLive v_bestCode v_traced v_traceMany v_who v_bitsOf v_sizeOf v_number v_lifted) := hD
  refine lv_ldc (v := (-1000000000)) hx hb hown (hts _ wd6_14) dX7_finds_10 ?_
  refine lv_iload_n hx hb dX7_finds_12 rfl (lv_at hl 1 rfl) ?_
  refine lv_isub hx hb dX7_finds_13 ?_
  cases h
  exact x_iret hx hb hr hlocks hK hP hD hS rfl rfl dX7_finds_14

def f_X7_in   (p0 : Int64) (p1 : Int64) (p2 : Int64) : Option ((Int32)) :=
  (if (lg_cmp p0 p1) < 0 then some (0) else (if 0 < (lg_cmp p0 p2) then some (0) else some (1)))
set_option maxHeartbeats 4000000 in
set_option maxRecDepth 100000 in
theorem c_X7_in (l : Launch) (D : va_G) (cI cS : ClassId) (o : Nat → Nat)  {p0 : Int64} {p1 : Int64} {p2 : Int64}  {r_out : Int32} (h : f_X7_in   p0 p1 p2 = some (r_out)) : MetI l D (tysX cI cS) St0 yX7_in cX7_in 6 (some .boolean) 0 0 [.long p0, .long p1, .long p2] [] r_out [] := by
  refine Ent.metI (by decide +kernel) (Nat.le_of_ble_eq_true rfl) ?_
  intro p e s m args below meth c A ls hx hb hr hml hown hts hlocks hA hK hSt hP hD hS hl
  have hown : s.vm.findClass RX7 = some m.cls := hown
  have S : XFix p m c cX7_in 6 s args RX7 := ⟨hx, hb, hml, hown, hts⟩
  have hl : lv_has ls 6 [(0, .long p0), (2, .long p1), (4, .long p2)] := hl
  unfold f_X7_in at h
  refine lv_lload_n hx hb dX7_in_0 rfl (lv_at hl 0 rfl) ?_
  refine lv_lload_n hx hb dX7_in_1 rfl (lv_at hl 1 rfl) ?_
  refine W.lcmp hx hb dX7_in_2 ?_
  refine x_if_lt (tgt := 17) hx hb h dX7_in_3 (by decide) (fun c3 h => ?_) (fun c3 h => ?_)
  · refine lv_iconst (v := 0) hx hb dX7_in_17 (by decide) ?_
    cases h
    exact x_zret hx hb hr hlocks hK hP hD hS rfl rfl (Or.inl rfl) dX7_in_18
  · refine lv_lload_n hx hb dX7_in_6 rfl (lv_at hl 0 rfl) ?_
    refine lv_lload hx hb dX7_in_7 (lv_at hl 2 rfl) ?_
    refine W.lcmp hx hb dX7_in_9 ?_
    refine x_if_gt (tgt := 17) hx hb h dX7_in_10 (by decide) (fun c10 h => ?_) (fun c10 h => ?_)
    · refine lv_iconst (v := 0) hx hb dX7_in_17 (by decide) ?_
      cases h
      exact x_zret hx hb hr hlocks hK hP hD hS rfl rfl (Or.inl rfl) dX7_in_18
    · refine lv_iconst (v := 1) hx hb dX7_in_13 (by decide) ?_
      refine lv_goto (tgt := 18) hx hb dX7_in_14 (by decide) ?_
      cases h
      exact x_zret hx hb hr hlocks hK hP hD hS rfl rfl (Or.inr rfl) dX7_in_18

def f_X7_held   (p0 : Int32) (p1 : Int32) (p2 : Int32) : Option ((Int32)) :=
  (if p1 ≤ p0 then (if p0 ≤ p2 then some (p0) else some (p2)) else some (p1))
set_option maxHeartbeats 4000000 in
set_option maxRecDepth 100000 in
theorem c_X7_held (l : Launch) (D : va_G) (cI cS : ClassId) (o : Nat → Nat)  {p0 : Int32} {p1 : Int32} {p2 : Int32}  {r_out : Int32} (h : f_X7_held   p0 p1 p2 = some (r_out)) : MetI l D (tysX cI cS) St0 yX7_held cX7_held 3 (some .int) 0 0 [.int p0, .int p1, .int p2] [] r_out [] := by
  refine Ent.metI (by decide +kernel) (Nat.le_of_ble_eq_true rfl) ?_
  intro p e s m args below meth c A ls hx hb hr hml hown hts hlocks hA hK hSt hP hD hS hl
  have hown : s.vm.findClass RX7 = some m.cls := hown
  have S : XFix p m c cX7_held 3 s args RX7 := ⟨hx, hb, hml, hown, hts⟩
  have hl : lv_has ls 3 [(0, .int p0), (1, .int p1), (2, .int p2)] := hl
  unfold f_X7_held at h
  refine lv_iload_n hx hb dX7_held_0 rfl (lv_at hl 0 rfl) ?_
  refine lv_iload_n hx hb dX7_held_1 rfl (lv_at hl 1 rfl) ?_
  refine x_icmp_ge (tgt := 9) hx hb h dX7_held_2 (by decide) (fun c2 h => ?_) (fun c2 h => ?_)
  · refine lv_iload_n hx hb dX7_held_9 rfl (lv_at hl 0 rfl) ?_
    refine lv_iload_n hx hb dX7_held_10 rfl (lv_at hl 2 rfl) ?_
    refine x_icmp_le (tgt := 18) hx hb h dX7_held_11 (by decide) (fun c11 h => ?_) (fun c11 h => ?_)
    · refine lv_iload_n hx hb dX7_held_18 rfl (lv_at hl 0 rfl) ?_
      cases h
      exact x_iret hx hb hr hlocks hK hP hD hS rfl rfl dX7_held_19
    · refine lv_iload_n hx hb dX7_held_14 rfl (lv_at hl 2 rfl) ?_
      refine lv_goto (tgt := 19) hx hb dX7_held_15 (by decide) ?_
      cases h
      exact x_iret hx hb hr hlocks hK hP hD hS rfl rfl dX7_held_19
  · refine lv_iload_n hx hb dX7_held_5 rfl (lv_at hl 1 rfl) ?_
    refine lv_goto (tgt := 19) hx hb dX7_held_6 (by decide) ?_
    cases h
    exact x_iret hx hb hr hlocks hK hP hD hS rfl rfl dX7_held_19

def f_X7_isPerson  (v_d : Nat → Int32) (p0 : Int32) : Option ((Int32)) :=
  rdA 248 v_d 0 (fun x_1 => bd1 (f_X7_in (p0.toInt64) 0 ((x_1 - 1).toInt64)) (fun r_2 => bzA r_2 (some (r_2))))
set_option maxHeartbeats 4000000 in
set_option maxRecDepth 100000 in
theorem c_X7_isPerson (l : Launch) (D : va_G) (cI cS : ClassId) (o : Nat → Nat) {v_d : Nat → Int32} {v_kept : Nat → Int32} {v_images : Int32} {v_found : Nat → Int32} {v_aside : Nat → Int32} {v_base : Int32} {v_at : Int32} {v_size : Int32} {v_fault : Int32} {v_opened : Int32} {v_isCold : Int32} {v_names : Nat → Int32} {v_code : Nat → Int32} {v_coded : Int32} {v_pile : Nat → Int32} {v_horn : Int32} {v_brass : Int32} {v_coldAhead : Nat → Int32} {v_which : Nat → Int32} {v_whichMany : Int32} {v_bestPass : Int32} {v_bestLive : Int32} {v_bestCode : Int32} {v_traced : Nat → Int32} {v_traceMany : Int32} {v_who : Int32} {v_bitsOf : Nat → Int32} {v_sizeOf : Nat → Int32} {v_number : Nat → Int32} {v_lifted : Nat → Int32} {p0 : Int32}  {r_out : Int32} (h : f_X7_isPerson  v_d p0 = some (r_out)) : MetI l D (tysX cI cS) St0 yX7_isPerson cX7_isPerson 2 (some .boolean) 1 25 [.ref (o 0), .int p0] (pcX7 o cI v_d v_kept v_images v_found v_aside v_base v_at v_size v_fault v_opened v_isCold v_names v_code v_coded v_pile v_horn v_brass v_coldAhead v_which v_whichMany v_bestPass v_bestLive v_bestCode v_traced v_traceMany v_who v_bitsOf v_sizeOf v_number v_lifted) r_out (pcX7 o cI v_d v_kept v_images v_found v_aside v_base v_at v_size v_fault v_opened v_isCold v_names v_code v_coded v_pile v_horn v_brass v_coldAhead v_which v_whichMany v_bestPass v_bestLive v_bestCode v_traced v_traceMany v_who v_bitsOf v_sizeOf v_number v_lifted) := by
  refine Ent.metI (by decide +kernel) (Nat.le_of_ble_eq_true rfl) ?_
  intro p e s m args below meth c A ls hx hb hr hml hown hts hlocks hA hK hSt hP hD hS hl
  have hown : s.vm.findClass RX7 = some m.cls := hown
  have S : XFix p m c cX7_isPerson 2 s args RX7 := ⟨hx, hb, hml, hown, hts⟩
  have hl : lv_has ls 2 [(0, .ref (o 0)), (1, .int p0)] := hl
  unfold f_X7_isPerson at h
  refine lv_iload_n hx hb dX7_isPerson_0 rfl (lv_at hl 1 rfl) ?_
  refine lv_i2l (v := (p0.toInt64)) hx hb dX7_isPerson_1 rfl ?_
  refine lv_lconst (v := 0) hx hb dX7_isPerson_2 (by decide) ?_
  refine lv_aload_n hx hb dX7_isPerson_3 rfl (lv_at hl 0 rfl) ?_
  refine gt_X7_7 S hK hP 0 rfl rfl dX7_isPerson_4 ?_
  refine lv_iconst (v := 0) hx hb dX7_isPerson_7 (by decide) ?_
  refine x_ald hx hb hK hP 1 h rfl rfl dX7_isPerson_8 (fun x_1 ex_1 h => ?_)
  refine lv_iconst (v := 1) hx hb dX7_isPerson_9 (by decide) ?_
  refine lv_isub hx hb dX7_isPerson_10 ?_
  refine lv_i2l (v := ((x_1 - 1).toInt64)) hx hb dX7_isPerson_11 rfl ?_
  obtain ⟨r_2, hc12, h⟩ := bd1_s h
  refine x_statI (As := [.long (p0.toInt64), .long 0, .long ((x_1 - 1).toInt64)]) (rest := []) St0_ok S (c_X7_in l D cI cS o hc12) ys_X7_in wd6_7 ⟨Nat.le_of_ble_eq_true rfl, Nat.le_of_ble_eq_true rfl⟩ hK hSt hA hP hD hS rfl hl.1 rfl (Nat.le_of_ble_eq_true rfl) dX7_isPerson_12 (Nat.zero_le _) (Nat.zero_le _) (fun H locs hP hD hS => ?_)
  obtain ⟨hz15, h⟩ := bzA_s h
  cases h
  exact x_zret hx hb hr hlocks hK hP hD hS rfl rfl hz15 dX7_isPerson_15

def f_X7_of  (v_d : Nat → Int32) (p0 : Int32) (p1 : Int32) : Option ((Int32)) :=
  rdA 248 v_d ((10 + (6 * p0)) + p1) (fun x_1 => some (x_1))
set_option maxHeartbeats 4000000 in
set_option maxRecDepth 100000 in
theorem c_X7_of (l : Launch) (D : va_G) (cI cS : ClassId) (o : Nat → Nat) {v_d : Nat → Int32} {v_kept : Nat → Int32} {v_images : Int32} {v_found : Nat → Int32} {v_aside : Nat → Int32} {v_base : Int32} {v_at : Int32} {v_size : Int32} {v_fault : Int32} {v_opened : Int32} {v_isCold : Int32} {v_names : Nat → Int32} {v_code : Nat → Int32} {v_coded : Int32} {v_pile : Nat → Int32} {v_horn : Int32} {v_brass : Int32} {v_coldAhead : Nat → Int32} {v_which : Nat → Int32} {v_whichMany : Int32} {v_bestPass : Int32} {v_bestLive : Int32} {v_bestCode : Int32} {v_traced : Nat → Int32} {v_traceMany : Int32} {v_who : Int32} {v_bitsOf : Nat → Int32} {v_sizeOf : Nat → Int32} {v_number : Nat → Int32} {v_lifted : Nat → Int32} {p0 : Int32} {p1 : Int32}  {r_out : Int32} (h : f_X7_of  v_d p0 p1 = some (r_out)) : MetI l D (tysX cI cS) St0 yX7_of cX7_of 3 (some .int) 0 0 [.ref (o 0), .int p0, .int p1] (pcX7 o cI v_d v_kept v_images v_found v_aside v_base v_at v_size v_fault v_opened v_isCold v_names v_code v_coded v_pile v_horn v_brass v_coldAhead v_which v_whichMany v_bestPass v_bestLive v_bestCode v_traced v_traceMany v_who v_bitsOf v_sizeOf v_number v_lifted) r_out (pcX7 o cI v_d v_kept v_images v_found v_aside v_base v_at v_size v_fault v_opened v_isCold v_names v_code v_coded v_pile v_horn v_brass v_coldAhead v_which v_whichMany v_bestPass v_bestLive v_bestCode v_traced v_traceMany v_who v_bitsOf v_sizeOf v_number v_lifted) := by
  refine Ent.metI (by decide +kernel) (Nat.le_of_ble_eq_true rfl) ?_
  intro p e s m args below meth c A ls hx hb hr hml hown hts hlocks hA hK hSt hP hD hS hl
  have hown : s.vm.findClass RX7 = some m.cls := hown
  have S : XFix p m c cX7_of 3 s args RX7 := ⟨hx, hb, hml, hown, hts⟩
  have hl : lv_has ls 3 [(0, .ref (o 0)), (1, .int p0), (2, .int p1)] := hl
  unfold f_X7_of at h
  refine lv_aload_n hx hb dX7_of_0 rfl (lv_at hl 0 rfl) ?_
  refine gt_X7_7 S hK hP 0 rfl rfl dX7_of_1 ?_
  refine lv_bipush (v := 10) hx hb dX7_of_4 (by decide) ?_
  refine lv_bipush (v := 6) hx hb dX7_of_6 (by decide) ?_
  refine lv_iload_n hx hb dX7_of_8 rfl (lv_at hl 1 rfl) ?_
  refine lv_imul hx hb dX7_of_9 ?_
  refine lv_iadd hx hb dX7_of_10 ?_
  refine lv_iload_n hx hb dX7_of_11 rfl (lv_at hl 2 rfl) ?_
  refine lv_iadd hx hb dX7_of_12 ?_
  refine x_ald hx hb hK hP 1 h rfl rfl dX7_of_13 (fun x_1 ex_1 h => ?_)
  cases h
  exact x_iret hx hb hr hlocks hK hP hD hS rfl rfl dX7_of_14

def f_X7_isDead  (v_d : Nat → Int32) (p0 : Int32) : Option ((Int32)) :=
  bd1 (f_X7_of v_d p0 5) (fun r_1 => (if r_1 = 0 then some (1) else some (0)))
set_option maxHeartbeats 4000000 in
set_option maxRecDepth 100000 in
theorem c_X7_isDead (l : Launch) (D : va_G) (cI cS : ClassId) (o : Nat → Nat) {v_d : Nat → Int32} {v_kept : Nat → Int32} {v_images : Int32} {v_found : Nat → Int32} {v_aside : Nat → Int32} {v_base : Int32} {v_at : Int32} {v_size : Int32} {v_fault : Int32} {v_opened : Int32} {v_isCold : Int32} {v_names : Nat → Int32} {v_code : Nat → Int32} {v_coded : Int32} {v_pile : Nat → Int32} {v_horn : Int32} {v_brass : Int32} {v_coldAhead : Nat → Int32} {v_which : Nat → Int32} {v_whichMany : Int32} {v_bestPass : Int32} {v_bestLive : Int32} {v_bestCode : Int32} {v_traced : Nat → Int32} {v_traceMany : Int32} {v_who : Int32} {v_bitsOf : Nat → Int32} {v_sizeOf : Nat → Int32} {v_number : Nat → Int32} {v_lifted : Nat → Int32} {p0 : Int32}  {r_out : Int32} (h : f_X7_isDead  v_d p0 = some (r_out)) : MetI l D (tysX cI cS) St0 yX7_isDead cX7_isDead 2 (some .boolean) 1 22 [.ref (o 0), .int p0] (pcX7 o cI v_d v_kept v_images v_found v_aside v_base v_at v_size v_fault v_opened v_isCold v_names v_code v_coded v_pile v_horn v_brass v_coldAhead v_which v_whichMany v_bestPass v_bestLive v_bestCode v_traced v_traceMany v_who v_bitsOf v_sizeOf v_number v_lifted) r_out (pcX7 o cI v_d v_kept v_images v_found v_aside v_base v_at v_size v_fault v_opened v_isCold v_names v_code v_coded v_pile v_horn v_brass v_coldAhead v_which v_whichMany v_bestPass v_bestLive v_bestCode v_traced v_traceMany v_who v_bitsOf v_sizeOf v_number v_lifted) := by
  refine Ent.metI (by decide +kernel) (Nat.le_of_ble_eq_true rfl) ?_
  intro p e s m args below meth c A ls hx hb hr hml hown hts hlocks hA hK hSt hP hD hS hl
  have hown : s.vm.findClass RX7 = some m.cls := hown
  have S : XFix p m c cX7_isDead 2 s args RX7 := ⟨hx, hb, hml, hown, hts⟩
  have hl : lv_has ls 2 [(0, .ref (o 0)), (1, .int p0)] := hl
  unfold f_X7_isDead at h
  refine lv_aload_n hx hb dX7_isDead_0 rfl (lv_at hl 0 rfl) ?_
  refine lv_iload_n hx hb dX7_isDead_1 rfl (lv_at hl 1 rfl) ?_
  refine lv_iconst (v := 5) hx hb dX7_isDead_2 (by decide) ?_
  obtain ⟨r_1, hc3, h⟩ := bd1_s h
  refine x_selfVi (As := [.int p0, .int 5]) (rest := []) St0_ok S (c_X7_of l D cI cS o hc3) yf_X7_of wd10_11 ⟨Nat.le_of_ble_eq_true rfl, Nat.le_of_ble_eq_true rfl⟩ hK hSt hA hP hD hS 0 rfl rfl rfl hl.1 rfl (Nat.le_of_ble_eq_true rfl) dX7_isDead_3 (Nat.zero_le _) (Nat.zero_le _) (fun H locs hP hD hS => ?_)
  refine x_if_ne (tgt := 13) hx hb h dX7_isDead_6 (by decide) (fun c6 h => ?_) (fun c6 h => ?_)
  · refine lv_iconst (v := 0) hx hb dX7_isDead_13 (by decide) ?_
    cases h
    exact x_zret hx hb hr hlocks hK hP hD hS rfl rfl (Or.inl rfl) dX7_isDead_14
  · refine lv_iconst (v := 1) hx hb dX7_isDead_9 (by decide) ?_
    refine lv_goto (tgt := 14) hx hb dX7_isDead_10 (by decide) ?_
    cases h
    exact x_zret hx hb hr hlocks hK hP hD hS rfl rfl (Or.inr rfl) dX7_isDead_14

def f_X7_isWilling  (v_d : Nat → Int32) (p0 : Int32) : Option ((Int32)) :=
  bd1 (f_X7_of v_d p0 0) (fun r_1 => jnA (fun (t0_2 : Int32) => (if t0_2 = 0 then bd1 (f_X7_isDead v_d p0) (fun r_3 => (if r_3 = 0 then some (1) else some (0))) else bd1 (f_X7_of v_d p0 5) (fun r_4 => (if r_4 < 30 then some (0) else some (1))))) (fun J26 => jnA (J26 1) (fun J21 => (if r_1 = 0 then J21 else (if r_1 = 1 then J21 else (if r_1 = 4 then J21 else J26 0))))))
set_option maxHeartbeats 4000000 in
set_option maxRecDepth 100000 in
theorem c_X7_isWilling (l : Launch) (D : va_G) (cI cS : ClassId) (o : Nat → Nat) {v_d : Nat → Int32} {v_kept : Nat → Int32} {v_images : Int32} {v_found : Nat → Int32} {v_aside : Nat → Int32} {v_base : Int32} {v_at : Int32} {v_size : Int32} {v_fault : Int32} {v_opened : Int32} {v_isCold : Int32} {v_names : Nat → Int32} {v_code : Nat → Int32} {v_coded : Int32} {v_pile : Nat → Int32} {v_horn : Int32} {v_brass : Int32} {v_coldAhead : Nat → Int32} {v_which : Nat → Int32} {v_whichMany : Int32} {v_bestPass : Int32} {v_bestLive : Int32} {v_bestCode : Int32} {v_traced : Nat → Int32} {v_traceMany : Int32} {v_who : Int32} {v_bitsOf : Nat → Int32} {v_sizeOf : Nat → Int32} {v_number : Nat → Int32} {v_lifted : Nat → Int32} {p0 : Int32}  {r_out : Int32} (h : f_X7_isWilling  v_d p0 = some (r_out)) : MetI l D (tysX cI cS) St0 yX7_isWilling cX7_isWilling 4 (some .boolean) 2 43 [.ref (o 0), .int p0] (pcX7 o cI v_d v_kept v_images v_found v_aside v_base v_at v_size v_fault v_opened v_isCold v_names v_code v_coded v_pile v_horn v_brass v_coldAhead v_which v_whichMany v_bestPass v_bestLive v_bestCode v_traced v_traceMany v_who v_bitsOf v_sizeOf v_number v_lifted) r_out (pcX7 o cI v_d v_kept v_images v_found v_aside v_base v_at v_size v_fault v_opened v_isCold v_names v_code v_coded v_pile v_horn v_brass v_coldAhead v_which v_whichMany v_bestPass v_bestLive v_bestCode v_traced v_traceMany v_who v_bitsOf v_sizeOf v_number v_lifted) := by
  refine Ent.metI (by decide +kernel) (Nat.le_of_ble_eq_true rfl) ?_
  intro p e s m args below meth c A ls hx hb hr hml hown hts hlocks hA hK hSt hP hD hS hl
  have hown : s.vm.findClass RX7 = some m.cls := hown
  have S : XFix p m c cX7_isWilling 4 s args RX7 := ⟨hx, hb, hml, hown, hts⟩
  have hl : lv_has ls 4 [(0, .ref (o 0)), (1, .int p0)] := hl
  unfold f_X7_isWilling at h
  refine lv_aload_n hx hb dX7_isWilling_0 rfl (lv_at hl 0 rfl) ?_
  refine lv_iload_n hx hb dX7_isWilling_1 rfl (lv_at hl 1 rfl) ?_
  refine lv_iconst (v := 0) hx hb dX7_isWilling_2 (by decide) ?_
  obtain ⟨r_1, hc3, h⟩ := bd1_s h
  refine x_selfVi (As := [.int p0, .int 0]) (rest := []) St0_ok S (c_X7_of l D cI cS o hc3) yf_X7_of wd10_11 ⟨Nat.le_of_ble_eq_true rfl, Nat.le_of_ble_eq_true rfl⟩ hK hSt hA hP hD hS 0 rfl rfl rfl hl.1 rfl (Nat.le_of_ble_eq_true rfl) dX7_isWilling_3 (Nat.zero_le _) (Nat.zero_le _) (fun H locs hP hD hS => ?_)
  refine lv_istore_n (lv' := [(2, .int r_1), (0, .ref (o 0)), (1, .int p0)]) hx hb dX7_isWilling_6 rfl hl (by decide) rfl (fun ls hl => ?_)
  refine lv_iload_n hx hb dX7_isWilling_7 rfl (lv_at hl 0 rfl) ?_
  obtain ⟨J26, eJ26, h⟩ := jnA_s h
  have wJ26 : ∀ (t0_2 : Int32), J26 t0_2 = some (r_out) → ∀ (H : Heap) (locs : List Loc), va_P D vwCl (pcX7 o cI v_d v_kept v_images v_found v_aside v_base v_at v_size v_fault v_opened v_isCold v_names v_code v_coded v_pile v_horn v_brass v_coldAhead v_which v_whichMany v_bestPass v_bestLive v_bestCode v_traced v_traceMany v_who v_bitsOf v_sizeOf v_number v_lifted) H → va_D A (pcX7 o cI v_d v_kept v_images v_found v_aside v_base v_at v_size v_fault v_opened v_isCold v_names v_code v_coded v_pile v_horn v_brass v_coldAhead v_which v_whichMany v_bestPass v_bestLive v_bestCode v_traced v_traceMany v_who v_bitsOf v_sizeOf v_number v_lifted) → va_S A s.heap H locs → ∀ ls : Array Slot, lv_has ls 4 [(0, .ref (o 0)), (1, .int p0)] → WI p l e 2 43 s m args below meth c D (tysX cI cS) A r_out (pcX7 o cI v_d v_kept v_images v_found v_aside v_base v_at v_size v_fault v_opened v_isCold v_names v_code v_coded v_pile v_horn v_brass v_coldAhead v_which v_whichMany v_bestPass v_bestLive v_bestCode v_traced v_traceMany v_who v_bitsOf v_sizeOf v_number v_lifted) H locs (F0 m 26 ls [.int t0_2]) := by
      intro t0_2 h H locs hP hD hS ls hl
      subst eJ26
      dsimp only at h
      refine lv_istore_n (lv' := [(3, .int t0_2), (0, .ref (o 0)), (1, .int p0)]) hx hb dX7_isWilling_26 rfl hl (by decide) rfl (fun ls hl => ?_)
      refine lv_iload_n hx hb dX7_isWilling_27 rfl (lv_at hl 0 rfl) ?_
      refine x_if_eq (tgt := 50) hx hb h dX7_isWilling_28 (by decide) (fun c28 h => ?_) (fun c28 h => ?_)
      · refine lv_aload_n hx hb dX7_isWilling_50 rfl (lv_at hl 1 rfl) ?_
        refine lv_iload_n hx hb dX7_isWilling_51 rfl (lv_at hl 2 rfl) ?_
        obtain ⟨r_3, hc52, h⟩ := bd1_s h
        refine x_selfVi (As := [.int p0]) (rest := []) St0_ok S (c_X7_isDead l D cI cS o hc52) yf_X7_isDead wd10_15 ⟨Nat.le_of_ble_eq_true rfl, Nat.le_of_ble_eq_true rfl⟩ hK hSt hA hP hD hS 0 rfl rfl rfl hl.1 rfl (Nat.le_of_ble_eq_true rfl) dX7_isWilling_52 (Nat.zero_le _) (Nat.zero_le _) (fun H locs hP hD hS => ?_)
        refine x_if_ne (tgt := 62) hx hb h dX7_isWilling_55 (by decide) (fun c55 h => ?_) (fun c55 h => ?_)
        · refine lv_iconst (v := 0) hx hb dX7_isWilling_62 (by decide) ?_
          cases h
          exact x_zret hx hb hr hlocks hK hP hD hS rfl rfl (Or.inl rfl) dX7_isWilling_63
        · refine lv_iconst (v := 1) hx hb dX7_isWilling_58 (by decide) ?_
          refine lv_goto (tgt := 63) hx hb dX7_isWilling_59 (by decide) ?_
          cases h
          exact x_zret hx hb hr hlocks hK hP hD hS rfl rfl (Or.inr rfl) dX7_isWilling_63
      · refine lv_aload_n hx hb dX7_isWilling_31 rfl (lv_at hl 1 rfl) ?_
        refine lv_iload_n hx hb dX7_isWilling_32 rfl (lv_at hl 2 rfl) ?_
        refine lv_iconst (v := 5) hx hb dX7_isWilling_33 (by decide) ?_
        obtain ⟨r_4, hc34, h⟩ := bd1_s h
        refine x_selfVi (As := [.int p0, .int 5]) (rest := []) St0_ok S (c_X7_of l D cI cS o hc34) yf_X7_of wd10_11 ⟨Nat.le_of_ble_eq_true rfl, Nat.le_of_ble_eq_true rfl⟩ hK hSt hA hP hD hS 0 rfl rfl rfl hl.1 rfl (Nat.le_of_ble_eq_true rfl) dX7_isWilling_34 (Nat.zero_le _) (Nat.zero_le _) (fun H locs hP hD hS => ?_)
        refine lv_bipush (v := 30) hx hb dX7_isWilling_37 (by decide) ?_
        refine x_icmp_lt (tgt := 46) hx hb h dX7_isWilling_39 (by decide) (fun c39 h => ?_) (fun c39 h => ?_)
        · refine lv_iconst (v := 0) hx hb dX7_isWilling_46 (by decide) ?_
          refine lv_goto (tgt := 63) hx hb dX7_isWilling_47 (by decide) ?_
          cases h
          exact x_zret hx hb hr hlocks hK hP hD hS rfl rfl (Or.inl rfl) dX7_isWilling_63
        · refine lv_iconst (v := 1) hx hb dX7_isWilling_42 (by decide) ?_
          refine lv_goto (tgt := 63) hx hb dX7_isWilling_43 (by decide) ?_
          cases h
          exact x_zret hx hb hr hlocks hK hP hD hS rfl rfl (Or.inr rfl) dX7_isWilling_63
  obtain ⟨J21, eJ21, h⟩ := jnA_s h
  have wJ21 : J21  = some (r_out) → ∀ (H : Heap) (locs : List Loc), va_P D vwCl (pcX7 o cI v_d v_kept v_images v_found v_aside v_base v_at v_size v_fault v_opened v_isCold v_names v_code v_coded v_pile v_horn v_brass v_coldAhead v_which v_whichMany v_bestPass v_bestLive v_bestCode v_traced v_traceMany v_who v_bitsOf v_sizeOf v_number v_lifted) H → va_D A (pcX7 o cI v_d v_kept v_images v_found v_aside v_base v_at v_size v_fault v_opened v_isCold v_names v_code v_coded v_pile v_horn v_brass v_coldAhead v_which v_whichMany v_bestPass v_bestLive v_bestCode v_traced v_traceMany v_who v_bitsOf v_sizeOf v_number v_lifted) → va_S A s.heap H locs → ∀ ls : Array Slot, lv_has ls 4 [(0, .ref (o 0)), (1, .int p0)] → WI p l e 2 43 s m args below meth c D (tysX cI cS) A r_out (pcX7 o cI v_d v_kept v_images v_found v_aside v_base v_at v_size v_fault v_opened v_isCold v_names v_code v_coded v_pile v_horn v_brass v_coldAhead v_which v_whichMany v_bestPass v_bestLive v_bestCode v_traced v_traceMany v_who v_bitsOf v_sizeOf v_number v_lifted) H locs (F0 m 21 ls []) := by
      intro h H locs hP hD hS ls hl
      subst eJ21
      refine lv_iconst (v := 1) hx hb dX7_isWilling_21 (by decide) ?_
      refine lv_goto (tgt := 26) hx hb dX7_isWilling_22 (by decide) ?_
      exact wJ26 1 h _ _ hP hD hS _ (lv_sub hl [0, 1] rfl)
  refine x_if_eq (tgt := 21) hx hb h dX7_isWilling_8 (by decide) (fun c8 h => ?_) (fun c8 h => ?_)
  · exact wJ21 h _ _ hP hD hS _ (lv_sub hl [1, 2] rfl)
  · refine lv_iload_n hx hb dX7_isWilling_11 rfl (lv_at hl 0 rfl) ?_
    refine lv_iconst (v := 1) hx hb dX7_isWilling_12 (by decide) ?_
    refine x_icmp_eq (tgt := 21) hx hb h dX7_isWilling_13 (by decide) (fun c13 h => ?_) (fun c13 h => ?_)
    · exact wJ21 h _ _ hP hD hS _ (lv_sub hl [1, 2] rfl)
    · refine lv_iload_n hx hb dX7_isWilling_16 rfl (lv_at hl 0 rfl) ?_
      refine lv_iconst (v := 4) hx hb dX7_isWilling_17 (by decide) ?_
      refine x_icmp_ne (tgt := 25) hx hb h dX7_isWilling_18 (by decide) (fun c18 h => ?_) (fun c18 h => ?_)
      · refine lv_iconst (v := 0) hx hb dX7_isWilling_25 (by decide) ?_
        exact wJ26 0 h _ _ hP hD hS _ (lv_sub hl [1, 2] rfl)
      · exact wJ21 h _ _ hP hD hS _ (lv_sub hl [1, 2] rfl)

def f_X7_cutsOne  (v_d : Nat → Int32) (v_horn : Int32) (v_brass : Int32) (p0 : Int32) (p1 : Int32) : Option ((Int32) × (Int32)) :=
  bd1 (f_X7_of v_d p0 2) (fun r_1 => jnA (fun (t0_2 : Int32) => bd1 (f_X7_of v_d p0 3) (fun r_3 => jnA (fun (t0_4 : Int32) => jnA (fun (t0_5 : Int32) => jnA (fun (t0_6 : Int32) => nmA (v_brass + t0_6) (fun v_brass_7 => jnA (fun (t0_8 : Int32) => nmA (v_horn + t0_8) (fun v_horn_9 => some (v_horn_9, v_brass_7))) (fun J97 => jnA (J97 0) (fun J96 => (if t0_5 = 0 then (if t0_2 = 0 then J96 else J97 1) else J96))))) (fun J74 => (if t0_5 = 0 then J74 0 else J74 1))) (fun J57 => jnA (J57 0) (fun J56 => (if t0_4 = 0 then J56 else jnA (J57 1) (fun J52 => (if p1 = 0 then (if t0_2 = 0 then J52 else J56) else J52)))))) (fun J37 => (if r_3 ≤ v_brass then J37 0 else J37 1)))) (fun J18 => (if r_1 ≤ v_horn then J18 0 else J18 1)))
set_option maxHeartbeats 4000000 in
set_option maxRecDepth 100000 in
theorem c_X7_cutsOne (l : Launch) (D : va_G) (cI cS : ClassId) (o : Nat → Nat) {v_d : Nat → Int32} {v_kept : Nat → Int32} {v_images : Int32} {v_found : Nat → Int32} {v_aside : Nat → Int32} {v_base : Int32} {v_at : Int32} {v_size : Int32} {v_fault : Int32} {v_opened : Int32} {v_isCold : Int32} {v_names : Nat → Int32} {v_code : Nat → Int32} {v_coded : Int32} {v_pile : Nat → Int32} {v_horn : Int32} {v_brass : Int32} {v_coldAhead : Nat → Int32} {v_which : Nat → Int32} {v_whichMany : Int32} {v_bestPass : Int32} {v_bestLive : Int32} {v_bestCode : Int32} {v_traced : Nat → Int32} {v_traceMany : Int32} {v_who : Int32} {v_bitsOf : Nat → Int32} {v_sizeOf : Nat → Int32} {v_number : Nat → Int32} {v_lifted : Nat → Int32} {p0 : Int32} {p1 : Int32} {w_horn : Int32} {w_brass : Int32} (h : f_X7_cutsOne  v_d v_horn v_brass p0 p1 = some (w_horn, w_brass)) : MetV l D (tysX cI cS) St0 yX7_cutsOne cX7_cutsOne 6 none 1 22 [.ref (o 0), .int p0, .int p1] (pcX7 o cI v_d v_kept v_images v_found v_aside v_base v_at v_size v_fault v_opened v_isCold v_names v_code v_coded v_pile v_horn v_brass v_coldAhead v_which v_whichMany v_bestPass v_bestLive v_bestCode v_traced v_traceMany v_who v_bitsOf v_sizeOf v_number v_lifted) (pcX7 o cI v_d v_kept v_images v_found v_aside v_base v_at v_size v_fault v_opened v_isCold v_names v_code v_coded v_pile w_horn w_brass v_coldAhead v_which v_whichMany v_bestPass v_bestLive v_bestCode v_traced v_traceMany v_who v_bitsOf v_sizeOf v_number v_lifted) := by
  refine Ent.metV (by decide +kernel) (Nat.le_of_ble_eq_true rfl) ?_
  intro p e s m args below meth c A ls hx hb hr hml hown hts hlocks hA hK hSt hP hD hS hl
  have hown : s.vm.findClass RX7 = some m.cls := hown
  have S : XFix p m c cX7_cutsOne 6 s args RX7 := ⟨hx, hb, hml, hown, hts⟩
  have hl : lv_has ls 6 [(0, .ref (o 0)), (1, .int p0), (2, .int p1)] := hl
  unfold f_X7_cutsOne at h
  refine lv_aload_n hx hb dX7_cutsOne_0 rfl (lv_at hl 0 rfl) ?_
  refine lv_iload_n hx hb dX7_cutsOne_1 rfl (lv_at hl 1 rfl) ?_
  refine lv_iconst (v := 2) hx hb dX7_cutsOne_2 (by decide) ?_
  obtain ⟨r_1, hc3, h⟩ := bd1_s h
  refine x_selfVi (As := [.int p0, .int 2]) (rest := []) St0_ok S (c_X7_of l D cI cS o hc3) yf_X7_of wd10_11 ⟨Nat.le_of_ble_eq_true rfl, Nat.le_of_ble_eq_true rfl⟩ hK hSt hA hP hD hS 0 rfl rfl rfl hl.1 rfl (Nat.le_of_ble_eq_true rfl) dX7_cutsOne_3 (Nat.zero_le _) (Nat.zero_le _) (fun H locs hP hD hS => ?_)
  refine lv_aload_n hx hb dX7_cutsOne_6 rfl (lv_at hl 0 rfl) ?_
  refine gt_X7_156 S hK hP 0 rfl rfl dX7_cutsOne_7 ?_
  obtain ⟨J18, eJ18, h⟩ := jnA_s h
  have wJ18 : ∀ (t0_2 : Int32), J18 t0_2 = some (w_horn, w_brass) → ∀ (H : Heap) (locs : List Loc), va_P D vwCl (pcX7 o cI v_d v_kept v_images v_found v_aside v_base v_at v_size v_fault v_opened v_isCold v_names v_code v_coded v_pile v_horn v_brass v_coldAhead v_which v_whichMany v_bestPass v_bestLive v_bestCode v_traced v_traceMany v_who v_bitsOf v_sizeOf v_number v_lifted) H → va_D A (pcX7 o cI v_d v_kept v_images v_found v_aside v_base v_at v_size v_fault v_opened v_isCold v_names v_code v_coded v_pile v_horn v_brass v_coldAhead v_which v_whichMany v_bestPass v_bestLive v_bestCode v_traced v_traceMany v_who v_bitsOf v_sizeOf v_number v_lifted) → va_S A s.heap H locs → ∀ ls : Array Slot, lv_has ls 6 [(0, .ref (o 0)), (1, .int p0), (2, .int p1)] → WV p l e 1 22 s m args below meth c D (tysX cI cS) A (pcX7 o cI v_d v_kept v_images v_found v_aside v_base v_at v_size v_fault v_opened v_isCold v_names v_code v_coded v_pile w_horn w_brass v_coldAhead v_which v_whichMany v_bestPass v_bestLive v_bestCode v_traced v_traceMany v_who v_bitsOf v_sizeOf v_number v_lifted) H locs (F0 m 18 ls [.int t0_2]) := by
      intro t0_2 h H locs hP hD hS ls hl
      subst eJ18
      dsimp only at h
      refine lv_istore_n (lv' := [(3, .int t0_2), (0, .ref (o 0)), (1, .int p0), (2, .int p1)]) hx hb dX7_cutsOne_18 rfl hl (by decide) rfl (fun ls hl => ?_)
      refine lv_aload_n hx hb dX7_cutsOne_19 rfl (lv_at hl 1 rfl) ?_
      refine lv_iload_n hx hb dX7_cutsOne_20 rfl (lv_at hl 2 rfl) ?_
      refine lv_iconst (v := 3) hx hb dX7_cutsOne_21 (by decide) ?_
      obtain ⟨r_3, hc22, h⟩ := bd1_s h
      refine x_selfVi (As := [.int p0, .int 3]) (rest := []) St0_ok S (c_X7_of l D cI cS o hc22) yf_X7_of wd10_11 ⟨Nat.le_of_ble_eq_true rfl, Nat.le_of_ble_eq_true rfl⟩ hK hSt hA hP hD hS 0 rfl rfl rfl hl.1 rfl (Nat.le_of_ble_eq_true rfl) dX7_cutsOne_22 (Nat.zero_le _) (Nat.zero_le _) (fun H locs hP hD hS => ?_)
      refine lv_aload_n hx hb dX7_cutsOne_25 rfl (lv_at hl 1 rfl) ?_
      refine gt_X7_159 S hK hP 0 rfl rfl dX7_cutsOne_26 ?_
      obtain ⟨J37, eJ37, h⟩ := jnA_s h
      have wJ37 : ∀ (t0_4 : Int32), J37 t0_4 = some (w_horn, w_brass) → ∀ (H : Heap) (locs : List Loc), va_P D vwCl (pcX7 o cI v_d v_kept v_images v_found v_aside v_base v_at v_size v_fault v_opened v_isCold v_names v_code v_coded v_pile v_horn v_brass v_coldAhead v_which v_whichMany v_bestPass v_bestLive v_bestCode v_traced v_traceMany v_who v_bitsOf v_sizeOf v_number v_lifted) H → va_D A (pcX7 o cI v_d v_kept v_images v_found v_aside v_base v_at v_size v_fault v_opened v_isCold v_names v_code v_coded v_pile v_horn v_brass v_coldAhead v_which v_whichMany v_bestPass v_bestLive v_bestCode v_traced v_traceMany v_who v_bitsOf v_sizeOf v_number v_lifted) → va_S A s.heap H locs → ∀ ls : Array Slot, lv_has ls 6 [(0, .ref (o 0)), (2, .int p1), (3, .int t0_2)] → WV p l e 1 22 s m args below meth c D (tysX cI cS) A (pcX7 o cI v_d v_kept v_images v_found v_aside v_base v_at v_size v_fault v_opened v_isCold v_names v_code v_coded v_pile w_horn w_brass v_coldAhead v_which v_whichMany v_bestPass v_bestLive v_bestCode v_traced v_traceMany v_who v_bitsOf v_sizeOf v_number v_lifted) H locs (F0 m 37 ls [.int t0_4]) := by
          intro t0_4 h H locs hP hD hS ls hl
          subst eJ37
          dsimp only at h
          refine lv_istore (lv' := [(4, .int t0_4), (0, .ref (o 0)), (2, .int p1), (3, .int t0_2)]) hx hb dX7_cutsOne_37 hl (by decide) rfl (fun ls hl => ?_)
          refine lv_iload hx hb dX7_cutsOne_39 (lv_at hl 0 rfl) ?_
          obtain ⟨J57, eJ57, h⟩ := jnA_s h
          have wJ57 : ∀ (t0_5 : Int32), J57 t0_5 = some (w_horn, w_brass) → ∀ (H : Heap) (locs : List Loc), va_P D vwCl (pcX7 o cI v_d v_kept v_images v_found v_aside v_base v_at v_size v_fault v_opened v_isCold v_names v_code v_coded v_pile v_horn v_brass v_coldAhead v_which v_whichMany v_bestPass v_bestLive v_bestCode v_traced v_traceMany v_who v_bitsOf v_sizeOf v_number v_lifted) H → va_D A (pcX7 o cI v_d v_kept v_images v_found v_aside v_base v_at v_size v_fault v_opened v_isCold v_names v_code v_coded v_pile v_horn v_brass v_coldAhead v_which v_whichMany v_bestPass v_bestLive v_bestCode v_traced v_traceMany v_who v_bitsOf v_sizeOf v_number v_lifted) → va_S A s.heap H locs → ∀ ls : Array Slot, lv_has ls 6 [(0, .ref (o 0)), (3, .int t0_2)] → WV p l e 1 22 s m args below meth c D (tysX cI cS) A (pcX7 o cI v_d v_kept v_images v_found v_aside v_base v_at v_size v_fault v_opened v_isCold v_names v_code v_coded v_pile w_horn w_brass v_coldAhead v_which v_whichMany v_bestPass v_bestLive v_bestCode v_traced v_traceMany v_who v_bitsOf v_sizeOf v_number v_lifted) H locs (F0 m 57 ls [.int t0_5]) := by
              intro t0_5 h H locs hP hD hS ls hl
              subst eJ57
              dsimp only at h
              refine lv_istore (lv' := [(5, .int t0_5), (0, .ref (o 0)), (3, .int t0_2)]) hx hb dX7_cutsOne_57 hl (by decide) rfl (fun ls hl => ?_)
              refine lv_aload_n hx hb dX7_cutsOne_59 rfl (lv_at hl 1 rfl) ?_
              refine lv_dup hx hb dX7_cutsOne_60 rfl ?_
              refine gt_X7_159 S hK hP 0 rfl rfl dX7_cutsOne_61 ?_
              refine lv_iload hx hb dX7_cutsOne_64 (lv_at hl 0 rfl) ?_
              obtain ⟨J74, eJ74, h⟩ := jnA_s h
              have wJ74 : ∀ (t0_6 : Int32), J74 t0_6 = some (w_horn, w_brass) → ∀ (H : Heap) (locs : List Loc), va_P D vwCl (pcX7 o cI v_d v_kept v_images v_found v_aside v_base v_at v_size v_fault v_opened v_isCold v_names v_code v_coded v_pile v_horn v_brass v_coldAhead v_which v_whichMany v_bestPass v_bestLive v_bestCode v_traced v_traceMany v_who v_bitsOf v_sizeOf v_number v_lifted) H → va_D A (pcX7 o cI v_d v_kept v_images v_found v_aside v_base v_at v_size v_fault v_opened v_isCold v_names v_code v_coded v_pile v_horn v_brass v_coldAhead v_which v_whichMany v_bestPass v_bestLive v_bestCode v_traced v_traceMany v_who v_bitsOf v_sizeOf v_number v_lifted) → va_S A s.heap H locs → ∀ ls : Array Slot, lv_has ls 6 [(0, .ref (o 0)), (3, .int t0_2), (5, .int t0_5)] → WV p l e 1 22 s m args below meth c D (tysX cI cS) A (pcX7 o cI v_d v_kept v_images v_found v_aside v_base v_at v_size v_fault v_opened v_isCold v_names v_code v_coded v_pile w_horn w_brass v_coldAhead v_which v_whichMany v_bestPass v_bestLive v_bestCode v_traced v_traceMany v_who v_bitsOf v_sizeOf v_number v_lifted) H locs (F0 m 74 ls [.int t0_6, .int v_brass, .ref (o 0)]) := by
                  intro t0_6 h H locs hP hD hS ls hl
                  subst eJ74
                  dsimp only at h
                  refine lv_iadd hx hb dX7_cutsOne_74 ?_
                  refine x_nm h (fun v_brass_7 ev_brass_7 h => ?_)
                  refine pt_X7_159 S hK hP hD hS 0 rfl (Nat.le_of_ble_eq_true rfl) dX7_cutsOne_75 (fun H locs hP hD hS => ?_)
                  have hP : va_P D vwCl (pcX7 o cI v_d v_kept v_images v_found v_aside v_base v_at v_size v_fault v_opened v_isCold v_names v_code v_coded v_pile v_horn v_brass_7 v_coldAhead v_which v_whichMany v_bestPass v_bestLive v_bestCode v_traced v_traceMany v_who v_bitsOf v_sizeOf v_number v_lifted) H := hP
                  have hD : va_D A (pcX7 o cI v_d v_kept v_images v_found v_aside v_base v_at v_size v_fault v_opened v_isCold v_names v_code v_coded v_pile v_horn v_brass_7 v_coldAhead v_which v_whichMany v_bestPass v_bestLive v_bestCode v_traced v_traceMany v_who v_bitsOf v_sizeOf v_number v_lifted) := hD
                  refine lv_aload_n hx hb dX7_cutsOne_78 rfl (lv_at hl 0 rfl) ?_
                  refine lv_dup hx hb dX7_cutsOne_79 rfl ?_
                  refine gt_X7_156 S hK hP 0 rfl rfl dX7_cutsOne_80 ?_
                  refine lv_iload hx hb dX7_cutsOne_83 (lv_at hl 2 rfl) ?_
                  obtain ⟨J97, eJ97, h⟩ := jnA_s h
                  have wJ97 : ∀ (t0_8 : Int32), J97 t0_8 = some (w_horn, w_brass) → ∀ (H : Heap) (locs : List Loc), va_P D vwCl (pcX7 o cI v_d v_kept v_images v_found v_aside v_base v_at v_size v_fault v_opened v_isCold v_names v_code v_coded v_pile v_horn v_brass_7 v_coldAhead v_which v_whichMany v_bestPass v_bestLive v_bestCode v_traced v_traceMany v_who v_bitsOf v_sizeOf v_number v_lifted) H → va_D A (pcX7 o cI v_d v_kept v_images v_found v_aside v_base v_at v_size v_fault v_opened v_isCold v_names v_code v_coded v_pile v_horn v_brass_7 v_coldAhead v_which v_whichMany v_bestPass v_bestLive v_bestCode v_traced v_traceMany v_who v_bitsOf v_sizeOf v_number v_lifted) → va_S A s.heap H locs → ∀ ls : Array Slot, lv_has ls 6 [] → WV p l e 1 22 s m args below meth c D (tysX cI cS) A (pcX7 o cI v_d v_kept v_images v_found v_aside v_base v_at v_size v_fault v_opened v_isCold v_names v_code v_coded v_pile w_horn w_brass v_coldAhead v_which v_whichMany v_bestPass v_bestLive v_bestCode v_traced v_traceMany v_who v_bitsOf v_sizeOf v_number v_lifted) H locs (F0 m 97 ls [.int t0_8, .int v_horn, .ref (o 0)]) := by
                      intro t0_8 h H locs hP hD hS ls hl
                      subst eJ97
                      dsimp only at h
                      refine lv_iadd hx hb dX7_cutsOne_97 ?_
                      refine x_nm h (fun v_horn_9 ev_horn_9 h => ?_)
                      refine pt_X7_156 S hK hP hD hS 0 rfl (Nat.le_of_ble_eq_true rfl) dX7_cutsOne_98 (fun H locs hP hD hS => ?_)
                      have hP : va_P D vwCl (pcX7 o cI v_d v_kept v_images v_found v_aside v_base v_at v_size v_fault v_opened v_isCold v_names v_code v_coded v_pile v_horn_9 v_brass_7 v_coldAhead v_which v_whichMany v_bestPass v_bestLive v_bestCode v_traced v_traceMany v_who v_bitsOf v_sizeOf v_number v_lifted) H := hP
                      have hD : va_D A (pcX7 o cI v_d v_kept v_images v_found v_aside v_base v_at v_size v_fault v_opened v_isCold v_names v_code v_coded v_pile v_horn_9 v_brass_7 v_coldAhead v_which v_whichMany v_bestPass v_bestLive v_bestCode v_traced v_traceMany v_who v_bitsOf v_sizeOf v_number v_lifted) := hD
                      cases h
                      exact x_vret hx hb hr hlocks hK hP hD hS rfl dX7_cutsOne_101
                  obtain ⟨J96, eJ96, h⟩ := jnA_s h
                  have wJ96 : J96  = some (w_horn, w_brass) → ∀ (H : Heap) (locs : List Loc), va_P D vwCl (pcX7 o cI v_d v_kept v_images v_found v_aside v_base v_at v_size v_fault v_opened v_isCold v_names v_code v_coded v_pile v_horn v_brass_7 v_coldAhead v_which v_whichMany v_bestPass v_bestLive v_bestCode v_traced v_traceMany v_who v_bitsOf v_sizeOf v_number v_lifted) H → va_D A (pcX7 o cI v_d v_kept v_images v_found v_aside v_base v_at v_size v_fault v_opened v_isCold v_names v_code v_coded v_pile v_horn v_brass_7 v_coldAhead v_which v_whichMany v_bestPass v_bestLive v_bestCode v_traced v_traceMany v_who v_bitsOf v_sizeOf v_number v_lifted) → va_S A s.heap H locs → ∀ ls : Array Slot, lv_has ls 6 [] → WV p l e 1 22 s m args below meth c D (tysX cI cS) A (pcX7 o cI v_d v_kept v_images v_found v_aside v_base v_at v_size v_fault v_opened v_isCold v_names v_code v_coded v_pile w_horn w_brass v_coldAhead v_which v_whichMany v_bestPass v_bestLive v_bestCode v_traced v_traceMany v_who v_bitsOf v_sizeOf v_number v_lifted) H locs (F0 m 96 ls [.int v_horn, .ref (o 0)]) := by
                      intro h H locs hP hD hS ls hl
                      subst eJ96
                      refine lv_iconst (v := 0) hx hb dX7_cutsOne_96 (by decide) ?_
                      exact wJ97 0 h _ _ hP hD hS _ (lv_sub hl [] rfl)
                  refine x_if_ne (tgt := 96) hx hb h dX7_cutsOne_85 (by decide) (fun c85 h => ?_) (fun c85 h => ?_)
                  · exact wJ96 h _ _ hP hD hS _ (lv_sub hl [] rfl)
                  · refine lv_iload_n hx hb dX7_cutsOne_88 rfl (lv_at hl 1 rfl) ?_
                    refine x_if_eq (tgt := 96) hx hb h dX7_cutsOne_89 (by decide) (fun c89 h => ?_) (fun c89 h => ?_)
                    · exact wJ96 h _ _ hP hD hS _ (lv_sub hl [] rfl)
                    · refine lv_iconst (v := 1) hx hb dX7_cutsOne_92 (by decide) ?_
                      refine lv_goto (tgt := 97) hx hb dX7_cutsOne_93 (by decide) ?_
                      exact wJ97 1 h _ _ hP hD hS _ (lv_sub hl [] rfl)
              refine x_if_eq (tgt := 73) hx hb h dX7_cutsOne_66 (by decide) (fun c66 h => ?_) (fun c66 h => ?_)
              · refine lv_iconst (v := 0) hx hb dX7_cutsOne_73 (by decide) ?_
                exact wJ74 0 h _ _ hP hD hS _ (lv_sub hl [1, 2, 0] rfl)
              · refine lv_iconst (v := 1) hx hb dX7_cutsOne_69 (by decide) ?_
                refine lv_goto (tgt := 74) hx hb dX7_cutsOne_70 (by decide) ?_
                exact wJ74 1 h _ _ hP hD hS _ (lv_sub hl [1, 2, 0] rfl)
          obtain ⟨J56, eJ56, h⟩ := jnA_s h
          have wJ56 : J56  = some (w_horn, w_brass) → ∀ (H : Heap) (locs : List Loc), va_P D vwCl (pcX7 o cI v_d v_kept v_images v_found v_aside v_base v_at v_size v_fault v_opened v_isCold v_names v_code v_coded v_pile v_horn v_brass v_coldAhead v_which v_whichMany v_bestPass v_bestLive v_bestCode v_traced v_traceMany v_who v_bitsOf v_sizeOf v_number v_lifted) H → va_D A (pcX7 o cI v_d v_kept v_images v_found v_aside v_base v_at v_size v_fault v_opened v_isCold v_names v_code v_coded v_pile v_horn v_brass v_coldAhead v_which v_whichMany v_bestPass v_bestLive v_bestCode v_traced v_traceMany v_who v_bitsOf v_sizeOf v_number v_lifted) → va_S A s.heap H locs → ∀ ls : Array Slot, lv_has ls 6 [(0, .ref (o 0)), (3, .int t0_2)] → WV p l e 1 22 s m args below meth c D (tysX cI cS) A (pcX7 o cI v_d v_kept v_images v_found v_aside v_base v_at v_size v_fault v_opened v_isCold v_names v_code v_coded v_pile w_horn w_brass v_coldAhead v_which v_whichMany v_bestPass v_bestLive v_bestCode v_traced v_traceMany v_who v_bitsOf v_sizeOf v_number v_lifted) H locs (F0 m 56 ls []) := by
              intro h H locs hP hD hS ls hl
              subst eJ56
              refine lv_iconst (v := 0) hx hb dX7_cutsOne_56 (by decide) ?_
              exact wJ57 0 h _ _ hP hD hS _ (lv_sub hl [0, 1] rfl)
          refine x_if_eq (tgt := 56) hx hb h dX7_cutsOne_41 (by decide) (fun c41 h => ?_) (fun c41 h => ?_)
          · exact wJ56 h _ _ hP hD hS _ (lv_sub hl [1, 3] rfl)
          · refine lv_iload_n hx hb dX7_cutsOne_44 rfl (lv_at hl 2 rfl) ?_
            obtain ⟨J52, eJ52, h⟩ := jnA_s h
            have wJ52 : J52  = some (w_horn, w_brass) → ∀ (H : Heap) (locs : List Loc), va_P D vwCl (pcX7 o cI v_d v_kept v_images v_found v_aside v_base v_at v_size v_fault v_opened v_isCold v_names v_code v_coded v_pile v_horn v_brass v_coldAhead v_which v_whichMany v_bestPass v_bestLive v_bestCode v_traced v_traceMany v_who v_bitsOf v_sizeOf v_number v_lifted) H → va_D A (pcX7 o cI v_d v_kept v_images v_found v_aside v_base v_at v_size v_fault v_opened v_isCold v_names v_code v_coded v_pile v_horn v_brass v_coldAhead v_which v_whichMany v_bestPass v_bestLive v_bestCode v_traced v_traceMany v_who v_bitsOf v_sizeOf v_number v_lifted) → va_S A s.heap H locs → ∀ ls : Array Slot, lv_has ls 6 [(0, .ref (o 0)), (3, .int t0_2)] → WV p l e 1 22 s m args below meth c D (tysX cI cS) A (pcX7 o cI v_d v_kept v_images v_found v_aside v_base v_at v_size v_fault v_opened v_isCold v_names v_code v_coded v_pile w_horn w_brass v_coldAhead v_which v_whichMany v_bestPass v_bestLive v_bestCode v_traced v_traceMany v_who v_bitsOf v_sizeOf v_number v_lifted) H locs (F0 m 52 ls []) := by
                intro h H locs hP hD hS ls hl
                subst eJ52
                refine lv_iconst (v := 1) hx hb dX7_cutsOne_52 (by decide) ?_
                refine lv_goto (tgt := 57) hx hb dX7_cutsOne_53 (by decide) ?_
                exact wJ57 1 h _ _ hP hD hS _ (lv_sub hl [0, 1] rfl)
            refine x_if_ne (tgt := 52) hx hb h dX7_cutsOne_45 (by decide) (fun c45 h => ?_) (fun c45 h => ?_)
            · exact wJ52 h _ _ hP hD hS _ (lv_sub hl [1, 3] rfl)
            · refine lv_iload_n hx hb dX7_cutsOne_48 rfl (lv_at hl 3 rfl) ?_
              refine x_if_ne (tgt := 56) hx hb h dX7_cutsOne_49 (by decide) (fun c49 h => ?_) (fun c49 h => ?_)
              · exact wJ56 h _ _ hP hD hS _ (lv_sub hl [1, 3] rfl)
              · exact wJ52 h _ _ hP hD hS _ (lv_sub hl [1, 3] rfl)
      refine x_icmp_le (tgt := 36) hx hb h dX7_cutsOne_29 (by decide) (fun c29 h => ?_) (fun c29 h => ?_)
      · refine lv_iconst (v := 0) hx hb dX7_cutsOne_36 (by decide) ?_
        exact wJ37 0 h _ _ hP hD hS _ (lv_sub hl [1, 3, 0] rfl)
      · refine lv_iconst (v := 1) hx hb dX7_cutsOne_32 (by decide) ?_
        refine lv_goto (tgt := 37) hx hb dX7_cutsOne_33 (by decide) ?_
        exact wJ37 1 h _ _ hP hD hS _ (lv_sub hl [1, 3, 0] rfl)
  refine x_icmp_le (tgt := 17) hx hb h dX7_cutsOne_10 (by decide) (fun c10 h => ?_) (fun c10 h => ?_)
  · refine lv_iconst (v := 0) hx hb dX7_cutsOne_17 (by decide) ?_
    exact wJ18 0 h _ _ hP hD hS _ (lv_sub hl [0, 1, 2] rfl)
  · refine lv_iconst (v := 1) hx hb dX7_cutsOne_13 (by decide) ?_
    refine lv_goto (tgt := 18) hx hb dX7_cutsOne_14 (by decide) ?_
    exact wJ18 1 h _ _ hP hD hS _ (lv_sub hl [0, 1, 2] rfl)

def f_X7_cuts  (v_d : Nat → Int32) (v_horn : Int32) (v_brass : Int32) (p0 : Int32) : Option ((Int32) × (Int32)) :=
  bd1 (f_X7_of v_d p0 0) (fun r_1 => bd1 (f_X7_isWilling v_d p0) (fun r_2 => (if r_2 = 0 then some (0, 0) else (if r_1 = 2 then some (0, 0) else (if r_1 = 5 then some (0, 0) else jnA (fun (t0_3 : Int32) => bd2 (f_X7_cutsOne v_d 0 0 p0 t0_3) (fun v_horn_4 v_brass_5 => (if r_1 = 6 then bd2 (f_X7_cutsOne v_d v_horn_4 v_brass_5 p0 1) (fun v_horn_6 v_brass_7 => some (v_horn_6, v_brass_7)) else some (v_horn_4, v_brass_5)))) (fun J54 => jnA (J54 1) (fun J49 => (if r_1 = 3 then J49 else (if r_1 = 6 then J49 else J54 0)))))))))
set_option maxHeartbeats 4000000 in
set_option maxRecDepth 100000 in
theorem c_X7_cuts (l : Launch) (D : va_G) (cI cS : ClassId) (o : Nat → Nat) {v_d : Nat → Int32} {v_kept : Nat → Int32} {v_images : Int32} {v_found : Nat → Int32} {v_aside : Nat → Int32} {v_base : Int32} {v_at : Int32} {v_size : Int32} {v_fault : Int32} {v_opened : Int32} {v_isCold : Int32} {v_names : Nat → Int32} {v_code : Nat → Int32} {v_coded : Int32} {v_pile : Nat → Int32} {v_horn : Int32} {v_brass : Int32} {v_coldAhead : Nat → Int32} {v_which : Nat → Int32} {v_whichMany : Int32} {v_bestPass : Int32} {v_bestLive : Int32} {v_bestCode : Int32} {v_traced : Nat → Int32} {v_traceMany : Int32} {v_who : Int32} {v_bitsOf : Nat → Int32} {v_sizeOf : Nat → Int32} {v_number : Nat → Int32} {v_lifted : Nat → Int32} {p0 : Int32} {w_horn : Int32} {w_brass : Int32} (h : f_X7_cuts  v_d v_horn v_brass p0 = some (w_horn, w_brass)) : MetV l D (tysX cI cS) St0 yX7_cuts cX7_cuts 3 none 3 66 [.ref (o 0), .int p0] (pcX7 o cI v_d v_kept v_images v_found v_aside v_base v_at v_size v_fault v_opened v_isCold v_names v_code v_coded v_pile v_horn v_brass v_coldAhead v_which v_whichMany v_bestPass v_bestLive v_bestCode v_traced v_traceMany v_who v_bitsOf v_sizeOf v_number v_lifted) (pcX7 o cI v_d v_kept v_images v_found v_aside v_base v_at v_size v_fault v_opened v_isCold v_names v_code v_coded v_pile w_horn w_brass v_coldAhead v_which v_whichMany v_bestPass v_bestLive v_bestCode v_traced v_traceMany v_who v_bitsOf v_sizeOf v_number v_lifted) := by
  refine Ent.metV (by decide +kernel) (Nat.le_of_ble_eq_true rfl) ?_
  intro p e s m args below meth c A ls hx hb hr hml hown hts hlocks hA hK hSt hP hD hS hl
  have hown : s.vm.findClass RX7 = some m.cls := hown
  have S : XFix p m c cX7_cuts 3 s args RX7 := ⟨hx, hb, hml, hown, hts⟩
  have hl : lv_has ls 3 [(0, .ref (o 0)), (1, .int p0)] := hl
  unfold f_X7_cuts at h
  refine lv_aload_n hx hb dX7_cuts_0 rfl (lv_at hl 0 rfl) ?_
  refine lv_iconst (v := 0) hx hb dX7_cuts_1 (by decide) ?_
  refine pt_X7_156 S hK hP hD hS 0 rfl (Nat.le_of_ble_eq_true rfl) dX7_cuts_2 (fun H locs hP hD hS => ?_)
  have hP : va_P D vwCl (pcX7 o cI v_d v_kept v_images v_found v_aside v_base v_at v_size v_fault v_opened v_isCold v_names v_code v_coded v_pile 0 v_brass v_coldAhead v_which v_whichMany v_bestPass v_bestLive v_bestCode v_traced v_traceMany v_who v_bitsOf v_sizeOf v_number v_lifted) H := hP
  have hD : va_D A (pcX7 o cI v_d v_kept v_images v_found v_aside v_base v_at v_size v_fault v_opened v_isCold v_names v_code v_coded v_pile 0 v_brass v_coldAhead v_which v_whichMany v_bestPass v_bestLive v_bestCode v_traced v_traceMany v_who v_bitsOf v_sizeOf v_number v_lifted) := hD
  refine lv_aload_n hx hb dX7_cuts_5 rfl (lv_at hl 0 rfl) ?_
  refine lv_iconst (v := 0) hx hb dX7_cuts_6 (by decide) ?_
  refine pt_X7_159 S hK hP hD hS 0 rfl (Nat.le_of_ble_eq_true rfl) dX7_cuts_7 (fun H locs hP hD hS => ?_)
  have hP : va_P D vwCl (pcX7 o cI v_d v_kept v_images v_found v_aside v_base v_at v_size v_fault v_opened v_isCold v_names v_code v_coded v_pile 0 0 v_coldAhead v_which v_whichMany v_bestPass v_bestLive v_bestCode v_traced v_traceMany v_who v_bitsOf v_sizeOf v_number v_lifted) H := hP
  have hD : va_D A (pcX7 o cI v_d v_kept v_images v_found v_aside v_base v_at v_size v_fault v_opened v_isCold v_names v_code v_coded v_pile 0 0 v_coldAhead v_which v_whichMany v_bestPass v_bestLive v_bestCode v_traced v_traceMany v_who v_bitsOf v_sizeOf v_number v_lifted) := hD
  refine lv_aload_n hx hb dX7_cuts_10 rfl (lv_at hl 0 rfl) ?_
  refine lv_iload_n hx hb dX7_cuts_11 rfl (lv_at hl 1 rfl) ?_
  refine lv_iconst (v := 0) hx hb dX7_cuts_12 (by decide) ?_
  obtain ⟨r_1, hc13, h⟩ := bd1_s h
  refine x_selfVi (As := [.int p0, .int 0]) (rest := []) St0_ok S (c_X7_of l D cI cS o hc13) yf_X7_of wd10_11 ⟨Nat.le_of_ble_eq_true rfl, Nat.le_of_ble_eq_true rfl⟩ hK hSt hA hP hD hS 0 rfl rfl rfl hl.1 rfl (Nat.le_of_ble_eq_true rfl) dX7_cuts_13 (Nat.zero_le _) (Nat.zero_le _) (fun H locs hP hD hS => ?_)
  refine lv_istore_n (lv' := [(2, .int r_1), (0, .ref (o 0)), (1, .int p0)]) hx hb dX7_cuts_16 rfl hl (by decide) rfl (fun ls hl => ?_)
  refine lv_aload_n hx hb dX7_cuts_17 rfl (lv_at hl 1 rfl) ?_
  refine lv_iload_n hx hb dX7_cuts_18 rfl (lv_at hl 2 rfl) ?_
  obtain ⟨r_2, hc19, h⟩ := bd1_s h
  refine x_selfVi (As := [.int p0]) (rest := []) St0_ok S (c_X7_isWilling l D cI cS o hc19) yf_X7_isWilling wd10_7 ⟨Nat.le_of_ble_eq_true rfl, Nat.le_of_ble_eq_true rfl⟩ hK hSt hA hP hD hS 0 rfl rfl rfl hl.1 rfl (Nat.le_of_ble_eq_true rfl) dX7_cuts_19 (Nat.zero_le _) (Nat.zero_le _) (fun H locs hP hD hS => ?_)
  refine x_if_eq (tgt := 35) hx hb h dX7_cuts_22 (by decide) (fun c22 h => ?_) (fun c22 h => ?_)
  · cases h
    exact x_vret hx hb hr hlocks hK hP hD hS rfl dX7_cuts_35
  · refine lv_iload_n hx hb dX7_cuts_25 rfl (lv_at hl 0 rfl) ?_
    refine lv_iconst (v := 2) hx hb dX7_cuts_26 (by decide) ?_
    refine x_icmp_eq (tgt := 35) hx hb h dX7_cuts_27 (by decide) (fun c27 h => ?_) (fun c27 h => ?_)
    · cases h
      exact x_vret hx hb hr hlocks hK hP hD hS rfl dX7_cuts_35
    · refine lv_iload_n hx hb dX7_cuts_30 rfl (lv_at hl 0 rfl) ?_
      refine lv_iconst (v := 5) hx hb dX7_cuts_31 (by decide) ?_
      refine x_icmp_ne (tgt := 36) hx hb h dX7_cuts_32 (by decide) (fun c32 h => ?_) (fun c32 h => ?_)
      · refine lv_aload_n hx hb dX7_cuts_36 rfl (lv_at hl 1 rfl) ?_
        refine lv_iload_n hx hb dX7_cuts_37 rfl (lv_at hl 2 rfl) ?_
        refine lv_iload_n hx hb dX7_cuts_38 rfl (lv_at hl 0 rfl) ?_
        refine lv_iconst (v := 3) hx hb dX7_cuts_39 (by decide) ?_
        obtain ⟨J54, eJ54, h⟩ := jnA_s h
        have wJ54 : ∀ (t0_3 : Int32), J54 t0_3 = some (w_horn, w_brass) → ∀ (H : Heap) (locs : List Loc), va_P D vwCl (pcX7 o cI v_d v_kept v_images v_found v_aside v_base v_at v_size v_fault v_opened v_isCold v_names v_code v_coded v_pile 0 0 v_coldAhead v_which v_whichMany v_bestPass v_bestLive v_bestCode v_traced v_traceMany v_who v_bitsOf v_sizeOf v_number v_lifted) H → va_D A (pcX7 o cI v_d v_kept v_images v_found v_aside v_base v_at v_size v_fault v_opened v_isCold v_names v_code v_coded v_pile 0 0 v_coldAhead v_which v_whichMany v_bestPass v_bestLive v_bestCode v_traced v_traceMany v_who v_bitsOf v_sizeOf v_number v_lifted) → va_S A s.heap H locs → ∀ ls : Array Slot, lv_has ls 3 [(0, .ref (o 0)), (1, .int p0), (2, .int r_1)] → WV p l e 3 66 s m args below meth c D (tysX cI cS) A (pcX7 o cI v_d v_kept v_images v_found v_aside v_base v_at v_size v_fault v_opened v_isCold v_names v_code v_coded v_pile w_horn w_brass v_coldAhead v_which v_whichMany v_bestPass v_bestLive v_bestCode v_traced v_traceMany v_who v_bitsOf v_sizeOf v_number v_lifted) H locs (F0 m 54 ls [.int t0_3, .int p0, .ref (o 0)]) := by
            intro t0_3 h H locs hP hD hS ls hl
            subst eJ54
            dsimp only at h
            obtain ⟨v_horn_4, v_brass_5, hc54, h⟩ := bd2_s h
            refine x_selfVv (As := [.int p0, .int t0_3]) (rest := []) St0_ok S (c_X7_cutsOne l D cI cS o hc54) yf_X7_cutsOne wd10_23 ⟨Nat.le_of_ble_eq_true rfl, Nat.le_of_ble_eq_true rfl⟩ hK hSt hA hP hD hS 0 rfl rfl rfl hl.1 rfl (Nat.le_of_ble_eq_true rfl) dX7_cuts_54 (Nat.zero_le _) (Nat.zero_le _) (fun H locs hP hD hS => ?_)
            refine lv_iload_n hx hb dX7_cuts_57 rfl (lv_at hl 2 rfl) ?_
            refine lv_bipush (v := 6) hx hb dX7_cuts_58 (by decide) ?_
            refine x_icmp_ne (tgt := 69) hx hb h dX7_cuts_60 (by decide) (fun c60 h => ?_) (fun c60 h => ?_)
            · cases h
              exact x_vret hx hb hr hlocks hK hP hD hS rfl dX7_cuts_69
            · refine lv_aload_n hx hb dX7_cuts_63 rfl (lv_at hl 0 rfl) ?_
              refine lv_iload_n hx hb dX7_cuts_64 rfl (lv_at hl 1 rfl) ?_
              refine lv_iconst (v := 1) hx hb dX7_cuts_65 (by decide) ?_
              obtain ⟨v_horn_6, v_brass_7, hc66, h⟩ := bd2_s h
              refine x_selfVv (As := [.int p0, .int 1]) (rest := []) St0_ok S (c_X7_cutsOne l D cI cS o hc66) yf_X7_cutsOne wd10_23 ⟨Nat.le_of_ble_eq_true rfl, Nat.le_of_ble_eq_true rfl⟩ hK hSt hA hP hD hS 0 rfl rfl rfl hl.1 rfl (Nat.le_of_ble_eq_true rfl) dX7_cuts_66 (Nat.zero_le _) (Nat.zero_le _) (fun H locs hP hD hS => ?_)
              cases h
              exact x_vret hx hb hr hlocks hK hP hD hS rfl dX7_cuts_69
        obtain ⟨J49, eJ49, h⟩ := jnA_s h
        have wJ49 : J49  = some (w_horn, w_brass) → ∀ (H : Heap) (locs : List Loc), va_P D vwCl (pcX7 o cI v_d v_kept v_images v_found v_aside v_base v_at v_size v_fault v_opened v_isCold v_names v_code v_coded v_pile 0 0 v_coldAhead v_which v_whichMany v_bestPass v_bestLive v_bestCode v_traced v_traceMany v_who v_bitsOf v_sizeOf v_number v_lifted) H → va_D A (pcX7 o cI v_d v_kept v_images v_found v_aside v_base v_at v_size v_fault v_opened v_isCold v_names v_code v_coded v_pile 0 0 v_coldAhead v_which v_whichMany v_bestPass v_bestLive v_bestCode v_traced v_traceMany v_who v_bitsOf v_sizeOf v_number v_lifted) → va_S A s.heap H locs → ∀ ls : Array Slot, lv_has ls 3 [(0, .ref (o 0)), (1, .int p0), (2, .int r_1)] → WV p l e 3 66 s m args below meth c D (tysX cI cS) A (pcX7 o cI v_d v_kept v_images v_found v_aside v_base v_at v_size v_fault v_opened v_isCold v_names v_code v_coded v_pile w_horn w_brass v_coldAhead v_which v_whichMany v_bestPass v_bestLive v_bestCode v_traced v_traceMany v_who v_bitsOf v_sizeOf v_number v_lifted) H locs (F0 m 49 ls [.int p0, .ref (o 0)]) := by
            intro h H locs hP hD hS ls hl
            subst eJ49
            refine lv_iconst (v := 1) hx hb dX7_cuts_49 (by decide) ?_
            refine lv_goto (tgt := 54) hx hb dX7_cuts_50 (by decide) ?_
            exact wJ54 1 h _ _ hP hD hS _ (lv_sub hl [0, 1, 2] rfl)
        refine x_icmp_eq (tgt := 49) hx hb h dX7_cuts_40 (by decide) (fun c40 h => ?_) (fun c40 h => ?_)
        · exact wJ49 h _ _ hP hD hS _ (lv_sub hl [1, 2, 0] rfl)
        · refine lv_iload_n hx hb dX7_cuts_43 rfl (lv_at hl 0 rfl) ?_
          refine lv_bipush (v := 6) hx hb dX7_cuts_44 (by decide) ?_
          refine x_icmp_ne (tgt := 53) hx hb h dX7_cuts_46 (by decide) (fun c46 h => ?_) (fun c46 h => ?_)
          · refine lv_iconst (v := 0) hx hb dX7_cuts_53 (by decide) ?_
            exact wJ54 0 h _ _ hP hD hS _ (lv_sub hl [1, 2, 0] rfl)
          · exact wJ49 h _ _ hP hD hS _ (lv_sub hl [1, 2, 0] rfl)
      · cases h
        exact x_vret hx hb hr hlocks hK hP hD hS rfl dX7_cuts_35

def f_X7_alive_L4 (v_d : Nat → Int32) : Nat → Int32 → Int32 → Option ((Int32))
  | 0, _, _ => none
  | k_n + 1, l1_1, l2_2 => rdA 248 v_d 0 (fun x_3 => (if x_3 ≤ l2_2 then some (l1_1) else bd1 (f_X7_isDead v_d l2_2) (fun r_4 => jnA (fun (t0_5 : Int32) => nmA (l1_1 + t0_5) (fun l1_6 => nmA (l2_2 + 1) (fun l2_7 => f_X7_alive_L4 v_d k_n l1_6 l2_7))) (fun J28 => (if r_4 = 0 then J28 1 else J28 0)))))
def f_X7_alive  (v_d : Nat → Int32)  : Option ((Int32)) :=
  f_X7_alive_L4 v_d 100 0 0
set_option maxHeartbeats 4000000 in
set_option maxRecDepth 100000 in
theorem c_X7_alive (l : Launch) (D : va_G) (cI cS : ClassId) (o : Nat → Nat) {v_d : Nat → Int32} {v_kept : Nat → Int32} {v_images : Int32} {v_found : Nat → Int32} {v_aside : Nat → Int32} {v_base : Int32} {v_at : Int32} {v_size : Int32} {v_fault : Int32} {v_opened : Int32} {v_isCold : Int32} {v_names : Nat → Int32} {v_code : Nat → Int32} {v_coded : Int32} {v_pile : Nat → Int32} {v_horn : Int32} {v_brass : Int32} {v_coldAhead : Nat → Int32} {v_which : Nat → Int32} {v_whichMany : Int32} {v_bestPass : Int32} {v_bestLive : Int32} {v_bestCode : Int32} {v_traced : Nat → Int32} {v_traceMany : Int32} {v_who : Int32} {v_bitsOf : Nat → Int32} {v_sizeOf : Nat → Int32} {v_number : Nat → Int32} {v_lifted : Nat → Int32}   {r_out : Int32} (h : f_X7_alive  v_d  = some (r_out)) : MetI l D (tysX cI cS) St0 yX7_alive cX7_alive 3 (some .int) 2 43 [.ref (o 0)] (pcX7 o cI v_d v_kept v_images v_found v_aside v_base v_at v_size v_fault v_opened v_isCold v_names v_code v_coded v_pile v_horn v_brass v_coldAhead v_which v_whichMany v_bestPass v_bestLive v_bestCode v_traced v_traceMany v_who v_bitsOf v_sizeOf v_number v_lifted) r_out (pcX7 o cI v_d v_kept v_images v_found v_aside v_base v_at v_size v_fault v_opened v_isCold v_names v_code v_coded v_pile v_horn v_brass v_coldAhead v_which v_whichMany v_bestPass v_bestLive v_bestCode v_traced v_traceMany v_who v_bitsOf v_sizeOf v_number v_lifted) := by
  refine Ent.metI (by decide +kernel) (Nat.le_of_ble_eq_true rfl) ?_
  intro p e s m args below meth c A ls hx hb hr hml hown hts hlocks hA hK hSt hP hD hS hl
  have hown : s.vm.findClass RX7 = some m.cls := hown
  have S : XFix p m c cX7_alive 3 s args RX7 := ⟨hx, hb, hml, hown, hts⟩
  have hl : lv_has ls 3 [(0, .ref (o 0))] := hl
  unfold f_X7_alive at h
  refine lv_iconst (v := 0) hx hb dX7_alive_0 (by decide) ?_
  refine lv_istore_n (lv' := [(1, .int 0), (0, .ref (o 0))]) hx hb dX7_alive_1 rfl hl (by decide) rfl (fun ls hl => ?_)
  refine lv_iconst (v := 0) hx hb dX7_alive_2 (by decide) ?_
  refine lv_istore_n (lv' := [(2, .int 0), (1, .int 0), (0, .ref (o 0))]) hx hb dX7_alive_3 rfl hl (by decide) rfl (fun ls hl => ?_)
  have wf_X7_alive_L4 : ∀ (k_n : Nat) (l1_1 : Int32) (l2_2 : Int32), f_X7_alive_L4 v_d k_n l1_1 l2_2 = some (r_out) → ∀ (H : Heap) (locs : List Loc), va_P D vwCl (pcX7 o cI v_d v_kept v_images v_found v_aside v_base v_at v_size v_fault v_opened v_isCold v_names v_code v_coded v_pile v_horn v_brass v_coldAhead v_which v_whichMany v_bestPass v_bestLive v_bestCode v_traced v_traceMany v_who v_bitsOf v_sizeOf v_number v_lifted) H → va_D A (pcX7 o cI v_d v_kept v_images v_found v_aside v_base v_at v_size v_fault v_opened v_isCold v_names v_code v_coded v_pile v_horn v_brass v_coldAhead v_which v_whichMany v_bestPass v_bestLive v_bestCode v_traced v_traceMany v_who v_bitsOf v_sizeOf v_number v_lifted) → va_S A s.heap H locs → ∀ ls : Array Slot, lv_has ls 3 [(0, .ref (o 0)), (1, .int l1_1), (2, .int l2_2)] → WI p l e 2 43 s m args below meth c D (tysX cI cS) A r_out (pcX7 o cI v_d v_kept v_images v_found v_aside v_base v_at v_size v_fault v_opened v_isCold v_names v_code v_coded v_pile v_horn v_brass v_coldAhead v_which v_whichMany v_bestPass v_bestLive v_bestCode v_traced v_traceMany v_who v_bitsOf v_sizeOf v_number v_lifted) H locs (F0 m 4 ls []) := by
      intro k_n
      induction k_n with
      | zero => intro l1_1 l2_2 h; rw [f_X7_alive_L4] at h; cases h
      | succ k_n ih =>
        intro l1_1 l2_2 h H locs hP hD hS ls hl
        rw [f_X7_alive_L4] at h
        refine lv_iload_n hx hb dX7_alive_4 rfl (lv_at hl 2 rfl) ?_
        refine lv_aload_n hx hb dX7_alive_5 rfl (lv_at hl 0 rfl) ?_
        refine gt_X7_7 S hK hP 0 rfl rfl dX7_alive_6 ?_
        refine lv_iconst (v := 0) hx hb dX7_alive_9 (by decide) ?_
        refine x_ald hx hb hK hP 1 h rfl rfl dX7_alive_10 (fun x_3 ex_3 h => ?_)
        refine x_icmp_ge (tgt := 36) hx hb h dX7_alive_11 (by decide) (fun c11 h => ?_) (fun c11 h => ?_)
        · refine lv_iload_n hx hb dX7_alive_36 rfl (lv_at hl 1 rfl) ?_
          cases h
          exact x_iret hx hb hr hlocks hK hP hD hS rfl rfl dX7_alive_37
        · refine lv_iload_n hx hb dX7_alive_14 rfl (lv_at hl 1 rfl) ?_
          refine lv_aload_n hx hb dX7_alive_15 rfl (lv_at hl 0 rfl) ?_
          refine lv_iload_n hx hb dX7_alive_16 rfl (lv_at hl 2 rfl) ?_
          obtain ⟨r_4, hc17, h⟩ := bd1_s h
          refine x_selfVi (As := [.int l2_2]) (rest := [.int l1_1]) St0_ok S (c_X7_isDead l D cI cS o hc17) yf_X7_isDead wd10_15 ⟨Nat.le_of_ble_eq_true rfl, Nat.le_of_ble_eq_true rfl⟩ hK hSt hA hP hD hS 0 rfl rfl rfl hl.1 rfl (Nat.le_of_ble_eq_true rfl) dX7_alive_17 (Nat.zero_le _) (Nat.zero_le _) (fun H locs hP hD hS => ?_)
          obtain ⟨J28, eJ28, h⟩ := jnA_s h
          have wJ28 : ∀ (t0_5 : Int32), J28 t0_5 = some (r_out) → ∀ (H : Heap) (locs : List Loc), va_P D vwCl (pcX7 o cI v_d v_kept v_images v_found v_aside v_base v_at v_size v_fault v_opened v_isCold v_names v_code v_coded v_pile v_horn v_brass v_coldAhead v_which v_whichMany v_bestPass v_bestLive v_bestCode v_traced v_traceMany v_who v_bitsOf v_sizeOf v_number v_lifted) H → va_D A (pcX7 o cI v_d v_kept v_images v_found v_aside v_base v_at v_size v_fault v_opened v_isCold v_names v_code v_coded v_pile v_horn v_brass v_coldAhead v_which v_whichMany v_bestPass v_bestLive v_bestCode v_traced v_traceMany v_who v_bitsOf v_sizeOf v_number v_lifted) → va_S A s.heap H locs → ∀ ls : Array Slot, lv_has ls 3 [(0, .ref (o 0)), (2, .int l2_2)] → WI p l e 2 43 s m args below meth c D (tysX cI cS) A r_out (pcX7 o cI v_d v_kept v_images v_found v_aside v_base v_at v_size v_fault v_opened v_isCold v_names v_code v_coded v_pile v_horn v_brass v_coldAhead v_which v_whichMany v_bestPass v_bestLive v_bestCode v_traced v_traceMany v_who v_bitsOf v_sizeOf v_number v_lifted) H locs (F0 m 28 ls [.int t0_5, .int l1_1]) := by
              intro t0_5 h H locs hP hD hS ls hl
              subst eJ28
              dsimp only at h
              refine lv_iadd hx hb dX7_alive_28 ?_
              refine x_nm h (fun l1_6 el1_6 h => ?_)
              refine lv_istore_n (lv' := [(1, .int l1_6), (0, .ref (o 0)), (2, .int l2_2)]) hx hb dX7_alive_29 rfl hl (by decide) rfl (fun ls hl => ?_)
              obtain ⟨l2_7, el2_7, h⟩ := nmA_s h
              refine lv_iinc (v := l2_7) (lv' := [(2, .int l2_7), (1, .int l1_6), (0, .ref (o 0))]) hx hb dX7_alive_30 hl (k := 2) rfl (by rw [el2_7]; exact congrArg _ (by decide)) (by decide) rfl (fun ls hl => ?_)
              refine lv_goto (tgt := 4) hx hb dX7_alive_33 (by decide) ?_
              exact ih l1_6 l2_7 h _ _ hP hD hS _ (lv_sub hl [2, 1, 0] rfl)
          refine x_if_eq (tgt := 27) hx hb h dX7_alive_20 (by decide) (fun c20 h => ?_) (fun c20 h => ?_)
          · refine lv_iconst (v := 1) hx hb dX7_alive_27 (by decide) ?_
            exact wJ28 1 h _ _ hP hD hS _ (lv_sub hl [0, 2] rfl)
          · refine lv_iconst (v := 0) hx hb dX7_alive_23 (by decide) ?_
            refine lv_goto (tgt := 28) hx hb dX7_alive_24 (by decide) ?_
            exact wJ28 0 h _ _ hP hD hS _ (lv_sub hl [0, 2] rfl)
  exact wf_X7_alive_L4 100 0 0 h _ _ hP hD hS _ (lv_sub hl [2, 1, 0] rfl)
