def f_J6_bitCount_0f7a4   (p0 : Int32) : Option ((Int32)) :=
  nmA (p0 - ((ushI p0 1) &&& 1431655765)) (fun l0_1 => nmA ((l0_1 &&& 858993459) + ((ushI l0_1 2) &&& 858993459)) (fun l0_2 => nmA ((l0_2 + (ushI l0_2 4)) &&& 252645135) (fun l0_3 => nmA (l0_3 + (ushI l0_3 8)) (fun l0_4 => nmA (l0_4 + (ushI l0_4 16)) (fun l0_5 => some ((l0_5 &&& 63)))))))
set_option maxHeartbeats 600000 in
set_option maxRecDepth 100000 in
theorem c_J6_bitCount_0f7a4 (l : Launch) (D : va_G) (cI cS : ClassId) (T : Nat → Nat) (o : Nat → Nat)  {p0 : Int32}  {r_out : Int32} (h : f_J6_bitCount_0f7a4   p0 = some (r_out)) : MetI l D (tysX cI cS) (Sta T) yJ6_bitCount_0f7a4 cJ6_bitCount_0f7a4 1 (some .int) 0 0 [.int p0] [] r_out [] := by
  refine Ent.metI (by decide +kernel) (Nat.le_of_ble_eq_true rfl) ?_
  intro p e s m args below meth c A ls hx hb hr hml hown hts hlocks hA hK hSt hP hD hS hl
  have hown : s.vm.findClass RJ6 = some m.cls := hown
  have S : XFix p m c cJ6_bitCount_0f7a4 1 s args RJ6 := ⟨hx, hb, hml, hown, hts⟩
  have hl : lv_has ls 1 [(0, .int p0)] := hl
  unfold f_J6_bitCount_0f7a4 at h
  refine lv_iload_n hx hb dJ6_bitCount_0f7a4_0 rfl (lv_at hl 0 rfl) ?_
  refine lv_iload_n hx hb dJ6_bitCount_0f7a4_1 rfl (lv_at hl 0 rfl) ?_
  refine lv_iconst (v := 1) hx hb dJ6_bitCount_0f7a4_2 (by decide) ?_
  refine lv_iushr (v := (ushI p0 1)) hx hb dJ6_bitCount_0f7a4_3 rfl ?_
  refine lv_ldcw (v := 1431655765) hx hb hown (hts _ wd8_19) dJ6_bitCount_0f7a4_4 ?_
  refine lv_iand hx hb dJ6_bitCount_0f7a4_7 ?_
  refine lv_isub hx hb dJ6_bitCount_0f7a4_8 ?_
  refine x_nm h (fun l0_1 el0_1 h => ?_)
  refine lv_istore_n (lv' := [(0, .int l0_1)]) hx hb dJ6_bitCount_0f7a4_9 rfl hl (by decide) rfl (fun ls hl => ?_)
  refine lv_iload_n hx hb dJ6_bitCount_0f7a4_10 rfl (lv_at hl 0 rfl) ?_
  refine lv_ldcw (v := 858993459) hx hb hown (hts _ wd8_20) dJ6_bitCount_0f7a4_11 ?_
  refine lv_iand hx hb dJ6_bitCount_0f7a4_14 ?_
  refine lv_iload_n hx hb dJ6_bitCount_0f7a4_15 rfl (lv_at hl 0 rfl) ?_
  refine lv_iconst (v := 2) hx hb dJ6_bitCount_0f7a4_16 (by decide) ?_
  refine lv_iushr (v := (ushI l0_1 2)) hx hb dJ6_bitCount_0f7a4_17 rfl ?_
  refine lv_ldcw (v := 858993459) hx hb hown (hts _ wd8_20) dJ6_bitCount_0f7a4_18 ?_
  refine lv_iand hx hb dJ6_bitCount_0f7a4_21 ?_
  refine lv_iadd hx hb dJ6_bitCount_0f7a4_22 ?_
  refine x_nm h (fun l0_2 el0_2 h => ?_)
  refine lv_istore_n (lv' := [(0, .int l0_2)]) hx hb dJ6_bitCount_0f7a4_23 rfl hl (by decide) rfl (fun ls hl => ?_)
  refine lv_iload_n hx hb dJ6_bitCount_0f7a4_24 rfl (lv_at hl 0 rfl) ?_
  refine lv_iload_n hx hb dJ6_bitCount_0f7a4_25 rfl (lv_at hl 0 rfl) ?_
  refine lv_iconst (v := 4) hx hb dJ6_bitCount_0f7a4_26 (by decide) ?_
  refine lv_iushr (v := (ushI l0_2 4)) hx hb dJ6_bitCount_0f7a4_27 rfl ?_
  refine lv_iadd hx hb dJ6_bitCount_0f7a4_28 ?_
  refine lv_ldcw (v := 252645135) hx hb hown (hts _ wd8_21) dJ6_bitCount_0f7a4_29 ?_
  refine lv_iand hx hb dJ6_bitCount_0f7a4_32 ?_
  refine x_nm h (fun l0_3 el0_3 h => ?_)
  refine lv_istore_n (lv' := [(0, .int l0_3)]) hx hb dJ6_bitCount_0f7a4_33 rfl hl (by decide) rfl (fun ls hl => ?_)
  refine lv_iload_n hx hb dJ6_bitCount_0f7a4_34 rfl (lv_at hl 0 rfl) ?_
  refine lv_iload_n hx hb dJ6_bitCount_0f7a4_35 rfl (lv_at hl 0 rfl) ?_
  refine lv_bipush (v := 8) hx hb dJ6_bitCount_0f7a4_36 (by decide) ?_
  refine lv_iushr (v := (ushI l0_3 8)) hx hb dJ6_bitCount_0f7a4_38 rfl ?_
  refine lv_iadd hx hb dJ6_bitCount_0f7a4_39 ?_
  refine x_nm h (fun l0_4 el0_4 h => ?_)
  refine lv_istore_n (lv' := [(0, .int l0_4)]) hx hb dJ6_bitCount_0f7a4_40 rfl hl (by decide) rfl (fun ls hl => ?_)
  refine lv_iload_n hx hb dJ6_bitCount_0f7a4_41 rfl (lv_at hl 0 rfl) ?_
  refine lv_iload_n hx hb dJ6_bitCount_0f7a4_42 rfl (lv_at hl 0 rfl) ?_
  refine lv_bipush (v := 16) hx hb dJ6_bitCount_0f7a4_43 (by decide) ?_
  refine lv_iushr (v := (ushI l0_4 16)) hx hb dJ6_bitCount_0f7a4_45 rfl ?_
  refine lv_iadd hx hb dJ6_bitCount_0f7a4_46 ?_
  refine x_nm h (fun l0_5 el0_5 h => ?_)
  refine lv_istore_n (lv' := [(0, .int l0_5)]) hx hb dJ6_bitCount_0f7a4_47 rfl hl (by decide) rfl (fun ls hl => ?_)
  refine lv_iload_n hx hb dJ6_bitCount_0f7a4_48 rfl (lv_at hl 0 rfl) ?_
  refine lv_bipush (v := 63) hx hb dJ6_bitCount_0f7a4_49 (by decide) ?_
  refine lv_iand hx hb dJ6_bitCount_0f7a4_51 ?_
  cases h
  exact x_iret hx hb hr hlocks hK hP hD hS rfl rfl dJ6_bitCount_0f7a4_52

def f_X6_isIn   (p0 : Int32) (p1 : Int32) : Option ((Int32)) :=
  (if ((p0 >>> (p1 &&& 31)) &&& 1) = 0 then some (0) else some (1))
set_option maxHeartbeats 600000 in
set_option maxRecDepth 100000 in
theorem c_X6_isIn (l : Launch) (D : va_G) (cI cS : ClassId) (T : Nat → Nat) (o : Nat → Nat)  {p0 : Int32} {p1 : Int32}  {r_out : Int32} (h : f_X6_isIn   p0 p1 = some (r_out)) : MetI l D (tysX cI cS) (Sta T) yX6_isIn cX6_isIn 2 (some .boolean) 0 0 [.int p0, .int p1] [] r_out [] := by
  refine Ent.metI (by decide +kernel) (Nat.le_of_ble_eq_true rfl) ?_
  intro p e s m args below meth c A ls hx hb hr hml hown hts hlocks hA hK hSt hP hD hS hl
  have hown : s.vm.findClass RX6 = some m.cls := hown
  have S : XFix p m c cX6_isIn 2 s args RX6 := ⟨hx, hb, hml, hown, hts⟩
  have hl : lv_has ls 2 [(0, .int p0), (1, .int p1)] := hl
  unfold f_X6_isIn at h
  refine lv_iload_n hx hb dX6_isIn_0 rfl (lv_at hl 0 rfl) ?_
  refine lv_iload_n hx hb dX6_isIn_1 rfl (lv_at hl 1 rfl) ?_
  refine lv_ishr hx hb dX6_isIn_2 ?_
  refine lv_iconst (v := 1) hx hb dX6_isIn_3 (by decide) ?_
  refine lv_iand hx hb dX6_isIn_4 ?_
  refine x_if_eq (tgt := 12) hx hb h dX6_isIn_5 (by decide) (fun c5 h => ?_) (fun c5 h => ?_)
  · refine lv_iconst (v := 0) hx hb dX6_isIn_12 (by decide) ?_
    cases h
    exact x_zret hx hb hr hlocks hK hP hD hS rfl rfl (Or.inl rfl) dX6_isIn_13
  · refine lv_iconst (v := 1) hx hb dX6_isIn_8 (by decide) ?_
    refine lv_goto (tgt := 13) hx hb dX6_isIn_9 (by decide) ?_
    cases h
    exact x_zret hx hb hr hlocks hK hP hD hS rfl rfl (Or.inr rfl) dX6_isIn_13

def f_X6_isUnder_L4 (p1 : Int32) : Nat → Int32 → Int32 → Option ((Int32))
  | 0, _, _ => none
  | k_n + 1, l2_1, l3_2 => (if 7 ≤ l3_2 then some (0) else (if l2_1 < 0 then some (0) else (if l2_1 = p1 then some (1) else rdA 7 s_ABOVE l2_1 (fun x_3 => nmA (l3_2 + 1) (fun l3_4 => f_X6_isUnder_L4 p1 k_n x_3 l3_4)))))
def f_X6_isUnder   (p0 : Int32) (p1 : Int32) : Option ((Int32)) :=
  f_X6_isUnder_L4 p1 300 p0 0
set_option maxHeartbeats 600000 in
set_option maxRecDepth 100000 in
theorem c_X6_isUnder (l : Launch) (D : va_G) (cI cS : ClassId) (T : Nat → Nat) (o : Nat → Nat)  {p0 : Int32} {p1 : Int32}  {r_out : Int32} (h : f_X6_isUnder   p0 p1 = some (r_out)) : MetI l D (tysX cI cS) (Sta T) yX6_isUnder cX6_isUnder 4 (some .boolean) 0 0 [.int p0, .int p1] [] r_out [] := by
  refine Ent.metI (by decide +kernel) (Nat.le_of_ble_eq_true rfl) ?_
  intro p e s m args below meth c A ls hx hb hr hml hown hts hlocks hA hK hSt hP hD hS hl
  have hown : s.vm.findClass RX6 = some m.cls := hown
  have S : XFix p m c cX6_isUnder 4 s args RX6 := ⟨hx, hb, hml, hown, hts⟩
  have hl : lv_has ls 4 [(0, .int p0), (1, .int p1)] := hl
  unfold f_X6_isUnder at h
  obtain ⟨⟨n1, n2, n3, n4, n5, n6⟩, ⟨zZ0, zT0⟩, ⟨zZ1, zT1⟩, ⟨zZ2, zT2⟩, ⟨zZ3, zT3⟩⟩ := id hSt
  refine lv_iload_n hx hb dX6_isUnder_0 rfl (lv_at hl 0 rfl) ?_
  refine lv_istore_n (lv' := [(2, .int p0), (0, .int p0), (1, .int p1)]) hx hb dX6_isUnder_1 rfl hl (by decide) rfl (fun ls hl => ?_)
  refine lv_iconst (v := 0) hx hb dX6_isUnder_2 (by decide) ?_
  refine lv_istore_n (lv' := [(3, .int 0), (2, .int p0), (0, .int p0), (1, .int p1)]) hx hb dX6_isUnder_3 rfl hl (by decide) rfl (fun ls hl => ?_)
  have wf_X6_isUnder_L4 : ∀ (k_n : Nat) (l2_1 : Int32) (l3_2 : Int32), f_X6_isUnder_L4 p1 k_n l2_1 l3_2 = some (r_out) → ∀ (H : Heap) (locs : List Loc), va_P D vwCl [] H → va_D A [] → va_S A s.heap H locs → ∀ ls : Array Slot, lv_has ls 4 [(1, .int p1), (2, .int l2_1), (3, .int l3_2)] → WI p l e 0 0 s m args below meth c D (tysX cI cS) A r_out [] H locs (F0 m 4 ls []) := by
      intro k_n
      induction k_n with
      | zero => intro l2_1 l3_2 h; rw [f_X6_isUnder_L4] at h; cases h
      | succ k_n ih =>
        intro l2_1 l3_2 h H locs hP hD hS ls hl
        rw [f_X6_isUnder_L4] at h
        refine lv_iload_n hx hb dX6_isUnder_4 rfl (lv_at hl 2 rfl) ?_
        refine lv_bipush (v := 7) hx hb dX6_isUnder_5 (by decide) ?_
        refine x_icmp_ge (tgt := 33) hx hb h dX6_isUnder_7 (by decide) (fun c7 h => ?_) (fun c7 h => ?_)
        · refine lv_iconst (v := 0) hx hb dX6_isUnder_33 (by decide) ?_
          cases h
          exact x_zret hx hb hr hlocks hK hP hD hS rfl rfl (Or.inl rfl) dX6_isUnder_34
        · refine lv_iload_n hx hb dX6_isUnder_10 rfl (lv_at hl 1 rfl) ?_
          refine x_if_lt (tgt := 33) hx hb h dX6_isUnder_11 (by decide) (fun c11 h => ?_) (fun c11 h => ?_)
          · refine lv_iconst (v := 0) hx hb dX6_isUnder_33 (by decide) ?_
            cases h
            exact x_zret hx hb hr hlocks hK hP hD hS rfl rfl (Or.inl rfl) dX6_isUnder_34
          · refine lv_iload_n hx hb dX6_isUnder_14 rfl (lv_at hl 1 rfl) ?_
            refine lv_iload_n hx hb dX6_isUnder_15 rfl (lv_at hl 0 rfl) ?_
            refine x_icmp_ne (tgt := 21) hx hb h dX6_isUnder_16 (by decide) (fun c16 h => ?_) (fun c16 h => ?_)
            · refine va_gets hx hb zZ0 hS hown (hts _ wd13_18) (fun _ h => h) dX6_isUnder_21 ?_
              refine lv_iload_n hx hb dX6_isUnder_24 rfl (lv_at hl 1 rfl) ?_
              refine x_sti hx hb zT0 hS h dX6_isUnder_25 (fun x_3 ex_3 h => ?_)
              refine lv_istore_n (lv' := [(2, .int x_3), (1, .int p1), (3, .int l3_2)]) hx hb dX6_isUnder_26 rfl hl (by decide) rfl (fun ls hl => ?_)
              obtain ⟨l3_4, el3_4, h⟩ := nmA_s h
              refine lv_iinc (v := l3_4) (lv' := [(3, .int l3_4), (2, .int x_3), (1, .int p1)]) hx hb dX6_isUnder_27 hl (k := 2) rfl (by rw [el3_4]; exact congrArg _ (by decide)) (by decide) rfl (fun ls hl => ?_)
              refine lv_goto (tgt := 4) hx hb dX6_isUnder_30 (by decide) ?_
              exact ih x_3 l3_4 h _ _ hP hD hS _ (lv_sub hl [2, 1, 0] rfl)
            · refine lv_iconst (v := 1) hx hb dX6_isUnder_19 (by decide) ?_
              cases h
              exact x_zret hx hb hr hlocks hK hP hD hS rfl rfl (Or.inr rfl) dX6_isUnder_20
  exact wf_X6_isUnder_L4 300 p0 0 h _ _ hP hD hS _ (lv_sub hl [3, 1, 0] rfl)

def f_X2_lay_L20 (p0 : Int32) (v_size_1 : Int32) : Nat → (Nat → Int32) → Int32 → Option ((Int32) × (Int32) × (Nat → Int32))
  | 0, _, _ => none
  | k_n + 1, v_numbers_2, l3_3 => (if 40 ≤ l3_3 then some (p0, v_size_1, v_numbers_2) else wrA 40 v_numbers_2 l3_3 0 (fun v_numbers_4 => nmA (l3_3 + 1) (fun l3_5 => f_X2_lay_L20 p0 v_size_1 k_n v_numbers_4 l3_5)))
def f_X2_lay  (v_bits : Int32) (v_size : Int32) (v_numbers : Nat → Int32) (p0 : Int32) (p1 : Int32) : Option ((Int32) × (Int32) × (Nat → Int32)) :=
  nmA (minI p1 40) (fun v_size_1 => f_X2_lay_L20 p0 v_size_1 300 v_numbers 0)
set_option maxHeartbeats 600000 in
set_option maxRecDepth 100000 in
theorem c_X2_lay (l : Launch) (D : va_G) (cI cS : ClassId) (T : Nat → Nat) (o : Nat → Nat) {v_bits : Int32} {v_size : Int32} {v_numbers : Nat → Int32} {p0 : Int32} {p1 : Int32} {w_bits : Int32} {w_size : Int32} {w_numbers : Nat → Int32} (h : f_X2_lay  v_bits v_size v_numbers p0 p1 = some (w_bits, w_size, w_numbers)) : MetV l D (tysX cI cS) (Sta T) yX2_lay cX2_lay 4 none 1 24 [.ref (o 0), .int p0, .int p1] (pcX2 o cI v_bits v_size v_numbers) (pcX2 o cI w_bits w_size w_numbers) := by
  refine Ent.metV (by decide +kernel) (Nat.le_of_ble_eq_true rfl) ?_
  intro p e s m args below meth c A ls hx hb hr hml hown hts hlocks hA hK hSt hP hD hS hl
  have hown : s.vm.findClass RX2 = some m.cls := hown
  have S : XFix p m c cX2_lay 4 s args RX2 := ⟨hx, hb, hml, hown, hts⟩
  have hl : lv_has ls 4 [(0, .ref (o 0)), (1, .int p0), (2, .int p1)] := hl
  unfold f_X2_lay at h
  refine lv_aload_n hx hb dX2_lay_0 rfl (lv_at hl 0 rfl) ?_
  refine lv_iload_n hx hb dX2_lay_1 rfl (lv_at hl 1 rfl) ?_
  refine pt_X2_15 S hK hP hD hS 0 rfl (Nat.le_of_ble_eq_true rfl) dX2_lay_2 (fun H locs hP hD hS => ?_)
  have hP : va_P D vwCl (pcX2 o cI p0 v_size v_numbers) H := hP
  have hD : va_D A (pcX2 o cI p0 v_size v_numbers) := hD
  refine lv_aload_n hx hb dX2_lay_5 rfl (lv_at hl 0 rfl) ?_
  refine lv_iload_n hx hb dX2_lay_6 rfl (lv_at hl 2 rfl) ?_
  refine lv_aload_n hx hb dX2_lay_7 rfl (lv_at hl 0 rfl) ?_
  refine gt_X2_9 S hK hP 0 rfl rfl dX2_lay_8 ?_
  refine va_alen (v := 40) hx hb hK hP 1 0 rfl rfl (show Int32.ofNat 40 = 40 by decide) dX2_lay_11 ?_
  refine va_mmin hx hb (hml.trans hl.1.symm) hown (hts _ wd37_0) (hts _ wd7_13) (hts _ wd7_14) (hts _ wd7_15) (Nat.le_of_ble_eq_true rfl) (Nat.le_of_ble_eq_true rfl) (Nat.zero_le _) (Nat.zero_le _) dX2_lay_12 ?_
  refine x_topE (y := (minI p1 40)) rfl ?_
  refine x_nm h (fun v_size_1 ev_size_1 h => ?_)
  refine pt_X2_25 S hK hP hD hS 0 rfl (Nat.le_of_ble_eq_true rfl) dX2_lay_15 (fun H locs hP hD hS => ?_)
  have hP : va_P D vwCl (pcX2 o cI p0 v_size_1 v_numbers) H := hP
  have hD : va_D A (pcX2 o cI p0 v_size_1 v_numbers) := hD
  refine lv_iconst (v := 0) hx hb dX2_lay_18 (by decide) ?_
  refine lv_istore_n (lv' := [(3, .int 0), (0, .ref (o 0)), (1, .int p0), (2, .int p1)]) hx hb dX2_lay_19 rfl hl (by decide) rfl (fun ls hl => ?_)
  have wf_X2_lay_L20 : ∀ (k_n : Nat) (v_numbers_2 : Nat → Int32) (l3_3 : Int32), f_X2_lay_L20 p0 v_size_1 k_n v_numbers_2 l3_3 = some (w_bits, w_size, w_numbers) → ∀ (H : Heap) (locs : List Loc), va_P D vwCl (pcX2 o cI p0 v_size_1 v_numbers_2) H → va_D A (pcX2 o cI p0 v_size_1 v_numbers_2) → va_S A s.heap H locs → ∀ ls : Array Slot, lv_has ls 4 [(0, .ref (o 0)), (3, .int l3_3)] → WV p l e 1 24 s m args below meth c D (tysX cI cS) A (pcX2 o cI w_bits w_size w_numbers) H locs (F0 m 20 ls []) := by
      intro k_n
      induction k_n with
      | zero => intro v_numbers_2 l3_3 h; rw [f_X2_lay_L20] at h; cases h
      | succ k_n ih =>
        intro v_numbers_2 l3_3 h H locs hP hD hS ls hl
        rw [f_X2_lay_L20] at h
        refine lv_iload_n hx hb dX2_lay_20 rfl (lv_at hl 1 rfl) ?_
        refine lv_aload_n hx hb dX2_lay_21 rfl (lv_at hl 0 rfl) ?_
        refine gt_X2_9 S hK hP 0 rfl rfl dX2_lay_22 ?_
        refine va_alen (v := 40) hx hb hK hP 1 0 rfl rfl (show Int32.ofNat 40 = 40 by decide) dX2_lay_25 ?_
        refine x_icmp_ge (tgt := 42) hx hb h dX2_lay_26 (by decide) (fun c26 h => ?_) (fun c26 h => ?_)
        · cases h
          exact x_vret hx hb hr hlocks hK hP hD hS rfl dX2_lay_42
        · refine lv_aload_n hx hb dX2_lay_29 rfl (lv_at hl 0 rfl) ?_
          refine gt_X2_9 S hK hP 0 rfl rfl dX2_lay_30 ?_
          refine lv_iload_n hx hb dX2_lay_33 rfl (lv_at hl 1 rfl) ?_
          refine lv_iconst (v := 0) hx hb dX2_lay_34 (by decide) ?_
          refine x_ast hx hb hK hP hD hS 1 h rfl rfl dX2_lay_35 (fun v_numbers_4 ev_numbers_4 h H locs hP hD hS => ?_)
          have hP : va_P D vwCl (pcX2 o cI p0 v_size_1 v_numbers_4) H := hP
          have hD : va_D A (pcX2 o cI p0 v_size_1 v_numbers_4) := hD
          obtain ⟨l3_5, el3_5, h⟩ := nmA_s h
          refine lv_iinc (v := l3_5) (lv' := [(3, .int l3_5), (0, .ref (o 0))]) hx hb dX2_lay_36 hl (k := 1) rfl (by rw [el3_5]; exact congrArg _ (by decide)) (by decide) rfl (fun ls hl => ?_)
          refine lv_goto (tgt := 20) hx hb dX2_lay_39 (by decide) ?_
          exact ih v_numbers_4 l3_5 h _ _ hP hD hS _ (lv_sub hl [1, 0] rfl)
  exact wf_X2_lay_L20 300 v_numbers 0 h _ _ hP hD hS _ (lv_sub hl [1, 0] rfl)

def f_X2_write  (v_bits : Int32) (v_size : Int32) (v_numbers : Nat → Int32) (p0 : Int32) (p1 : Int32) : Option ((Nat → Int32)) :=
  (if p0 < 0 then some (v_numbers) else (if v_size ≤ p0 then some (v_numbers) else jnA (fun (t0_1 : Int32) => wrA 40 v_numbers p0 t0_1 (fun v_numbers_2 => some (v_numbers_2))) (fun J51 => (if v_bits = 8 then J51 (p1 &&& 255) else (if v_bits = 16 then J51 (p1 &&& 65535) else J51 p1)))))
set_option maxHeartbeats 600000 in
set_option maxRecDepth 100000 in
theorem c_X2_write (l : Launch) (D : va_G) (cI cS : ClassId) (T : Nat → Nat) (o : Nat → Nat) {v_bits : Int32} {v_size : Int32} {v_numbers : Nat → Int32} {p0 : Int32} {p1 : Int32} {w_numbers : Nat → Int32} (h : f_X2_write  v_bits v_size v_numbers p0 p1 = some (w_numbers)) : MetV l D (tysX cI cS) (Sta T) yX2_write cX2_write 3 none 0 0 [.ref (o 0), .int p0, .int p1] (pcX2 o cI v_bits v_size v_numbers) (pcX2 o cI v_bits v_size w_numbers) := by
  refine Ent.metV (by decide +kernel) (Nat.le_of_ble_eq_true rfl) ?_
  intro p e s m args below meth c A ls hx hb hr hml hown hts hlocks hA hK hSt hP hD hS hl
  have hown : s.vm.findClass RX2 = some m.cls := hown
  have S : XFix p m c cX2_write 3 s args RX2 := ⟨hx, hb, hml, hown, hts⟩
  have hl : lv_has ls 3 [(0, .ref (o 0)), (1, .int p0), (2, .int p1)] := hl
  unfold f_X2_write at h
  refine lv_iload_n hx hb dX2_write_0 rfl (lv_at hl 1 rfl) ?_
  refine x_if_lt (tgt := 52) hx hb h dX2_write_1 (by decide) (fun c1 h => ?_) (fun c1 h => ?_)
  · cases h
    exact x_vret hx hb hr hlocks hK hP hD hS rfl dX2_write_52
  · refine lv_iload_n hx hb dX2_write_4 rfl (lv_at hl 1 rfl) ?_
    refine lv_aload_n hx hb dX2_write_5 rfl (lv_at hl 0 rfl) ?_
    refine gt_X2_25 S hK hP 0 rfl rfl dX2_write_6 ?_
    refine x_icmp_ge (tgt := 52) hx hb h dX2_write_9 (by decide) (fun c9 h => ?_) (fun c9 h => ?_)
    · cases h
      exact x_vret hx hb hr hlocks hK hP hD hS rfl dX2_write_52
    · refine lv_aload_n hx hb dX2_write_12 rfl (lv_at hl 0 rfl) ?_
      refine gt_X2_9 S hK hP 0 rfl rfl dX2_write_13 ?_
      refine lv_iload_n hx hb dX2_write_16 rfl (lv_at hl 1 rfl) ?_
      refine lv_aload_n hx hb dX2_write_17 rfl (lv_at hl 0 rfl) ?_
      refine gt_X2_15 S hK hP 0 rfl rfl dX2_write_18 ?_
      refine lv_bipush (v := 8) hx hb dX2_write_21 (by decide) ?_
      obtain ⟨J51, eJ51, h⟩ := jnA_s h
      have wJ51 : ∀ (t0_1 : Int32), J51 t0_1 = some (w_numbers) → ∀ (H : Heap) (locs : List Loc), va_P D vwCl (pcX2 o cI v_bits v_size v_numbers) H → va_D A (pcX2 o cI v_bits v_size v_numbers) → va_S A s.heap H locs → ∀ ls : Array Slot, lv_has ls 3 [] → WV p l e 0 0 s m args below meth c D (tysX cI cS) A (pcX2 o cI v_bits v_size w_numbers) H locs (F0 m 51 ls [.int t0_1, .int p0, .ref (o 1)]) := by
          intro t0_1 h H locs hP hD hS ls hl
          subst eJ51
          dsimp only at h
          refine x_ast hx hb hK hP hD hS 1 h rfl rfl dX2_write_51 (fun v_numbers_2 ev_numbers_2 h H locs hP hD hS => ?_)
          have hP : va_P D vwCl (pcX2 o cI v_bits v_size v_numbers_2) H := hP
          have hD : va_D A (pcX2 o cI v_bits v_size v_numbers_2) := hD
          cases h
          exact x_vret hx hb hr hlocks hK hP hD hS rfl dX2_write_52
      refine x_icmp_ne (tgt := 34) hx hb h dX2_write_23 (by decide) (fun c23 h => ?_) (fun c23 h => ?_)
      · refine lv_aload_n hx hb dX2_write_34 rfl (lv_at hl 0 rfl) ?_
        refine gt_X2_15 S hK hP 0 rfl rfl dX2_write_35 ?_
        refine lv_bipush (v := 16) hx hb dX2_write_38 (by decide) ?_
        refine x_icmp_ne (tgt := 50) hx hb h dX2_write_40 (by decide) (fun c40 h => ?_) (fun c40 h => ?_)
        · refine lv_iload_n hx hb dX2_write_50 rfl (lv_at hl 2 rfl) ?_
          exact wJ51 p1 h _ _ hP hD hS _ (lv_sub hl [] rfl)
        · refine lv_iload_n hx hb dX2_write_43 rfl (lv_at hl 2 rfl) ?_
          refine lv_ldc (v := 65535) hx hb hown (hts _ wd37_14) dX2_write_44 ?_
          refine lv_iand hx hb dX2_write_46 ?_
          refine lv_goto (tgt := 51) hx hb dX2_write_47 (by decide) ?_
          exact wJ51 (p1 &&& 65535) h _ _ hP hD hS _ (lv_sub hl [] rfl)
      · refine lv_iload_n hx hb dX2_write_26 rfl (lv_at hl 2 rfl) ?_
        refine lv_sipush (v := 255) hx hb dX2_write_27 (by decide) ?_
        refine lv_iand hx hb dX2_write_30 ?_
        refine lv_goto (tgt := 51) hx hb dX2_write_31 (by decide) ?_
        exact wJ51 (p1 &&& 255) h _ _ hP hD hS _ (lv_sub hl [] rfl)

def f_X2_holds  (v_size : Int32) (p0 : Int32) (p1 : Int32) : Option ((Int32)) :=
  (if p1 < 0 then some (0) else (if v_size < p1 then some (0) else (if p0 < 0 then some (0) else (if (v_size - p1) < p0 then some (0) else some (1)))))
set_option maxHeartbeats 600000 in
set_option maxRecDepth 100000 in
theorem c_X2_holds (l : Launch) (D : va_G) (cI cS : ClassId) (T : Nat → Nat) (o : Nat → Nat) {v_bits : Int32} {v_size : Int32} {v_numbers : Nat → Int32} {p0 : Int32} {p1 : Int32}  {r_out : Int32} (h : f_X2_holds  v_size p0 p1 = some (r_out)) : MetI l D (tysX cI cS) (Sta T) yX2_holds cX2_holds 3 (some .boolean) 0 0 [.ref (o 0), .int p0, .int p1] (pcX2 o cI v_bits v_size v_numbers) r_out (pcX2 o cI v_bits v_size v_numbers) := by
  refine Ent.metI (by decide +kernel) (Nat.le_of_ble_eq_true rfl) ?_
  intro p e s m args below meth c A ls hx hb hr hml hown hts hlocks hA hK hSt hP hD hS hl
  have hown : s.vm.findClass RX2 = some m.cls := hown
  have S : XFix p m c cX2_holds 3 s args RX2 := ⟨hx, hb, hml, hown, hts⟩
  have hl : lv_has ls 3 [(0, .ref (o 0)), (1, .int p0), (2, .int p1)] := hl
  unfold f_X2_holds at h
  refine lv_iload_n hx hb dX2_holds_0 rfl (lv_at hl 2 rfl) ?_
  refine x_if_lt (tgt := 30) hx hb h dX2_holds_1 (by decide) (fun c1 h => ?_) (fun c1 h => ?_)
  · refine lv_iconst (v := 0) hx hb dX2_holds_30 (by decide) ?_
    cases h
    exact x_zret hx hb hr hlocks hK hP hD hS rfl rfl (Or.inl rfl) dX2_holds_31
  · refine lv_iload_n hx hb dX2_holds_4 rfl (lv_at hl 2 rfl) ?_
    refine lv_aload_n hx hb dX2_holds_5 rfl (lv_at hl 0 rfl) ?_
    refine gt_X2_25 S hK hP 0 rfl rfl dX2_holds_6 ?_
    refine x_icmp_gt (tgt := 30) hx hb h dX2_holds_9 (by decide) (fun c9 h => ?_) (fun c9 h => ?_)
    · refine lv_iconst (v := 0) hx hb dX2_holds_30 (by decide) ?_
      cases h
      exact x_zret hx hb hr hlocks hK hP hD hS rfl rfl (Or.inl rfl) dX2_holds_31
    · refine lv_iload_n hx hb dX2_holds_12 rfl (lv_at hl 1 rfl) ?_
      refine x_if_lt (tgt := 30) hx hb h dX2_holds_13 (by decide) (fun c13 h => ?_) (fun c13 h => ?_)
      · refine lv_iconst (v := 0) hx hb dX2_holds_30 (by decide) ?_
        cases h
        exact x_zret hx hb hr hlocks hK hP hD hS rfl rfl (Or.inl rfl) dX2_holds_31
      · refine lv_iload_n hx hb dX2_holds_16 rfl (lv_at hl 1 rfl) ?_
        refine lv_aload_n hx hb dX2_holds_17 rfl (lv_at hl 0 rfl) ?_
        refine gt_X2_25 S hK hP 0 rfl rfl dX2_holds_18 ?_
        refine lv_iload_n hx hb dX2_holds_21 rfl (lv_at hl 2 rfl) ?_
        refine lv_isub hx hb dX2_holds_22 ?_
        refine x_icmp_gt (tgt := 30) hx hb h dX2_holds_23 (by decide) (fun c23 h => ?_) (fun c23 h => ?_)
        · refine lv_iconst (v := 0) hx hb dX2_holds_30 (by decide) ?_
          cases h
          exact x_zret hx hb hr hlocks hK hP hD hS rfl rfl (Or.inl rfl) dX2_holds_31
        · refine lv_iconst (v := 1) hx hb dX2_holds_26 (by decide) ?_
          refine lv_goto (tgt := 31) hx hb dX2_holds_27 (by decide) ?_
          cases h
          exact x_zret hx hb hr hlocks hK hP hD hS rfl rfl (Or.inr rfl) dX2_holds_31

def f_X3_take_L12 (v_nc : Nat → Int32) (v_size_1 : Int32) : Nat → (Nat → Int32) → Int32 → Option ((Nat → Int32) × (Int32))
  | 0, _, _ => none
  | k_n + 1, v_codes_2, l3_3 => (if v_size_1 ≤ l3_3 then some (v_codes_2, v_size_1) else (if 50 ≤ l3_3 then some (v_codes_2, v_size_1) else rdA 50 v_nc l3_3 (fun x_4 => wrA 50 v_codes_2 l3_3 x_4 (fun v_codes_5 => nmA (l3_3 + 1) (fun l3_6 => f_X3_take_L12 v_nc v_size_1 k_n v_codes_5 l3_6)))))
def f_X3_take  (v_codes : Nat → Int32) (v_size : Int32) (v_nc : Nat → Int32) (p1 : Int32) : Option ((Nat → Int32) × (Int32)) :=
  nmA (minI p1 50) (fun v_size_1 => f_X3_take_L12 v_nc v_size_1 300 v_codes 0)
set_option maxHeartbeats 600000 in
set_option maxRecDepth 100000 in
theorem c_X3_take (l : Launch) (D : va_G) (cI cS : ClassId) (T : Nat → Nat) (o : Nat → Nat) {v_use : Int32} {v_codes : Nat → Int32} {v_size : Int32} {v_stack : Nat → Int32} {v_nc : Nat → Int32} {p1 : Int32} {w_codes : Nat → Int32} {w_size : Int32} (h : f_X3_take  v_codes v_size v_nc p1 = some (w_codes, w_size)) : MetV l D (tysX cI cS) (Sta T) yX3_take cX3_take 4 none 1 24 [.ref (o 0), .ref (o 3), .int p1] (pcX3t o cI v_use v_codes v_size v_stack v_nc) (pcX3t o cI v_use w_codes w_size v_stack v_nc) := by
  refine Ent.metV (by decide +kernel) (Nat.le_of_ble_eq_true rfl) ?_
  intro p e s m args below meth c A ls hx hb hr hml hown hts hlocks hA hK hSt hP hD hS hl
  have hown : s.vm.findClass RX3 = some m.cls := hown
  have S : XFix p m c cX3_take 4 s args RX3 := ⟨hx, hb, hml, hown, hts⟩
  have hl : lv_has ls 4 [(0, .ref (o 0)), (1, .ref (o 3)), (2, .int p1)] := hl
  unfold f_X3_take at h
  refine lv_aload_n hx hb dX3_take_0 rfl (lv_at hl 0 rfl) ?_
  refine lv_iload_n hx hb dX3_take_1 rfl (lv_at hl 2 rfl) ?_
  refine lv_bipush (v := 50) hx hb dX3_take_2 (by decide) ?_
  refine va_mmin hx hb (hml.trans hl.1.symm) hown (hts _ wd9_3) (hts _ wd7_13) (hts _ wd7_14) (hts _ wd7_15) (Nat.le_of_ble_eq_true rfl) (Nat.le_of_ble_eq_true rfl) (Nat.zero_le _) (Nat.zero_le _) dX3_take_4 ?_
  refine x_topE (y := (minI p1 50)) rfl ?_
  refine x_nm h (fun v_size_1 ev_size_1 h => ?_)
  refine pt_X3_28 S hK hP hD hS 0 rfl (Nat.le_of_ble_eq_true rfl) dX3_take_7 (fun H locs hP hD hS => ?_)
  have hP : va_P D vwCl (pcX3t o cI v_use v_codes v_size_1 v_stack v_nc) H := hP
  have hD : va_D A (pcX3t o cI v_use v_codes v_size_1 v_stack v_nc) := hD
  refine lv_iconst (v := 0) hx hb dX3_take_10 (by decide) ?_
  refine lv_istore_n (lv' := [(3, .int 0), (0, .ref (o 0)), (1, .ref (o 3)), (2, .int p1)]) hx hb dX3_take_11 rfl hl (by decide) rfl (fun ls hl => ?_)
  have wf_X3_take_L12 : ∀ (k_n : Nat) (v_codes_2 : Nat → Int32) (l3_3 : Int32), f_X3_take_L12 v_nc v_size_1 k_n v_codes_2 l3_3 = some (w_codes, w_size) → ∀ (H : Heap) (locs : List Loc), va_P D vwCl (pcX3t o cI v_use v_codes_2 v_size_1 v_stack v_nc) H → va_D A (pcX3t o cI v_use v_codes_2 v_size_1 v_stack v_nc) → va_S A s.heap H locs → ∀ ls : Array Slot, lv_has ls 4 [(0, .ref (o 0)), (1, .ref (o 3)), (3, .int l3_3)] → WV p l e 1 24 s m args below meth c D (tysX cI cS) A (pcX3t o cI v_use w_codes w_size v_stack v_nc) H locs (F0 m 12 ls []) := by
      intro k_n
      induction k_n with
      | zero => intro v_codes_2 l3_3 h; rw [f_X3_take_L12] at h; cases h
      | succ k_n ih =>
        intro v_codes_2 l3_3 h H locs hP hD hS ls hl
        rw [f_X3_take_L12] at h
        refine lv_iload_n hx hb dX3_take_12 rfl (lv_at hl 2 rfl) ?_
        refine lv_aload_n hx hb dX3_take_13 rfl (lv_at hl 0 rfl) ?_
        refine gt_X3_28 S hK hP 0 rfl rfl dX3_take_14 ?_
        refine x_icmp_ge (tgt := 41) hx hb h dX3_take_17 (by decide) (fun c17 h => ?_) (fun c17 h => ?_)
        · cases h
          exact x_vret hx hb hr hlocks hK hP hD hS rfl dX3_take_41
        · refine lv_iload_n hx hb dX3_take_20 rfl (lv_at hl 2 rfl) ?_
          refine lv_aload_n hx hb dX3_take_21 rfl (lv_at hl 1 rfl) ?_
          refine va_alen (v := 50) hx hb hK hP 3 0 rfl rfl (show Int32.ofNat 50 = 50 by decide) dX3_take_22 ?_
          refine x_icmp_ge (tgt := 41) hx hb h dX3_take_23 (by decide) (fun c23 h => ?_) (fun c23 h => ?_)
          · cases h
            exact x_vret hx hb hr hlocks hK hP hD hS rfl dX3_take_41
          · refine lv_aload_n hx hb dX3_take_26 rfl (lv_at hl 0 rfl) ?_
            refine gt_X3_9 S hK hP 0 rfl rfl dX3_take_27 ?_
            refine lv_iload_n hx hb dX3_take_30 rfl (lv_at hl 2 rfl) ?_
            refine lv_aload_n hx hb dX3_take_31 rfl (lv_at hl 1 rfl) ?_
            refine lv_iload_n hx hb dX3_take_32 rfl (lv_at hl 2 rfl) ?_
            refine x_ald hx hb hK hP 3 h rfl rfl dX3_take_33 (fun x_4 ex_4 h => ?_)
            refine x_ast hx hb hK hP hD hS 1 h rfl rfl dX3_take_34 (fun v_codes_5 ev_codes_5 h H locs hP hD hS => ?_)
            have hP : va_P D vwCl (pcX3t o cI v_use v_codes_5 v_size_1 v_stack v_nc) H := hP
            have hD : va_D A (pcX3t o cI v_use v_codes_5 v_size_1 v_stack v_nc) := hD
            obtain ⟨l3_6, el3_6, h⟩ := nmA_s h
            refine lv_iinc (v := l3_6) (lv' := [(3, .int l3_6), (0, .ref (o 0)), (1, .ref (o 3))]) hx hb dX3_take_35 hl (k := 2) rfl (by rw [el3_6]; exact congrArg _ (by decide)) (by decide) rfl (fun ls hl => ?_)
            refine lv_goto (tgt := 12) hx hb dX3_take_38 (by decide) ?_
            exact ih v_codes_5 l3_6 h _ _ hP hD hS _ (lv_sub hl [1, 2, 0] rfl)
  exact wf_X3_take_L12 300 v_codes 0 h _ _ hP hD hS _ (lv_sub hl [1, 2, 0] rfl)

def f_X3_apply   (p0 : Int32) (p1 : Int32) (p2 : Int32) : Option ((Int32)) :=
  (if p0 = 37 then (if p2 = 0 then some (0) else nzA p2 (some ((rmI p1 p2)))) else (if p0 = 38 then (if p1 = 0 then some (0) else (if p2 = 0 then some (0) else some (1))) else (if p0 = 42 then some ((p1 * p2)) else (if p0 = 43 then some ((p1 + p2)) else (if p0 = 45 then some ((p1 - p2)) else (if p0 = 47 then (if p2 = 0 then some (0) else nzA p2 (some ((p1 / p2)))) else (if p0 = 60 then (if p2 ≤ p1 then some (0) else some (1)) else (if p0 = 61 then (if p1 = p2 then some (1) else some (0)) else (if p0 = 62 then (if p1 ≤ p2 then some (0) else some (1)) else (if p0 = 124 then (if p1 = 0 then (if p2 = 0 then some (0) else some (1)) else some (1)) else some (0)))))))))))
set_option maxHeartbeats 600000 in
set_option maxRecDepth 100000 in
theorem c_X3_apply (l : Launch) (D : va_G) (cI cS : ClassId) (T : Nat → Nat) (o : Nat → Nat)  {p0 : Int32} {p1 : Int32} {p2 : Int32}  {r_out : Int32} (h : f_X3_apply   p0 p1 p2 = some (r_out)) : MetI l D (tysX cI cS) (Sta T) yX3_apply cX3_apply 3 (some .int) 0 0 [.int p0, .int p1, .int p2] [] r_out [] := by
  refine Ent.metI (by decide +kernel) (Nat.le_of_ble_eq_true rfl) ?_
  intro p e s m args below meth c A ls hx hb hr hml hown hts hlocks hA hK hSt hP hD hS hl
  have hown : s.vm.findClass RX3 = some m.cls := hown
  have S : XFix p m c cX3_apply 3 s args RX3 := ⟨hx, hb, hml, hown, hts⟩
  have hl : lv_has ls 3 [(0, .int p0), (1, .int p1), (2, .int p2)] := hl
  unfold f_X3_apply at h
  refine lv_iload_n hx hb dX3_apply_0 rfl (lv_at hl 0 rfl) ?_
  by_cases c1_0 : p0 = 37
  · replace h := ite_t c1_0 h
    refine lv_lookup (off := 176) (tgt := 177) hx hb dX3_apply_1 (by decide +kernel) (by rw [c1_0]; decide +kernel) (by decide) ?_
    refine lv_iload_n hx hb dX3_apply_177 rfl (lv_at hl 2 rfl) ?_
    refine x_if_ne (tgt := 185) hx hb h dX3_apply_178 (by decide) (fun c178 h => ?_) (fun c178 h => ?_)
    · refine lv_iload_n hx hb dX3_apply_185 rfl (lv_at hl 1 rfl) ?_
      refine lv_iload_n hx hb dX3_apply_186 rfl (lv_at hl 2 rfl) ?_
      refine x_irem hx hb h dX3_apply_187 (fun h => ?_)
      cases h
      exact x_iret hx hb hr hlocks hK hP hD hS rfl rfl dX3_apply_188
    · refine lv_iconst (v := 0) hx hb dX3_apply_181 (by decide) ?_
      refine lv_goto (tgt := 188) hx hb dX3_apply_182 (by decide) ?_
      cases h
      exact x_iret hx hb hr hlocks hK hP hD hS rfl rfl dX3_apply_188
  replace h := ite_f c1_0 h
  by_cases c1_1 : p0 = 38
  · replace h := ite_t c1_1 h
    refine lv_lookup (off := 105) (tgt := 106) hx hb dX3_apply_1 (by decide +kernel) (by rw [c1_1]; decide +kernel) (by decide) ?_
    refine lv_iload_n hx hb dX3_apply_106 rfl (lv_at hl 1 rfl) ?_
    refine x_if_eq (tgt := 118) hx hb h dX3_apply_107 (by decide) (fun c107 h => ?_) (fun c107 h => ?_)
    · refine lv_iconst (v := 0) hx hb dX3_apply_118 (by decide) ?_
      cases h
      exact x_iret hx hb hr hlocks hK hP hD hS rfl rfl dX3_apply_119
    · refine lv_iload_n hx hb dX3_apply_110 rfl (lv_at hl 2 rfl) ?_
      refine x_if_eq (tgt := 118) hx hb h dX3_apply_111 (by decide) (fun c111 h => ?_) (fun c111 h => ?_)
      · refine lv_iconst (v := 0) hx hb dX3_apply_118 (by decide) ?_
        cases h
        exact x_iret hx hb hr hlocks hK hP hD hS rfl rfl dX3_apply_119
      · refine lv_iconst (v := 1) hx hb dX3_apply_114 (by decide) ?_
        refine lv_goto (tgt := 119) hx hb dX3_apply_115 (by decide) ?_
        cases h
        exact x_iret hx hb hr hlocks hK hP hD hS rfl rfl dX3_apply_119
  replace h := ite_f c1_1 h
  by_cases c1_2 : p0 = 42
  · replace h := ite_t c1_2 h
    refine lv_lookup (off := 160) (tgt := 161) hx hb dX3_apply_1 (by decide +kernel) (by rw [c1_2]; decide +kernel) (by decide) ?_
    refine lv_iload_n hx hb dX3_apply_161 rfl (lv_at hl 1 rfl) ?_
    refine lv_iload_n hx hb dX3_apply_162 rfl (lv_at hl 2 rfl) ?_
    refine lv_imul hx hb dX3_apply_163 ?_
    cases h
    exact x_iret hx hb hr hlocks hK hP hD hS rfl rfl dX3_apply_164
  replace h := ite_f c1_2 h
  by_cases c1_3 : p0 = 43
  · replace h := ite_t c1_3 h
    refine lv_lookup (off := 152) (tgt := 153) hx hb dX3_apply_1 (by decide +kernel) (by rw [c1_3]; decide +kernel) (by decide) ?_
    refine lv_iload_n hx hb dX3_apply_153 rfl (lv_at hl 1 rfl) ?_
    refine lv_iload_n hx hb dX3_apply_154 rfl (lv_at hl 2 rfl) ?_
    refine lv_iadd hx hb dX3_apply_155 ?_
    cases h
    exact x_iret hx hb hr hlocks hK hP hD hS rfl rfl dX3_apply_156
  replace h := ite_f c1_3 h
  by_cases c1_4 : p0 = 45
  · replace h := ite_t c1_4 h
    refine lv_lookup (off := 156) (tgt := 157) hx hb dX3_apply_1 (by decide +kernel) (by rw [c1_4]; decide +kernel) (by decide) ?_
    refine lv_iload_n hx hb dX3_apply_157 rfl (lv_at hl 1 rfl) ?_
    refine lv_iload_n hx hb dX3_apply_158 rfl (lv_at hl 2 rfl) ?_
    refine lv_isub hx hb dX3_apply_159 ?_
    cases h
    exact x_iret hx hb hr hlocks hK hP hD hS rfl rfl dX3_apply_160
  replace h := ite_f c1_4 h
  by_cases c1_5 : p0 = 47
  · replace h := ite_t c1_5 h
    refine lv_lookup (off := 164) (tgt := 165) hx hb dX3_apply_1 (by decide +kernel) (by rw [c1_5]; decide +kernel) (by decide) ?_
    refine lv_iload_n hx hb dX3_apply_165 rfl (lv_at hl 2 rfl) ?_
    refine x_if_ne (tgt := 173) hx hb h dX3_apply_166 (by decide) (fun c166 h => ?_) (fun c166 h => ?_)
    · refine lv_iload_n hx hb dX3_apply_173 rfl (lv_at hl 1 rfl) ?_
      refine lv_iload_n hx hb dX3_apply_174 rfl (lv_at hl 2 rfl) ?_
      refine x_idiv hx hb h dX3_apply_175 (fun h => ?_)
      cases h
      exact x_iret hx hb hr hlocks hK hP hD hS rfl rfl dX3_apply_176
    · refine lv_iconst (v := 0) hx hb dX3_apply_169 (by decide) ?_
      refine lv_goto (tgt := 176) hx hb dX3_apply_170 (by decide) ?_
      cases h
      exact x_iret hx hb hr hlocks hK hP hD hS rfl rfl dX3_apply_176
  replace h := ite_f c1_5 h
  by_cases c1_6 : p0 = 60
  · replace h := ite_t c1_6 h
    refine lv_lookup (off := 119) (tgt := 120) hx hb dX3_apply_1 (by decide +kernel) (by rw [c1_6]; decide +kernel) (by decide) ?_
    refine lv_iload_n hx hb dX3_apply_120 rfl (lv_at hl 1 rfl) ?_
    refine lv_iload_n hx hb dX3_apply_121 rfl (lv_at hl 2 rfl) ?_
    refine x_icmp_ge (tgt := 129) hx hb h dX3_apply_122 (by decide) (fun c122 h => ?_) (fun c122 h => ?_)
    · refine lv_iconst (v := 0) hx hb dX3_apply_129 (by decide) ?_
      cases h
      exact x_iret hx hb hr hlocks hK hP hD hS rfl rfl dX3_apply_130
    · refine lv_iconst (v := 1) hx hb dX3_apply_125 (by decide) ?_
      refine lv_goto (tgt := 130) hx hb dX3_apply_126 (by decide) ?_
      cases h
      exact x_iret hx hb hr hlocks hK hP hD hS rfl rfl dX3_apply_130
  replace h := ite_f c1_6 h
  by_cases c1_7 : p0 = 61
  · replace h := ite_t c1_7 h
    refine lv_lookup (off := 130) (tgt := 131) hx hb dX3_apply_1 (by decide +kernel) (by rw [c1_7]; decide +kernel) (by decide) ?_
    refine lv_iload_n hx hb dX3_apply_131 rfl (lv_at hl 1 rfl) ?_
    refine lv_iload_n hx hb dX3_apply_132 rfl (lv_at hl 2 rfl) ?_
    refine x_icmp_ne (tgt := 140) hx hb h dX3_apply_133 (by decide) (fun c133 h => ?_) (fun c133 h => ?_)
    · refine lv_iconst (v := 0) hx hb dX3_apply_140 (by decide) ?_
      cases h
      exact x_iret hx hb hr hlocks hK hP hD hS rfl rfl dX3_apply_141
    · refine lv_iconst (v := 1) hx hb dX3_apply_136 (by decide) ?_
      refine lv_goto (tgt := 141) hx hb dX3_apply_137 (by decide) ?_
      cases h
      exact x_iret hx hb hr hlocks hK hP hD hS rfl rfl dX3_apply_141
  replace h := ite_f c1_7 h
  by_cases c1_8 : p0 = 62
  · replace h := ite_t c1_8 h
    refine lv_lookup (off := 141) (tgt := 142) hx hb dX3_apply_1 (by decide +kernel) (by rw [c1_8]; decide +kernel) (by decide) ?_
    refine lv_iload_n hx hb dX3_apply_142 rfl (lv_at hl 1 rfl) ?_
    refine lv_iload_n hx hb dX3_apply_143 rfl (lv_at hl 2 rfl) ?_
    refine x_icmp_le (tgt := 151) hx hb h dX3_apply_144 (by decide) (fun c144 h => ?_) (fun c144 h => ?_)
    · refine lv_iconst (v := 0) hx hb dX3_apply_151 (by decide) ?_
      cases h
      exact x_iret hx hb hr hlocks hK hP hD hS rfl rfl dX3_apply_152
    · refine lv_iconst (v := 1) hx hb dX3_apply_147 (by decide) ?_
      refine lv_goto (tgt := 152) hx hb dX3_apply_148 (by decide) ?_
      cases h
      exact x_iret hx hb hr hlocks hK hP hD hS rfl rfl dX3_apply_152
  replace h := ite_f c1_8 h
  by_cases c1_9 : p0 = 124
  · replace h := ite_t c1_9 h
    refine lv_lookup (off := 91) (tgt := 92) hx hb dX3_apply_1 (by decide +kernel) (by rw [c1_9]; decide +kernel) (by decide) ?_
    refine lv_iload_n hx hb dX3_apply_92 rfl (lv_at hl 1 rfl) ?_
    refine x_if_ne (tgt := 100) hx hb h dX3_apply_93 (by decide) (fun c93 h => ?_) (fun c93 h => ?_)
    · refine lv_iconst (v := 1) hx hb dX3_apply_100 (by decide) ?_
      refine lv_goto (tgt := 105) hx hb dX3_apply_101 (by decide) ?_
      cases h
      exact x_iret hx hb hr hlocks hK hP hD hS rfl rfl dX3_apply_105
    · refine lv_iload_n hx hb dX3_apply_96 rfl (lv_at hl 2 rfl) ?_
      refine x_if_eq (tgt := 104) hx hb h dX3_apply_97 (by decide) (fun c97 h => ?_) (fun c97 h => ?_)
      · refine lv_iconst (v := 0) hx hb dX3_apply_104 (by decide) ?_
        cases h
        exact x_iret hx hb hr hlocks hK hP hD hS rfl rfl dX3_apply_105
      · refine lv_iconst (v := 1) hx hb dX3_apply_100 (by decide) ?_
        refine lv_goto (tgt := 105) hx hb dX3_apply_101 (by decide) ?_
        cases h
        exact x_iret hx hb hr hlocks hK hP hD hS rfl rfl dX3_apply_105
  replace h := ite_f c1_9 h
  refine lv_lookup (off := 188) (tgt := 189) hx hb dX3_apply_1 (by decide +kernel) (by show Op.lookupswitch.offset [(37, 176), (38, 105), (42, 160), (43, 152), (45, 156), (47, 164), (60, 119), (61, 130), (62, 141), (124, 91)] 188 (p0).toInt = 188; rw [lv_osw c1_0 (by decide), lv_osw c1_1 (by decide), lv_osw c1_2 (by decide), lv_osw c1_3 (by decide), lv_osw c1_4 (by decide), lv_osw c1_5 (by decide), lv_osw c1_6 (by decide), lv_osw c1_7 (by decide), lv_osw c1_8 (by decide), lv_osw c1_9 (by decide)]; rfl) (by decide) ?_
  refine lv_iconst (v := 0) hx hb dX3_apply_189 (by decide) ?_
  cases h
  exact x_iret hx hb hr hlocks hK hP hD hS rfl rfl dX3_apply_190

def f_X3_workOut_L6 (v_codes : Nat → Int32) (v_size : Int32) (p0 : Int32) (p1 : Int32) (p2 : Int32) : Nat → (Nat → Int32) → Int32 → Int32 → Option ((Nat → Int32) × (Int32))
  | 0, _, _, _ => none
  | k_n + 1, v_stack_1, l4_2, l5_3 => (if v_size ≤ l5_3 then rdA 50 v_stack_1 0 (fun x_4 => some (v_stack_1, x_4)) else rdA 50 v_codes l5_3 (fun x_5 => jnA (fun (v_stack_6 : Nat → Int32) (l4_7 : Int32) => nmA (l5_3 + 1) (fun l5_8 => f_X3_workOut_L6 v_codes v_size p0 p1 p2 k_n v_stack_6 l4_7 l5_8)) (fun J172 => (if x_5 < (-3) then jnA ((if l4_2 < 2 then J172 v_stack_1 l4_2 else nmA (l4_2 + (-1)) (fun l4_9 => rdA 50 v_stack_1 (l4_9 - 1) (fun x_10 => rdA 50 v_stack_1 l4_9 (fun x_11 => bd1 (f_X3_apply (-x_5) x_10 x_11) (fun r_12 => wrA 50 v_stack_1 (l4_9 - 1) r_12 (fun v_stack_13 => J172 v_stack_13 l4_9))))))) (fun J132 => (if x_5 = (-33) then (if l4_2 < 1 then J132 else rdA 50 v_stack_1 (l4_2 - 1) (fun x_14 => jnA (fun (t0_15 : Int32) => wrA 50 v_stack_1 (l4_2 - 1) t0_15 (fun v_stack_16 => J172 v_stack_16 l4_2)) (fun J128 => (if x_14 = 0 then J128 1 else J128 0)))) else J132)) else (if l4_2 < 50 then jnA (fun (t0_17 : Int32) => wrA 50 v_stack_1 l4_2 t0_17 (fun v_stack_18 => nmA (l4_2 + 1) (fun l4_19 => J172 v_stack_18 l4_19))) (fun J83 => (if x_5 = (-1) then J83 p0 else (if x_5 = (-2) then J83 p1 else (if x_5 = (-3) then J83 p2 else J83 x_5)))) else some (v_stack_1, 0))))))
def f_X3_workOut  (v_codes : Nat → Int32) (v_size : Int32) (v_stack : Nat → Int32) (p0 : Int32) (p1 : Int32) (p2 : Int32) : Option ((Nat → Int32) × (Int32)) :=
  f_X3_workOut_L6 v_codes v_size p0 p1 p2 300 v_stack 0 0
set_option maxHeartbeats 600000 in
set_option maxRecDepth 100000 in
theorem c_X3_workOut (l : Launch) (D : va_G) (cI cS : ClassId) (T : Nat → Nat) (o : Nat → Nat) {v_use : Int32} {v_codes : Nat → Int32} {v_size : Int32} {v_stack : Nat → Int32} {p0 : Int32} {p1 : Int32} {p2 : Int32} {w_stack : Nat → Int32} {r_out : Int32} (h : f_X3_workOut  v_codes v_size v_stack p0 p1 p2 = some (w_stack, r_out)) : MetI l D (tysX cI cS) (Sta T) yX3_workOut cX3_workOut 7 (some .int) 1 22 [.ref (o 0), .int p0, .int p1, .int p2] (pcX3 o cI v_use v_codes v_size v_stack) r_out (pcX3 o cI v_use v_codes v_size w_stack) := by
  refine Ent.metI (by decide +kernel) (Nat.le_of_ble_eq_true rfl) ?_
  intro p e s m args below meth c A ls hx hb hr hml hown hts hlocks hA hK hSt hP hD hS hl
  have hown : s.vm.findClass RX3 = some m.cls := hown
  have S : XFix p m c cX3_workOut 7 s args RX3 := ⟨hx, hb, hml, hown, hts⟩
  have hl : lv_has ls 7 [(0, .ref (o 0)), (1, .int p0), (2, .int p1), (3, .int p2)] := hl
  unfold f_X3_workOut at h
  refine lv_iconst (v := 0) hx hb dX3_workOut_0 (by decide) ?_
  refine lv_istore (lv' := [(4, .int 0), (0, .ref (o 0)), (1, .int p0), (2, .int p1), (3, .int p2)]) hx hb dX3_workOut_1 hl (by decide) rfl (fun ls hl => ?_)
  refine lv_iconst (v := 0) hx hb dX3_workOut_3 (by decide) ?_
  refine lv_istore (lv' := [(5, .int 0), (4, .int 0), (0, .ref (o 0)), (1, .int p0), (2, .int p1), (3, .int p2)]) hx hb dX3_workOut_4 hl (by decide) rfl (fun ls hl => ?_)
  have wf_X3_workOut_L6 : ∀ (k_n : Nat) (v_stack_1 : Nat → Int32) (l4_2 : Int32) (l5_3 : Int32), f_X3_workOut_L6 v_codes v_size p0 p1 p2 k_n v_stack_1 l4_2 l5_3 = some (w_stack, r_out) → ∀ (H : Heap) (locs : List Loc), va_P D vwCl (pcX3 o cI v_use v_codes v_size v_stack_1) H → va_D A (pcX3 o cI v_use v_codes v_size v_stack_1) → va_S A s.heap H locs → ∀ ls : Array Slot, lv_has ls 7 [(0, .ref (o 0)), (1, .int p0), (2, .int p1), (3, .int p2), (4, .int l4_2), (5, .int l5_3)] → WI p l e 1 22 s m args below meth c D (tysX cI cS) A r_out (pcX3 o cI v_use v_codes v_size w_stack) H locs (F0 m 6 ls []) := by
      intro k_n
      induction k_n with
      | zero => intro v_stack_1 l4_2 l5_3 h; rw [f_X3_workOut_L6] at h; cases h
      | succ k_n ih =>
        intro v_stack_1 l4_2 l5_3 h H locs hP hD hS ls hl
        rw [f_X3_workOut_L6] at h
        refine lv_iload hx hb dX3_workOut_6 (lv_at hl 5 rfl) ?_
        refine lv_aload_n hx hb dX3_workOut_8 rfl (lv_at hl 0 rfl) ?_
        refine gt_X3_28 S hK hP 0 rfl rfl dX3_workOut_9 ?_
        refine x_icmp_ge (tgt := 178) hx hb h dX3_workOut_12 (by decide) (fun c12 h => ?_) (fun c12 h => ?_)
        · refine lv_aload_n hx hb dX3_workOut_178 rfl (lv_at hl 0 rfl) ?_
          refine gt_X3_15 S hK hP 0 rfl rfl dX3_workOut_179 ?_
          refine lv_iconst (v := 0) hx hb dX3_workOut_182 (by decide) ?_
          refine x_ald hx hb hK hP 2 h rfl rfl dX3_workOut_183 (fun x_4 ex_4 h => ?_)
          cases h
          exact x_iret hx hb hr hlocks hK hP hD hS rfl rfl dX3_workOut_184
        · refine lv_aload_n hx hb dX3_workOut_15 rfl (lv_at hl 0 rfl) ?_
          refine gt_X3_9 S hK hP 0 rfl rfl dX3_workOut_16 ?_
          refine lv_iload hx hb dX3_workOut_19 (lv_at hl 5 rfl) ?_
          refine x_ald hx hb hK hP 1 h rfl rfl dX3_workOut_21 (fun x_5 ex_5 h => ?_)
          refine lv_istore (lv' := [(6, .int x_5), (0, .ref (o 0)), (1, .int p0), (2, .int p1), (3, .int p2), (4, .int l4_2), (5, .int l5_3)]) hx hb dX3_workOut_22 hl (by decide) rfl (fun ls hl => ?_)
          refine lv_iload hx hb dX3_workOut_24 (lv_at hl 0 rfl) ?_
          refine lv_bipush (v := (-3)) hx hb dX3_workOut_26 (by decide) ?_
          obtain ⟨J172, eJ172, h⟩ := jnA_s h
          have wJ172 : ∀ (v_stack_6 : Nat → Int32) (l4_7 : Int32), J172 v_stack_6 l4_7 = some (w_stack, r_out) → ∀ (H : Heap) (locs : List Loc), va_P D vwCl (pcX3 o cI v_use v_codes v_size v_stack_6) H → va_D A (pcX3 o cI v_use v_codes v_size v_stack_6) → va_S A s.heap H locs → ∀ ls : Array Slot, lv_has ls 7 [(0, .ref (o 0)), (1, .int p0), (2, .int p1), (3, .int p2), (4, .int l4_7), (5, .int l5_3)] → WI p l e 1 22 s m args below meth c D (tysX cI cS) A r_out (pcX3 o cI v_use v_codes v_size w_stack) H locs (F0 m 172 ls []) := by
              intro v_stack_6 l4_7 h H locs hP hD hS ls hl
              subst eJ172
              dsimp only at h
              obtain ⟨l5_8, el5_8, h⟩ := nmA_s h
              refine lv_iinc (v := l5_8) (lv' := [(5, .int l5_8), (0, .ref (o 0)), (1, .int p0), (2, .int p1), (3, .int p2), (4, .int l4_7)]) hx hb dX3_workOut_172 hl (k := 5) rfl (by rw [el5_8]; exact congrArg _ (by decide)) (by decide) rfl (fun ls hl => ?_)
              refine lv_goto (tgt := 6) hx hb dX3_workOut_175 (by decide) ?_
              exact ih v_stack_6 l4_7 l5_8 h _ _ hP hD hS _ (lv_sub hl [1, 2, 3, 4, 5, 0] rfl)
          refine x_icmp_lt (tgt := 90) hx hb h dX3_workOut_28 (by decide) (fun c28 h => ?_) (fun c28 h => ?_)
          · refine lv_iload hx hb dX3_workOut_90 (lv_at hl 0 rfl) ?_
            refine lv_bipush (v := (-33)) hx hb dX3_workOut_92 (by decide) ?_
            obtain ⟨J132, eJ132, h⟩ := jnA_s h
            have wJ132 : J132  = some (w_stack, r_out) → ∀ (H : Heap) (locs : List Loc), va_P D vwCl (pcX3 o cI v_use v_codes v_size v_stack_1) H → va_D A (pcX3 o cI v_use v_codes v_size v_stack_1) → va_S A s.heap H locs → ∀ ls : Array Slot, lv_has ls 7 [(0, .ref (o 0)), (1, .int p0), (2, .int p1), (3, .int p2), (4, .int l4_2), (5, .int l5_3), (6, .int x_5)] → WI p l e 1 22 s m args below meth c D (tysX cI cS) A r_out (pcX3 o cI v_use v_codes v_size w_stack) H locs (F0 m 132 ls []) := by
                intro h H locs hP hD hS ls hl
                subst eJ132
                refine lv_iload hx hb dX3_workOut_132 (lv_at hl 4 rfl) ?_
                refine lv_iconst (v := 2) hx hb dX3_workOut_134 (by decide) ?_
                refine x_icmp_lt (tgt := 172) hx hb h dX3_workOut_135 (by decide) (fun c135 h => ?_) (fun c135 h => ?_)
                · exact wJ172 v_stack_1 l4_2 h _ _ hP hD hS _ (lv_sub hl [0, 1, 2, 3, 4, 5] rfl)
                · obtain ⟨l4_9, el4_9, h⟩ := nmA_s h
                  refine lv_iinc (v := l4_9) (lv' := [(4, .int l4_9), (0, .ref (o 0)), (1, .int p0), (2, .int p1), (3, .int p2), (5, .int l5_3), (6, .int x_5)]) hx hb dX3_workOut_138 hl (k := 4) rfl (by rw [el4_9]; exact congrArg _ (by decide)) (by decide) rfl (fun ls hl => ?_)
                  refine lv_aload_n hx hb dX3_workOut_141 rfl (lv_at hl 1 rfl) ?_
                  refine gt_X3_15 S hK hP 0 rfl rfl dX3_workOut_142 ?_
                  refine lv_iload hx hb dX3_workOut_145 (lv_at hl 0 rfl) ?_
                  refine lv_iconst (v := 1) hx hb dX3_workOut_147 (by decide) ?_
                  refine lv_isub hx hb dX3_workOut_148 ?_
                  refine lv_iload hx hb dX3_workOut_149 (lv_at hl 6 rfl) ?_
                  refine lv_ineg hx hb dX3_workOut_151 ?_
                  refine lv_aload_n hx hb dX3_workOut_152 rfl (lv_at hl 1 rfl) ?_
                  refine gt_X3_15 S hK hP 0 rfl rfl dX3_workOut_153 ?_
                  refine lv_iload hx hb dX3_workOut_156 (lv_at hl 0 rfl) ?_
                  refine lv_iconst (v := 1) hx hb dX3_workOut_158 (by decide) ?_
                  refine lv_isub hx hb dX3_workOut_159 ?_
                  refine x_ald hx hb hK hP 2 h rfl rfl dX3_workOut_160 (fun x_10 ex_10 h => ?_)
                  refine lv_aload_n hx hb dX3_workOut_161 rfl (lv_at hl 1 rfl) ?_
                  refine gt_X3_15 S hK hP 0 rfl rfl dX3_workOut_162 ?_
                  refine lv_iload hx hb dX3_workOut_165 (lv_at hl 0 rfl) ?_
                  refine x_ald hx hb hK hP 2 h rfl rfl dX3_workOut_167 (fun x_11 ex_11 h => ?_)
                  obtain ⟨r_12, hc168, h⟩ := bd1_s h
                  refine x_statI (As := [.int (-x_5), .int x_10, .int x_11]) (rest := [.int (l4_9 - 1), .ref (o 2)]) (Sta_ok T) S (c_X3_apply l D cI cS T o hc168) ys_X3_apply wd9_11 ⟨Nat.le_of_ble_eq_true rfl, Nat.le_of_ble_eq_true rfl⟩ hK hSt hA hP hD hS rfl hl.1 rfl (Nat.le_of_ble_eq_true rfl) dX3_workOut_168 (Nat.zero_le _) (Nat.zero_le _) (fun H locs hP hD hS => ?_)
                  refine x_ast hx hb hK hP hD hS 2 h rfl rfl dX3_workOut_171 (fun v_stack_13 ev_stack_13 h H locs hP hD hS => ?_)
                  have hP : va_P D vwCl (pcX3 o cI v_use v_codes v_size v_stack_13) H := hP
                  have hD : va_D A (pcX3 o cI v_use v_codes v_size v_stack_13) := hD
                  exact wJ172 v_stack_13 l4_9 h _ _ hP hD hS _ (lv_sub hl [1, 2, 3, 4, 0, 5] rfl)
            refine x_icmp_ne (tgt := 132) hx hb h dX3_workOut_94 (by decide) (fun c94 h => ?_) (fun c94 h => ?_)
            · exact wJ132 h _ _ hP hD hS _ (lv_sub hl [1, 2, 3, 4, 5, 6, 0] rfl)
            · refine lv_iload hx hb dX3_workOut_97 (lv_at hl 5 rfl) ?_
              refine lv_iconst (v := 1) hx hb dX3_workOut_99 (by decide) ?_
              refine x_icmp_lt (tgt := 132) hx hb h dX3_workOut_100 (by decide) (fun c100 h => ?_) (fun c100 h => ?_)
              · exact wJ132 h _ _ hP hD hS _ (lv_sub hl [1, 2, 3, 4, 5, 6, 0] rfl)
              · refine lv_aload_n hx hb dX3_workOut_103 rfl (lv_at hl 1 rfl) ?_
                refine gt_X3_15 S hK hP 0 rfl rfl dX3_workOut_104 ?_
                refine lv_iload hx hb dX3_workOut_107 (lv_at hl 5 rfl) ?_
                refine lv_iconst (v := 1) hx hb dX3_workOut_109 (by decide) ?_
                refine lv_isub hx hb dX3_workOut_110 ?_
                refine lv_aload_n hx hb dX3_workOut_111 rfl (lv_at hl 1 rfl) ?_
                refine gt_X3_15 S hK hP 0 rfl rfl dX3_workOut_112 ?_
                refine lv_iload hx hb dX3_workOut_115 (lv_at hl 5 rfl) ?_
                refine lv_iconst (v := 1) hx hb dX3_workOut_117 (by decide) ?_
                refine lv_isub hx hb dX3_workOut_118 ?_
                refine x_ald hx hb hK hP 2 h rfl rfl dX3_workOut_119 (fun x_14 ex_14 h => ?_)
                obtain ⟨J128, eJ128, h⟩ := jnA_s h
                have wJ128 : ∀ (t0_15 : Int32), J128 t0_15 = some (w_stack, r_out) → ∀ (H : Heap) (locs : List Loc), va_P D vwCl (pcX3 o cI v_use v_codes v_size v_stack_1) H → va_D A (pcX3 o cI v_use v_codes v_size v_stack_1) → va_S A s.heap H locs → ∀ ls : Array Slot, lv_has ls 7 [(0, .ref (o 0)), (1, .int p0), (2, .int p1), (3, .int p2), (4, .int l4_2), (5, .int l5_3)] → WI p l e 1 22 s m args below meth c D (tysX cI cS) A r_out (pcX3 o cI v_use v_codes v_size w_stack) H locs (F0 m 128 ls [.int t0_15, .int (l4_2 - 1), .ref (o 2)]) := by
                    intro t0_15 h H locs hP hD hS ls hl
                    subst eJ128
                    dsimp only at h
                    refine x_ast hx hb hK hP hD hS 2 h rfl rfl dX3_workOut_128 (fun v_stack_16 ev_stack_16 h H locs hP hD hS => ?_)
                    have hP : va_P D vwCl (pcX3 o cI v_use v_codes v_size v_stack_16) H := hP
                    have hD : va_D A (pcX3 o cI v_use v_codes v_size v_stack_16) := hD
                    refine lv_goto (tgt := 172) hx hb dX3_workOut_129 (by decide) ?_
                    exact wJ172 v_stack_16 l4_2 h _ _ hP hD hS _ (lv_sub hl [0, 1, 2, 3, 4, 5] rfl)
                refine x_if_ne (tgt := 127) hx hb h dX3_workOut_120 (by decide) (fun c120 h => ?_) (fun c120 h => ?_)
                · refine lv_iconst (v := 0) hx hb dX3_workOut_127 (by decide) ?_
                  exact wJ128 0 h _ _ hP hD hS _ (lv_sub hl [1, 2, 3, 4, 5, 6] rfl)
                · refine lv_iconst (v := 1) hx hb dX3_workOut_123 (by decide) ?_
                  refine lv_goto (tgt := 128) hx hb dX3_workOut_124 (by decide) ?_
                  exact wJ128 1 h _ _ hP hD hS _ (lv_sub hl [1, 2, 3, 4, 5, 6] rfl)
          · refine lv_iload hx hb dX3_workOut_31 (lv_at hl 5 rfl) ?_
            refine lv_aload_n hx hb dX3_workOut_33 rfl (lv_at hl 1 rfl) ?_
            refine gt_X3_15 S hK hP 0 rfl rfl dX3_workOut_34 ?_
            refine va_alen (v := 50) hx hb hK hP 2 0 rfl rfl (show Int32.ofNat 50 = 50 by decide) dX3_workOut_37 ?_
            refine x_icmp_lt (tgt := 43) hx hb h dX3_workOut_38 (by decide) (fun c38 h => ?_) (fun c38 h => ?_)
            · refine lv_aload_n hx hb dX3_workOut_43 rfl (lv_at hl 1 rfl) ?_
              refine gt_X3_15 S hK hP 0 rfl rfl dX3_workOut_44 ?_
              refine lv_iload hx hb dX3_workOut_47 (lv_at hl 5 rfl) ?_
              refine lv_iload hx hb dX3_workOut_49 (lv_at hl 0 rfl) ?_
              refine lv_iconst (v := (-1)) hx hb dX3_workOut_51 (by decide) ?_
              obtain ⟨J83, eJ83, h⟩ := jnA_s h
              have wJ83 : ∀ (t0_17 : Int32), J83 t0_17 = some (w_stack, r_out) → ∀ (H : Heap) (locs : List Loc), va_P D vwCl (pcX3 o cI v_use v_codes v_size v_stack_1) H → va_D A (pcX3 o cI v_use v_codes v_size v_stack_1) → va_S A s.heap H locs → ∀ ls : Array Slot, lv_has ls 7 [(0, .ref (o 0)), (1, .int p0), (2, .int p1), (3, .int p2), (4, .int l4_2), (5, .int l5_3)] → WI p l e 1 22 s m args below meth c D (tysX cI cS) A r_out (pcX3 o cI v_use v_codes v_size w_stack) H locs (F0 m 83 ls [.int t0_17, .int l4_2, .ref (o 2)]) := by
                  intro t0_17 h H locs hP hD hS ls hl
                  subst eJ83
                  dsimp only at h
                  refine x_ast hx hb hK hP hD hS 2 h rfl rfl dX3_workOut_83 (fun v_stack_18 ev_stack_18 h H locs hP hD hS => ?_)
                  have hP : va_P D vwCl (pcX3 o cI v_use v_codes v_size v_stack_18) H := hP
                  have hD : va_D A (pcX3 o cI v_use v_codes v_size v_stack_18) := hD
                  obtain ⟨l4_19, el4_19, h⟩ := nmA_s h
                  refine lv_iinc (v := l4_19) (lv' := [(4, .int l4_19), (0, .ref (o 0)), (1, .int p0), (2, .int p1), (3, .int p2), (5, .int l5_3)]) hx hb dX3_workOut_84 hl (k := 4) rfl (by rw [el4_19]; exact congrArg _ (by decide)) (by decide) rfl (fun ls hl => ?_)
                  refine lv_goto (tgt := 172) hx hb dX3_workOut_87 (by decide) ?_
                  exact wJ172 v_stack_18 l4_19 h _ _ hP hD hS _ (lv_sub hl [1, 2, 3, 4, 0, 5] rfl)
              refine x_icmp_ne (tgt := 59) hx hb h dX3_workOut_52 (by decide) (fun c52 h => ?_) (fun c52 h => ?_)
              · refine lv_iload hx hb dX3_workOut_59 (lv_at hl 0 rfl) ?_
                refine lv_bipush (v := (-2)) hx hb dX3_workOut_61 (by decide) ?_
                refine x_icmp_ne (tgt := 70) hx hb h dX3_workOut_63 (by decide) (fun c63 h => ?_) (fun c63 h => ?_)
                · refine lv_iload hx hb dX3_workOut_70 (lv_at hl 0 rfl) ?_
                  refine lv_bipush (v := (-3)) hx hb dX3_workOut_72 (by decide) ?_
                  refine x_icmp_ne (tgt := 81) hx hb h dX3_workOut_74 (by decide) (fun c74 h => ?_) (fun c74 h => ?_)
                  · refine lv_iload hx hb dX3_workOut_81 (lv_at hl 0 rfl) ?_
                    exact wJ83 x_5 h _ _ hP hD hS _ (lv_sub hl [1, 2, 3, 4, 5, 6] rfl)
                  · refine lv_iload_n hx hb dX3_workOut_77 rfl (lv_at hl 4 rfl) ?_
                    refine lv_goto (tgt := 83) hx hb dX3_workOut_78 (by decide) ?_
                    exact wJ83 p2 h _ _ hP hD hS _ (lv_sub hl [1, 2, 3, 4, 5, 6] rfl)
                · refine lv_iload_n hx hb dX3_workOut_66 rfl (lv_at hl 3 rfl) ?_
                  refine lv_goto (tgt := 83) hx hb dX3_workOut_67 (by decide) ?_
                  exact wJ83 p1 h _ _ hP hD hS _ (lv_sub hl [1, 2, 3, 4, 5, 6] rfl)
              · refine lv_iload_n hx hb dX3_workOut_55 rfl (lv_at hl 2 rfl) ?_
                refine lv_goto (tgt := 83) hx hb dX3_workOut_56 (by decide) ?_
                exact wJ83 p0 h _ _ hP hD hS _ (lv_sub hl [1, 2, 3, 4, 5, 6] rfl)
            · refine lv_iconst (v := 0) hx hb dX3_workOut_41 (by decide) ?_
              cases h
              exact x_iret hx hb hr hlocks hK hP hD hS rfl rfl dX3_workOut_42
  exact wf_X3_workOut_L6 300 v_stack 0 0 h _ _ hP hD hS _ (lv_sub hl [2, 3, 4, 5, 1, 0] rfl)

def f_X3_gives  (v_use : Int32) (v_codes : Nat → Int32) (v_size : Int32) (v_stack : Nat → Int32) (p0 : Int32) (p1 : Int32) (p2 : Int32) : Option ((Nat → Int32) × (Int32)) :=
  jnA (fun (v_stack_1 : Nat → Int32) (l4_2 : Int32) => some (v_stack_1, (maxI 0 (minI 99 l4_2)))) (fun J37 => (if v_size ≤ 0 then jnA (fun (t0_3 : Int32) => J37 v_stack t0_3) (fun J35 => (if v_use = 0 then nzA 2 (J35 ((p0 * p1) / 2)) else J35 p1)) else bd2 (f_X3_workOut v_codes v_size v_stack p0 p1 p2) (fun v_stack_4 r_5 => J37 v_stack_4 r_5)))
set_option maxHeartbeats 600000 in
set_option maxRecDepth 100000 in
theorem c_X3_gives (l : Launch) (D : va_G) (cI cS : ClassId) (T : Nat → Nat) (o : Nat → Nat) {v_use : Int32} {v_codes : Nat → Int32} {v_size : Int32} {v_stack : Nat → Int32} {p0 : Int32} {p1 : Int32} {p2 : Int32} {w_stack : Nat → Int32} {r_out : Int32} (h : f_X3_gives  v_use v_codes v_size v_stack p0 p1 p2 = some (w_stack, r_out)) : MetI l D (tysX cI cS) (Sta T) yX3_gives cX3_gives 5 (some .int) 2 48 [.ref (o 0), .int p0, .int p1, .int p2] (pcX3 o cI v_use v_codes v_size v_stack) r_out (pcX3 o cI v_use v_codes v_size w_stack) := by
  refine Ent.metI (by decide +kernel) (Nat.le_of_ble_eq_true rfl) ?_
  intro p e s m args below meth c A ls hx hb hr hml hown hts hlocks hA hK hSt hP hD hS hl
  have hown : s.vm.findClass RX3 = some m.cls := hown
  have S : XFix p m c cX3_gives 5 s args RX3 := ⟨hx, hb, hml, hown, hts⟩
  have hl : lv_has ls 5 [(0, .ref (o 0)), (1, .int p0), (2, .int p1), (3, .int p2)] := hl
  unfold f_X3_gives at h
  refine lv_aload_n hx hb dX3_gives_0 rfl (lv_at hl 0 rfl) ?_
  refine gt_X3_28 S hK hP 0 rfl rfl dX3_gives_1 ?_
  obtain ⟨J37, eJ37, h⟩ := jnA_s h
  have wJ37 : ∀ (v_stack_1 : Nat → Int32) (l4_2 : Int32), J37 v_stack_1 l4_2 = some (w_stack, r_out) → ∀ (H : Heap) (locs : List Loc), va_P D vwCl (pcX3 o cI v_use v_codes v_size v_stack_1) H → va_D A (pcX3 o cI v_use v_codes v_size v_stack_1) → va_S A s.heap H locs → ∀ ls : Array Slot, lv_has ls 5 [(4, .int l4_2)] → WI p l e 2 48 s m args below meth c D (tysX cI cS) A r_out (pcX3 o cI v_use v_codes v_size w_stack) H locs (F0 m 37 ls []) := by
      intro v_stack_1 l4_2 h H locs hP hD hS ls hl
      subst eJ37
      dsimp only at h
      refine lv_iconst (v := 0) hx hb dX3_gives_37 (by decide) ?_
      refine lv_bipush (v := 99) hx hb dX3_gives_38 (by decide) ?_
      refine lv_iload hx hb dX3_gives_40 (lv_at hl 0 rfl) ?_
      refine va_mmin hx hb (hml.trans hl.1.symm) hown (hts _ wd9_3) (hts _ wd7_13) (hts _ wd7_14) (hts _ wd7_15) (Nat.le_of_ble_eq_true rfl) (Nat.le_of_ble_eq_true rfl) (Nat.zero_le _) (Nat.zero_le _) dX3_gives_42 ?_
      refine x_topE (y := (minI 99 l4_2)) rfl ?_
      refine va_mmax hx hb (hml.trans hl.1.symm) hown (hts _ wd9_4) (hts _ wd9_5) (hts _ wd7_14) (hts _ wd9_6) (Nat.le_of_ble_eq_true rfl) (Nat.le_of_ble_eq_true rfl) (Nat.zero_le _) (Nat.zero_le _) dX3_gives_45 ?_
      refine x_topE (y := (maxI 0 (minI 99 l4_2))) rfl ?_
      cases h
      exact x_iret hx hb hr hlocks hK hP hD hS rfl rfl dX3_gives_48
  refine x_if_le (tgt := 19) hx hb h dX3_gives_4 (by decide) (fun c4 h => ?_) (fun c4 h => ?_)
  · refine lv_aload_n hx hb dX3_gives_19 rfl (lv_at hl 0 rfl) ?_
    refine gt_X3_18 S hK hP 0 rfl rfl dX3_gives_20 ?_
    obtain ⟨J35, eJ35, h⟩ := jnA_s h
    have wJ35 : ∀ (t0_3 : Int32), J35 t0_3 = some (w_stack, r_out) → ∀ (H : Heap) (locs : List Loc), va_P D vwCl (pcX3 o cI v_use v_codes v_size v_stack) H → va_D A (pcX3 o cI v_use v_codes v_size v_stack) → va_S A s.heap H locs → ∀ ls : Array Slot, lv_has ls 5 [] → WI p l e 2 48 s m args below meth c D (tysX cI cS) A r_out (pcX3 o cI v_use v_codes v_size w_stack) H locs (F0 m 35 ls [.int t0_3]) := by
        intro t0_3 h H locs hP hD hS ls hl
        subst eJ35
        dsimp only at h
        refine lv_istore (lv' := [(4, .int t0_3)]) hx hb dX3_gives_35 hl (by decide) rfl (fun ls hl => ?_)
        exact wJ37 v_stack t0_3 h _ _ hP hD hS _ (lv_sub hl [0] rfl)
    refine x_if_ne (tgt := 34) hx hb h dX3_gives_23 (by decide) (fun c23 h => ?_) (fun c23 h => ?_)
    · refine lv_iload_n hx hb dX3_gives_34 rfl (lv_at hl 2 rfl) ?_
      exact wJ35 p1 h _ _ hP hD hS _ (lv_sub hl [] rfl)
    · refine lv_iload_n hx hb dX3_gives_26 rfl (lv_at hl 1 rfl) ?_
      refine lv_iload_n hx hb dX3_gives_27 rfl (lv_at hl 2 rfl) ?_
      refine lv_imul hx hb dX3_gives_28 ?_
      refine lv_iconst (v := 2) hx hb dX3_gives_29 (by decide) ?_
      refine x_idiv hx hb h dX3_gives_30 (fun h => ?_)
      refine lv_goto (tgt := 35) hx hb dX3_gives_31 (by decide) ?_
      exact wJ35 ((p0 * p1) / 2) h _ _ hP hD hS _ (lv_sub hl [] rfl)
  · refine lv_aload_n hx hb dX3_gives_7 rfl (lv_at hl 0 rfl) ?_
    refine lv_iload_n hx hb dX3_gives_8 rfl (lv_at hl 1 rfl) ?_
    refine lv_iload_n hx hb dX3_gives_9 rfl (lv_at hl 2 rfl) ?_
    refine lv_iload_n hx hb dX3_gives_10 rfl (lv_at hl 3 rfl) ?_
    obtain ⟨v_stack_4, r_5, hc11, h⟩ := bd2_s h
    refine x_selfVi (As := [.int p0, .int p1, .int p2]) (rest := []) (Sta_ok T) S (c_X3_workOut l D cI cS T o hc11) yf_X3_workOut wd9_7 ⟨Nat.le_of_ble_eq_true rfl, Nat.le_of_ble_eq_true rfl⟩ hK hSt hA hP hD hS 0 rfl rfl rfl hl.1 rfl (Nat.le_of_ble_eq_true rfl) dX3_gives_11 (Nat.zero_le _) (Nat.zero_le _) (fun H locs hP hD hS => ?_)
    refine lv_istore (lv' := [(4, .int r_5), (0, .ref (o 0)), (1, .int p0), (2, .int p1), (3, .int p2)]) hx hb dX3_gives_14 hl (by decide) rfl (fun ls hl => ?_)
    refine lv_goto (tgt := 37) hx hb dX3_gives_16 (by decide) ?_
    exact wJ37 v_stack_4 r_5 h _ _ hP hD hS _ (lv_sub hl [0] rfl)

