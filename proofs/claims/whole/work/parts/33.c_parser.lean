def f_X1_next  (v_length : Int32) (v_at : Int32) (v_fault : Int32) (v_bytes : Nat → Int32)  : Option ((Int32)) :=
  (if 0 ≤ v_fault then some ((-1)) else (if v_length ≤ v_at then some ((-1)) else rdA 50 v_bytes v_at (fun x_1 => some (x_1))))
set_option maxHeartbeats 600000 in
set_option maxRecDepth 100000 in
theorem c_X1_next (l : Launch) (D : va_G) (cI cS : ClassId) (T : Nat → Nat) (o : Nat → Nat) {v_codes : Nat → Int32} {v_size : Int32} {v_length : Int32} {v_use : Int32} {v_at : Int32} {v_fault : Int32} {v_bytes : Nat → Int32}   {r_out : Int32} (h : f_X1_next  v_length v_at v_fault v_bytes  = some (r_out)) : MetI l D (tysX cI cS) (Sta T) yX1_next cX1_next 1 (some .int) 0 0 [.ref (o 0)] (pcX1 o cI v_codes v_size v_length v_use v_at v_fault v_bytes) r_out (pcX1 o cI v_codes v_size v_length v_use v_at v_fault v_bytes) := by
  refine Ent.metI (by decide +kernel) (Nat.le_of_ble_eq_true rfl) ?_
  intro p e s m args below meth c A ls hx hb hr hml hown hts hlocks hA hK hSt hP hD hS hl
  have hown : s.vm.findClass RX1 = some m.cls := hown
  have S : XFix p m c cX1_next 1 s args RX1 := ⟨hx, hb, hml, hown, hts⟩
  have hl : lv_has ls 1 [(0, .ref (o 0))] := hl
  unfold f_X1_next at h
  refine lv_aload_n hx hb dX1_next_0 rfl (lv_at hl 0 rfl) ?_
  refine gt_X1_37 S hK hP 0 rfl rfl dX1_next_1 ?_
  refine x_if_ge (tgt := 30) hx hb h dX1_next_4 (by decide) (fun c4 h => ?_) (fun c4 h => ?_)
  · refine lv_iconst (v := (-1)) hx hb dX1_next_30 (by decide) ?_
    cases h
    exact x_iret hx hb hr hlocks hK hP hD hS rfl rfl dX1_next_31
  · refine lv_aload_n hx hb dX1_next_7 rfl (lv_at hl 0 rfl) ?_
    refine gt_X1_31 S hK hP 0 rfl rfl dX1_next_8 ?_
    refine lv_aload_n hx hb dX1_next_11 rfl (lv_at hl 0 rfl) ?_
    refine gt_X1_24 S hK hP 0 rfl rfl dX1_next_12 ?_
    refine x_icmp_ge (tgt := 30) hx hb h dX1_next_15 (by decide) (fun c15 h => ?_) (fun c15 h => ?_)
    · refine lv_iconst (v := (-1)) hx hb dX1_next_30 (by decide) ?_
      cases h
      exact x_iret hx hb hr hlocks hK hP hD hS rfl rfl dX1_next_31
    · refine lv_aload_n hx hb dX1_next_18 rfl (lv_at hl 0 rfl) ?_
      refine gt_X1_15 S hK hP 0 rfl rfl dX1_next_19 ?_
      refine lv_aload_n hx hb dX1_next_22 rfl (lv_at hl 0 rfl) ?_
      refine gt_X1_31 S hK hP 0 rfl rfl dX1_next_23 ?_
      refine x_ald hx hb hK hP 2 h rfl rfl dX1_next_26 (fun x_1 ex_1 h => ?_)
      refine lv_goto (tgt := 31) hx hb dX1_next_27 (by decide) ?_
      cases h
      exact x_iret hx hb hr hlocks hK hP hD hS rfl rfl dX1_next_31

def f_X1_emit  (v_codes : Nat → Int32) (v_size : Int32) (v_fault : Int32) (p0 : Int32) : Option ((Nat → Int32) × (Int32)) :=
  (if 0 ≤ v_fault then some (v_codes, v_size) else (if 50 ≤ v_size then some (v_codes, v_size) else wrA 50 v_codes v_size p0 (fun v_codes_1 => nmA (v_size + 1) (fun v_size_2 => some (v_codes_1, v_size_2)))))
set_option maxHeartbeats 600000 in
set_option maxRecDepth 100000 in
theorem c_X1_emit (l : Launch) (D : va_G) (cI cS : ClassId) (T : Nat → Nat) (o : Nat → Nat) {v_codes : Nat → Int32} {v_size : Int32} {v_length : Int32} {v_use : Int32} {v_at : Int32} {v_fault : Int32} {v_bytes : Nat → Int32} {p0 : Int32} {w_codes : Nat → Int32} {w_size : Int32} (h : f_X1_emit  v_codes v_size v_fault p0 = some (w_codes, w_size)) : MetV l D (tysX cI cS) (Sta T) yX1_emit cX1_emit 2 none 0 0 [.ref (o 0), .int p0] (pcX1 o cI v_codes v_size v_length v_use v_at v_fault v_bytes) (pcX1 o cI w_codes w_size v_length v_use v_at v_fault v_bytes) := by
  refine Ent.metV (by decide +kernel) (Nat.le_of_ble_eq_true rfl) ?_
  intro p e s m args below meth c A ls hx hb hr hml hown hts hlocks hA hK hSt hP hD hS hl
  have hown : s.vm.findClass RX1 = some m.cls := hown
  have S : XFix p m c cX1_emit 2 s args RX1 := ⟨hx, hb, hml, hown, hts⟩
  have hl : lv_has ls 2 [(0, .ref (o 0)), (1, .int p0)] := hl
  unfold f_X1_emit at h
  refine lv_aload_n hx hb dX1_emit_0 rfl (lv_at hl 0 rfl) ?_
  refine gt_X1_37 S hK hP 0 rfl rfl dX1_emit_1 ?_
  refine x_if_ge (tgt := 39) hx hb h dX1_emit_4 (by decide) (fun c4 h => ?_) (fun c4 h => ?_)
  · cases h
    exact x_vret hx hb hr hlocks hK hP hD hS rfl dX1_emit_39
  · refine lv_aload_n hx hb dX1_emit_7 rfl (lv_at hl 0 rfl) ?_
    refine gt_X1_34 S hK hP 0 rfl rfl dX1_emit_8 ?_
    refine lv_aload_n hx hb dX1_emit_11 rfl (lv_at hl 0 rfl) ?_
    refine gt_X1_9 S hK hP 0 rfl rfl dX1_emit_12 ?_
    refine va_alen (v := 50) hx hb hK hP 1 0 rfl rfl (show Int32.ofNat 50 = 50 by decide) dX1_emit_15 ?_
    refine x_icmp_ge (tgt := 39) hx hb h dX1_emit_16 (by decide) (fun c16 h => ?_) (fun c16 h => ?_)
    · cases h
      exact x_vret hx hb hr hlocks hK hP hD hS rfl dX1_emit_39
    · refine lv_aload_n hx hb dX1_emit_19 rfl (lv_at hl 0 rfl) ?_
      refine gt_X1_9 S hK hP 0 rfl rfl dX1_emit_20 ?_
      refine lv_aload_n hx hb dX1_emit_23 rfl (lv_at hl 0 rfl) ?_
      refine gt_X1_34 S hK hP 0 rfl rfl dX1_emit_24 ?_
      refine lv_iload_n hx hb dX1_emit_27 rfl (lv_at hl 1 rfl) ?_
      refine x_ast hx hb hK hP hD hS 1 h rfl rfl dX1_emit_28 (fun v_codes_1 ev_codes_1 h H locs hP hD hS => ?_)
      have hP : va_P D vwCl (pcX1 o cI v_codes_1 v_size v_length v_use v_at v_fault v_bytes) H := hP
      have hD : va_D A (pcX1 o cI v_codes_1 v_size v_length v_use v_at v_fault v_bytes) := hD
      refine lv_aload_n hx hb dX1_emit_29 rfl (lv_at hl 0 rfl) ?_
      refine lv_dup hx hb dX1_emit_30 rfl ?_
      refine gt_X1_34 S hK hP 0 rfl rfl dX1_emit_31 ?_
      refine lv_iconst (v := 1) hx hb dX1_emit_34 (by decide) ?_
      refine lv_iadd hx hb dX1_emit_35 ?_
      refine x_nm h (fun v_size_2 ev_size_2 h => ?_)
      refine pt_X1_34 S hK hP hD hS 0 rfl (Nat.le_of_ble_eq_true rfl) dX1_emit_36 (fun H locs hP hD hS => ?_)
      have hP : va_P D vwCl (pcX1 o cI v_codes_1 v_size_2 v_length v_use v_at v_fault v_bytes) H := hP
      have hD : va_D A (pcX1 o cI v_codes_1 v_size_2 v_length v_use v_at v_fault v_bytes) := hD
      cases h
      exact x_vret hx hb hr hlocks hK hP hD hS rfl dX1_emit_39

def f_X1_readNumber_L4 (v_length : Int32) (v_fault : Int32) (v_bytes : Nat → Int32) (J56 : Int32 → Int32 → Option ((Nat → Int32) × (Int32) × (Int32))) : Nat → Int32 → Int32 → Int32 → Option ((Nat → Int32) × (Int32) × (Int32))
  | 0, _, _, _ => none
  | k_n + 1, v_at_5, l1_6, l2_7 => (if 4 ≤ l2_7 then J56 v_at_5 l1_6 else bd1 (f_X1_next v_length v_at_5 v_fault v_bytes) (fun r_8 => (if r_8 < 48 then J56 v_at_5 l1_6 else bd1 (f_X1_next v_length v_at_5 v_fault v_bytes) (fun r_9 => (if 57 < r_9 then J56 v_at_5 l1_6 else bd1 (f_X1_next v_length v_at_5 v_fault v_bytes) (fun r_10 => nmA (((10 * l1_6) + r_10) - 48) (fun l1_11 => nmA (v_at_5 + 1) (fun v_at_12 => nmA (l2_7 + 1) (fun l2_13 => f_X1_readNumber_L4 v_length v_fault v_bytes J56 k_n v_at_12 l1_11 l2_13)))))))))
def f_X1_readNumber  (v_codes : Nat → Int32) (v_size : Int32) (v_length : Int32) (v_at : Int32) (v_fault : Int32) (v_bytes : Nat → Int32)  : Option ((Nat → Int32) × (Int32) × (Int32)) :=
  jnA (fun (v_at_1 : Int32) (l1_2 : Int32) => bd2 (f_X1_emit v_codes v_size v_fault l1_2) (fun v_codes_3 v_size_4 => some (v_codes_3, v_size_4, v_at_1))) (fun J56 => f_X1_readNumber_L4 v_length v_fault v_bytes J56 300 v_at 0 0)
set_option maxHeartbeats 600000 in
set_option maxRecDepth 100000 in
theorem c_X1_readNumber (l : Launch) (D : va_G) (cI cS : ClassId) (T : Nat → Nat) (o : Nat → Nat) {v_codes : Nat → Int32} {v_size : Int32} {v_length : Int32} {v_use : Int32} {v_at : Int32} {v_fault : Int32} {v_bytes : Nat → Int32}  {w_codes : Nat → Int32} {w_size : Int32} {w_at : Int32} (h : f_X1_readNumber  v_codes v_size v_length v_at v_fault v_bytes  = some (w_codes, w_size, w_at)) : MetV l D (tysX cI cS) (Sta T) yX1_readNumber cX1_readNumber 3 none 1 21 [.ref (o 0)] (pcX1 o cI v_codes v_size v_length v_use v_at v_fault v_bytes) (pcX1 o cI w_codes w_size v_length v_use w_at v_fault v_bytes) := by
  refine Ent.metV (by decide +kernel) (Nat.le_of_ble_eq_true rfl) ?_
  intro p e s m args below meth c A ls hx hb hr hml hown hts hlocks hA hK hSt hP hD hS hl
  have hown : s.vm.findClass RX1 = some m.cls := hown
  have S : XFix p m c cX1_readNumber 3 s args RX1 := ⟨hx, hb, hml, hown, hts⟩
  have hl : lv_has ls 3 [(0, .ref (o 0))] := hl
  unfold f_X1_readNumber at h
  refine lv_iconst (v := 0) hx hb dX1_readNumber_0 (by decide) ?_
  refine lv_istore_n (lv' := [(1, .int 0), (0, .ref (o 0))]) hx hb dX1_readNumber_1 rfl hl (by decide) rfl (fun ls hl => ?_)
  refine lv_iconst (v := 0) hx hb dX1_readNumber_2 (by decide) ?_
  refine lv_istore_n (lv' := [(2, .int 0), (1, .int 0), (0, .ref (o 0))]) hx hb dX1_readNumber_3 rfl hl (by decide) rfl (fun ls hl => ?_)
  obtain ⟨J56, eJ56, h⟩ := jnA_s h
  have wJ56 : ∀ (v_at_1 : Int32) (l1_2 : Int32), J56 v_at_1 l1_2 = some (w_codes, w_size, w_at) → ∀ (H : Heap) (locs : List Loc), va_P D vwCl (pcX1 o cI v_codes v_size v_length v_use v_at_1 v_fault v_bytes) H → va_D A (pcX1 o cI v_codes v_size v_length v_use v_at_1 v_fault v_bytes) → va_S A s.heap H locs → ∀ ls : Array Slot, lv_has ls 3 [(0, .ref (o 0)), (1, .int l1_2)] → WV p l e 1 21 s m args below meth c D (tysX cI cS) A (pcX1 o cI w_codes w_size v_length v_use w_at v_fault v_bytes) H locs (F0 m 56 ls []) := by
      intro v_at_1 l1_2 h H locs hP hD hS ls hl
      subst eJ56
      dsimp only at h
      refine lv_aload_n hx hb dX1_readNumber_56 rfl (lv_at hl 0 rfl) ?_
      refine lv_iload_n hx hb dX1_readNumber_57 rfl (lv_at hl 1 rfl) ?_
      obtain ⟨v_codes_3, v_size_4, hc58, h⟩ := bd2_s h
      refine x_selfVv (As := [.int l1_2]) (rest := []) (Sta_ok T) S (c_X1_emit l D cI cS T o hc58) yf_X1_emit wd18_22 ⟨Nat.le_of_ble_eq_true rfl, Nat.le_of_ble_eq_true rfl⟩ hK hSt hA hP hD hS 0 rfl rfl rfl hl.1 rfl (Nat.le_of_ble_eq_true rfl) dX1_readNumber_58 (Nat.zero_le _) (Nat.zero_le _) (fun H locs hP hD hS => ?_)
      cases h
      exact x_vret hx hb hr hlocks hK hP hD hS rfl dX1_readNumber_61
  have wf_X1_readNumber_L4 : ∀ (k_n : Nat) (v_at_5 : Int32) (l1_6 : Int32) (l2_7 : Int32), f_X1_readNumber_L4 v_length v_fault v_bytes J56 k_n v_at_5 l1_6 l2_7 = some (w_codes, w_size, w_at) → ∀ (H : Heap) (locs : List Loc), va_P D vwCl (pcX1 o cI v_codes v_size v_length v_use v_at_5 v_fault v_bytes) H → va_D A (pcX1 o cI v_codes v_size v_length v_use v_at_5 v_fault v_bytes) → va_S A s.heap H locs → ∀ ls : Array Slot, lv_has ls 3 [(0, .ref (o 0)), (1, .int l1_6), (2, .int l2_7)] → WV p l e 1 21 s m args below meth c D (tysX cI cS) A (pcX1 o cI w_codes w_size v_length v_use w_at v_fault v_bytes) H locs (F0 m 4 ls []) := by
      intro k_n
      induction k_n with
      | zero => intro v_at_5 l1_6 l2_7 h; rw [f_X1_readNumber_L4] at h; cases h
      | succ k_n ih =>
        intro v_at_5 l1_6 l2_7 h H locs hP hD hS ls hl
        rw [f_X1_readNumber_L4] at h
        refine lv_iload_n hx hb dX1_readNumber_4 rfl (lv_at hl 2 rfl) ?_
        refine lv_iconst (v := 4) hx hb dX1_readNumber_5 (by decide) ?_
        refine x_icmp_ge (tgt := 56) hx hb h dX1_readNumber_6 (by decide) (fun c6 h => ?_) (fun c6 h => ?_)
        · exact wJ56 v_at_5 l1_6 h _ _ hP hD hS _ (lv_sub hl [0, 1] rfl)
        · refine lv_aload_n hx hb dX1_readNumber_9 rfl (lv_at hl 0 rfl) ?_
          obtain ⟨r_8, hc10, h⟩ := bd1_s h
          refine x_selfVi (As := []) (rest := []) (Sta_ok T) S (c_X1_next l D cI cS T o hc10) yf_X1_next wd18_14 ⟨Nat.le_of_ble_eq_true rfl, Nat.le_of_ble_eq_true rfl⟩ hK hSt hA hP hD hS 0 rfl rfl rfl hl.1 rfl (Nat.le_of_ble_eq_true rfl) dX1_readNumber_10 (Nat.zero_le _) (Nat.zero_le _) (fun H locs hP hD hS => ?_)
          refine lv_bipush (v := 48) hx hb dX1_readNumber_13 (by decide) ?_
          refine x_icmp_lt (tgt := 56) hx hb h dX1_readNumber_15 (by decide) (fun c15 h => ?_) (fun c15 h => ?_)
          · exact wJ56 v_at_5 l1_6 h _ _ hP hD hS _ (lv_sub hl [0, 1] rfl)
          · refine lv_aload_n hx hb dX1_readNumber_18 rfl (lv_at hl 0 rfl) ?_
            obtain ⟨r_9, hc19, h⟩ := bd1_s h
            refine x_selfVi (As := []) (rest := []) (Sta_ok T) S (c_X1_next l D cI cS T o hc19) yf_X1_next wd18_14 ⟨Nat.le_of_ble_eq_true rfl, Nat.le_of_ble_eq_true rfl⟩ hK hSt hA hP hD hS 0 rfl rfl rfl hl.1 rfl (Nat.le_of_ble_eq_true rfl) dX1_readNumber_19 (Nat.zero_le _) (Nat.zero_le _) (fun H locs hP hD hS => ?_)
            refine lv_bipush (v := 57) hx hb dX1_readNumber_22 (by decide) ?_
            refine x_icmp_gt (tgt := 56) hx hb h dX1_readNumber_24 (by decide) (fun c24 h => ?_) (fun c24 h => ?_)
            · exact wJ56 v_at_5 l1_6 h _ _ hP hD hS _ (lv_sub hl [0, 1] rfl)
            · refine lv_bipush (v := 10) hx hb dX1_readNumber_27 (by decide) ?_
              refine lv_iload_n hx hb dX1_readNumber_29 rfl (lv_at hl 1 rfl) ?_
              refine lv_imul hx hb dX1_readNumber_30 ?_
              refine lv_aload_n hx hb dX1_readNumber_31 rfl (lv_at hl 0 rfl) ?_
              obtain ⟨r_10, hc32, h⟩ := bd1_s h
              refine x_selfVi (As := []) (rest := [.int (10 * l1_6)]) (Sta_ok T) S (c_X1_next l D cI cS T o hc32) yf_X1_next wd18_14 ⟨Nat.le_of_ble_eq_true rfl, Nat.le_of_ble_eq_true rfl⟩ hK hSt hA hP hD hS 0 rfl rfl rfl hl.1 rfl (Nat.le_of_ble_eq_true rfl) dX1_readNumber_32 (Nat.zero_le _) (Nat.zero_le _) (fun H locs hP hD hS => ?_)
              refine lv_iadd hx hb dX1_readNumber_35 ?_
              refine lv_bipush (v := 48) hx hb dX1_readNumber_36 (by decide) ?_
              refine lv_isub hx hb dX1_readNumber_38 ?_
              refine x_nm h (fun l1_11 el1_11 h => ?_)
              refine lv_istore_n (lv' := [(1, .int l1_11), (0, .ref (o 0)), (2, .int l2_7)]) hx hb dX1_readNumber_39 rfl hl (by decide) rfl (fun ls hl => ?_)
              refine lv_aload_n hx hb dX1_readNumber_40 rfl (lv_at hl 1 rfl) ?_
              refine lv_dup hx hb dX1_readNumber_41 rfl ?_
              refine gt_X1_31 S hK hP 0 rfl rfl dX1_readNumber_42 ?_
              refine lv_iconst (v := 1) hx hb dX1_readNumber_45 (by decide) ?_
              refine lv_iadd hx hb dX1_readNumber_46 ?_
              refine x_nm h (fun v_at_12 ev_at_12 h => ?_)
              refine pt_X1_31 S hK hP hD hS 0 rfl (Nat.le_of_ble_eq_true rfl) dX1_readNumber_47 (fun H locs hP hD hS => ?_)
              have hP : va_P D vwCl (pcX1 o cI v_codes v_size v_length v_use v_at_12 v_fault v_bytes) H := hP
              have hD : va_D A (pcX1 o cI v_codes v_size v_length v_use v_at_12 v_fault v_bytes) := hD
              obtain ⟨l2_13, el2_13, h⟩ := nmA_s h
              refine lv_iinc (v := l2_13) (lv' := [(2, .int l2_13), (1, .int l1_11), (0, .ref (o 0))]) hx hb dX1_readNumber_50 hl (k := 2) rfl (by rw [el2_13]; exact congrArg _ (by decide)) (by decide) rfl (fun ls hl => ?_)
              refine lv_goto (tgt := 4) hx hb dX1_readNumber_53 (by decide) ?_
              exact ih v_at_12 l1_11 l2_13 h _ _ hP hD hS _ (lv_sub hl [2, 1, 0] rfl)
  exact wf_X1_readNumber_L4 300 v_at 0 0 h _ _ hP hD hS _ (lv_sub hl [2, 1, 0] rfl)

def f_X1_nameOf  (v_use : Int32) (p0 : Int32) : Option ((Int32)) :=
  (if p0 = 99 then (if v_use = 0 then some (1) else some (0)) else (if p0 = 100 then (if v_use = 1 then some (1) else some (0)) else (if p0 = 104 then (if v_use = 0 then some (3) else some (0)) else (if p0 = 108 then (if v_use = 1 then some (3) else some (0)) else (if p0 = 111 then (if v_use = 0 then some (2) else some (0)) else (if p0 = 119 then (if v_use = 1 then some (2) else some (0)) else some (0)))))))
set_option maxHeartbeats 600000 in
set_option maxRecDepth 100000 in
theorem c_X1_nameOf (l : Launch) (D : va_G) (cI cS : ClassId) (T : Nat → Nat) (o : Nat → Nat) {v_codes : Nat → Int32} {v_size : Int32} {v_length : Int32} {v_use : Int32} {v_at : Int32} {v_fault : Int32} {v_bytes : Nat → Int32} {p0 : Int32}  {r_out : Int32} (h : f_X1_nameOf  v_use p0 = some (r_out)) : MetI l D (tysX cI cS) (Sta T) yX1_nameOf cX1_nameOf 2 (some .int) 0 0 [.ref (o 0), .int p0] (pcX1 o cI v_codes v_size v_length v_use v_at v_fault v_bytes) r_out (pcX1 o cI v_codes v_size v_length v_use v_at v_fault v_bytes) := by
  refine Ent.metI (by decide +kernel) (Nat.le_of_ble_eq_true rfl) ?_
  intro p e s m args below meth c A ls hx hb hr hml hown hts hlocks hA hK hSt hP hD hS hl
  have hown : s.vm.findClass RX1 = some m.cls := hown
  have S : XFix p m c cX1_nameOf 2 s args RX1 := ⟨hx, hb, hml, hown, hts⟩
  have hl : lv_has ls 2 [(0, .ref (o 0)), (1, .int p0)] := hl
  unfold f_X1_nameOf at h
  refine lv_iload_n hx hb dX1_nameOf_0 rfl (lv_at hl 1 rfl) ?_
  by_cases c1_0 : p0 = 99
  · replace h := ite_t c1_0 h
    refine lv_lookup (off := 59) (tgt := 60) hx hb dX1_nameOf_1 (by decide +kernel) (by rw [c1_0]; decide +kernel) (by decide) ?_
    refine lv_aload_n hx hb dX1_nameOf_60 rfl (lv_at hl 0 rfl) ?_
    refine gt_X1_28 S hK hP 0 rfl rfl dX1_nameOf_61 ?_
    refine x_if_ne (tgt := 71) hx hb h dX1_nameOf_64 (by decide) (fun c64 h => ?_) (fun c64 h => ?_)
    · refine lv_iconst (v := 0) hx hb dX1_nameOf_71 (by decide) ?_
      cases h
      exact x_iret hx hb hr hlocks hK hP hD hS rfl rfl dX1_nameOf_72
    · refine lv_iconst (v := 1) hx hb dX1_nameOf_67 (by decide) ?_
      refine lv_goto (tgt := 72) hx hb dX1_nameOf_68 (by decide) ?_
      cases h
      exact x_iret hx hb hr hlocks hK hP hD hS rfl rfl dX1_nameOf_72
  replace h := ite_f c1_0 h
  by_cases c1_1 : p0 = 100
  · replace h := ite_t c1_1 h
    refine lv_lookup (off := 98) (tgt := 99) hx hb dX1_nameOf_1 (by decide +kernel) (by rw [c1_1]; decide +kernel) (by decide) ?_
    refine lv_aload_n hx hb dX1_nameOf_99 rfl (lv_at hl 0 rfl) ?_
    refine gt_X1_28 S hK hP 0 rfl rfl dX1_nameOf_100 ?_
    refine lv_iconst (v := 1) hx hb dX1_nameOf_103 (by decide) ?_
    refine x_icmp_ne (tgt := 111) hx hb h dX1_nameOf_104 (by decide) (fun c104 h => ?_) (fun c104 h => ?_)
    · refine lv_iconst (v := 0) hx hb dX1_nameOf_111 (by decide) ?_
      cases h
      exact x_iret hx hb hr hlocks hK hP hD hS rfl rfl dX1_nameOf_112
    · refine lv_iconst (v := 1) hx hb dX1_nameOf_107 (by decide) ?_
      refine lv_goto (tgt := 112) hx hb dX1_nameOf_108 (by decide) ?_
      cases h
      exact x_iret hx hb hr hlocks hK hP hD hS rfl rfl dX1_nameOf_112
  replace h := ite_f c1_1 h
  by_cases c1_2 : p0 = 104
  · replace h := ite_t c1_2 h
    refine lv_lookup (off := 85) (tgt := 86) hx hb dX1_nameOf_1 (by decide +kernel) (by rw [c1_2]; decide +kernel) (by decide) ?_
    refine lv_aload_n hx hb dX1_nameOf_86 rfl (lv_at hl 0 rfl) ?_
    refine gt_X1_28 S hK hP 0 rfl rfl dX1_nameOf_87 ?_
    refine x_if_ne (tgt := 97) hx hb h dX1_nameOf_90 (by decide) (fun c90 h => ?_) (fun c90 h => ?_)
    · refine lv_iconst (v := 0) hx hb dX1_nameOf_97 (by decide) ?_
      cases h
      exact x_iret hx hb hr hlocks hK hP hD hS rfl rfl dX1_nameOf_98
    · refine lv_iconst (v := 3) hx hb dX1_nameOf_93 (by decide) ?_
      refine lv_goto (tgt := 98) hx hb dX1_nameOf_94 (by decide) ?_
      cases h
      exact x_iret hx hb hr hlocks hK hP hD hS rfl rfl dX1_nameOf_98
  replace h := ite_f c1_2 h
  by_cases c1_3 : p0 = 108
  · replace h := ite_t c1_3 h
    refine lv_lookup (off := 126) (tgt := 127) hx hb dX1_nameOf_1 (by decide +kernel) (by rw [c1_3]; decide +kernel) (by decide) ?_
    refine lv_aload_n hx hb dX1_nameOf_127 rfl (lv_at hl 0 rfl) ?_
    refine gt_X1_28 S hK hP 0 rfl rfl dX1_nameOf_128 ?_
    refine lv_iconst (v := 1) hx hb dX1_nameOf_131 (by decide) ?_
    refine x_icmp_ne (tgt := 139) hx hb h dX1_nameOf_132 (by decide) (fun c132 h => ?_) (fun c132 h => ?_)
    · refine lv_iconst (v := 0) hx hb dX1_nameOf_139 (by decide) ?_
      cases h
      exact x_iret hx hb hr hlocks hK hP hD hS rfl rfl dX1_nameOf_140
    · refine lv_iconst (v := 3) hx hb dX1_nameOf_135 (by decide) ?_
      refine lv_goto (tgt := 140) hx hb dX1_nameOf_136 (by decide) ?_
      cases h
      exact x_iret hx hb hr hlocks hK hP hD hS rfl rfl dX1_nameOf_140
  replace h := ite_f c1_3 h
  by_cases c1_4 : p0 = 111
  · replace h := ite_t c1_4 h
    refine lv_lookup (off := 72) (tgt := 73) hx hb dX1_nameOf_1 (by decide +kernel) (by rw [c1_4]; decide +kernel) (by decide) ?_
    refine lv_aload_n hx hb dX1_nameOf_73 rfl (lv_at hl 0 rfl) ?_
    refine gt_X1_28 S hK hP 0 rfl rfl dX1_nameOf_74 ?_
    refine x_if_ne (tgt := 84) hx hb h dX1_nameOf_77 (by decide) (fun c77 h => ?_) (fun c77 h => ?_)
    · refine lv_iconst (v := 0) hx hb dX1_nameOf_84 (by decide) ?_
      cases h
      exact x_iret hx hb hr hlocks hK hP hD hS rfl rfl dX1_nameOf_85
    · refine lv_iconst (v := 2) hx hb dX1_nameOf_80 (by decide) ?_
      refine lv_goto (tgt := 85) hx hb dX1_nameOf_81 (by decide) ?_
      cases h
      exact x_iret hx hb hr hlocks hK hP hD hS rfl rfl dX1_nameOf_85
  replace h := ite_f c1_4 h
  by_cases c1_5 : p0 = 119
  · replace h := ite_t c1_5 h
    refine lv_lookup (off := 112) (tgt := 113) hx hb dX1_nameOf_1 (by decide +kernel) (by rw [c1_5]; decide +kernel) (by decide) ?_
    refine lv_aload_n hx hb dX1_nameOf_113 rfl (lv_at hl 0 rfl) ?_
    refine gt_X1_28 S hK hP 0 rfl rfl dX1_nameOf_114 ?_
    refine lv_iconst (v := 1) hx hb dX1_nameOf_117 (by decide) ?_
    refine x_icmp_ne (tgt := 125) hx hb h dX1_nameOf_118 (by decide) (fun c118 h => ?_) (fun c118 h => ?_)
    · refine lv_iconst (v := 0) hx hb dX1_nameOf_125 (by decide) ?_
      cases h
      exact x_iret hx hb hr hlocks hK hP hD hS rfl rfl dX1_nameOf_126
    · refine lv_iconst (v := 2) hx hb dX1_nameOf_121 (by decide) ?_
      refine lv_goto (tgt := 126) hx hb dX1_nameOf_122 (by decide) ?_
      cases h
      exact x_iret hx hb hr hlocks hK hP hD hS rfl rfl dX1_nameOf_126
  replace h := ite_f c1_5 h
  refine lv_lookup (off := 140) (tgt := 141) hx hb dX1_nameOf_1 (by decide +kernel) (by show Op.lookupswitch.offset [(99, 59), (100, 98), (104, 85), (108, 126), (111, 72), (119, 112)] 140 (p0).toInt = 140; rw [lv_osw c1_0 (by decide), lv_osw c1_1 (by decide), lv_osw c1_2 (by decide), lv_osw c1_3 (by decide), lv_osw c1_4 (by decide), lv_osw c1_5 (by decide)]; rfl) (by decide) ?_
  refine lv_iconst (v := 0) hx hb dX1_nameOf_141 (by decide) ?_
  cases h
  exact x_iret hx hb hr hlocks hK hP hD hS rfl rfl dX1_nameOf_142

def f_X1_stop  (v_at : Int32) (v_fault : Int32)  : Option ((Int32)) :=
  (if 0 ≤ v_fault then some (v_fault) else some (v_at))
set_option maxHeartbeats 600000 in
set_option maxRecDepth 100000 in
theorem c_X1_stop (l : Launch) (D : va_G) (cI cS : ClassId) (T : Nat → Nat) (o : Nat → Nat) {v_codes : Nat → Int32} {v_size : Int32} {v_length : Int32} {v_use : Int32} {v_at : Int32} {v_fault : Int32} {v_bytes : Nat → Int32}  {w_fault : Int32} (h : f_X1_stop  v_at v_fault  = some (w_fault)) : MetV l D (tysX cI cS) (Sta T) yX1_stop cX1_stop 1 none 0 0 [.ref (o 0)] (pcX1 o cI v_codes v_size v_length v_use v_at v_fault v_bytes) (pcX1 o cI v_codes v_size v_length v_use v_at w_fault v_bytes) := by
  refine Ent.metV (by decide +kernel) (Nat.le_of_ble_eq_true rfl) ?_
  intro p e s m args below meth c A ls hx hb hr hml hown hts hlocks hA hK hSt hP hD hS hl
  have hown : s.vm.findClass RX1 = some m.cls := hown
  have S : XFix p m c cX1_stop 1 s args RX1 := ⟨hx, hb, hml, hown, hts⟩
  have hl : lv_has ls 1 [(0, .ref (o 0))] := hl
  unfold f_X1_stop at h
  refine lv_aload_n hx hb dX1_stop_0 rfl (lv_at hl 0 rfl) ?_
  refine gt_X1_37 S hK hP 0 rfl rfl dX1_stop_1 ?_
  refine x_if_ge (tgt := 15) hx hb h dX1_stop_4 (by decide) (fun c4 h => ?_) (fun c4 h => ?_)
  · cases h
    exact x_vret hx hb hr hlocks hK hP hD hS rfl dX1_stop_15
  · refine lv_aload_n hx hb dX1_stop_7 rfl (lv_at hl 0 rfl) ?_
    refine lv_aload_n hx hb dX1_stop_8 rfl (lv_at hl 0 rfl) ?_
    refine gt_X1_31 S hK hP 0 rfl rfl dX1_stop_9 ?_
    refine pt_X1_37 S hK hP hD hS 0 rfl (Nat.le_of_ble_eq_true rfl) dX1_stop_12 (fun H locs hP hD hS => ?_)
    have hP : va_P D vwCl (pcX1 o cI v_codes v_size v_length v_use v_at v_at v_bytes) H := hP
    have hD : va_D A (pcX1 o cI v_codes v_size v_length v_use v_at v_at v_bytes) := hD
    cases h
    exact x_vret hx hb hr hlocks hK hP hD hS rfl dX1_stop_15

def f_X1_close  (v_length : Int32) (v_at : Int32) (v_fault : Int32) (v_bytes : Nat → Int32)  : Option ((Int32) × (Int32)) :=
  bd1 (f_X1_next v_length v_at v_fault v_bytes) (fun r_1 => (if r_1 = 41 then nmA (v_at + 1) (fun v_at_3 => some (v_at_3, v_fault)) else bd1 (f_X1_stop v_at v_fault) (fun v_fault_2 => some (v_at, v_fault_2))))
set_option maxHeartbeats 600000 in
set_option maxRecDepth 100000 in
theorem c_X1_close (l : Launch) (D : va_G) (cI cS : ClassId) (T : Nat → Nat) (o : Nat → Nat) {v_codes : Nat → Int32} {v_size : Int32} {v_length : Int32} {v_use : Int32} {v_at : Int32} {v_fault : Int32} {v_bytes : Nat → Int32}  {w_at : Int32} {w_fault : Int32} (h : f_X1_close  v_length v_at v_fault v_bytes  = some (w_at, w_fault)) : MetV l D (tysX cI cS) (Sta T) yX1_close cX1_close 1 none 1 20 [.ref (o 0)] (pcX1 o cI v_codes v_size v_length v_use v_at v_fault v_bytes) (pcX1 o cI v_codes v_size v_length v_use w_at w_fault v_bytes) := by
  refine Ent.metV (by decide +kernel) (Nat.le_of_ble_eq_true rfl) ?_
  intro p e s m args below meth c A ls hx hb hr hml hown hts hlocks hA hK hSt hP hD hS hl
  have hown : s.vm.findClass RX1 = some m.cls := hown
  have S : XFix p m c cX1_close 1 s args RX1 := ⟨hx, hb, hml, hown, hts⟩
  have hl : lv_has ls 1 [(0, .ref (o 0))] := hl
  unfold f_X1_close at h
  refine lv_aload_n hx hb dX1_close_0 rfl (lv_at hl 0 rfl) ?_
  obtain ⟨r_1, hc1, h⟩ := bd1_s h
  refine x_selfVi (As := []) (rest := []) (Sta_ok T) S (c_X1_next l D cI cS T o hc1) yf_X1_next wd18_14 ⟨Nat.le_of_ble_eq_true rfl, Nat.le_of_ble_eq_true rfl⟩ hK hSt hA hP hD hS 0 rfl rfl rfl hl.1 rfl (Nat.le_of_ble_eq_true rfl) dX1_close_1 (Nat.zero_le _) (Nat.zero_le _) (fun H locs hP hD hS => ?_)
  refine lv_bipush (v := 41) hx hb dX1_close_4 (by decide) ?_
  refine x_icmp_ne (tgt := 22) hx hb h dX1_close_6 (by decide) (fun c6 h => ?_) (fun c6 h => ?_)
  · refine lv_aload_n hx hb dX1_close_22 rfl (lv_at hl 0 rfl) ?_
    obtain ⟨v_fault_2, hc23, h⟩ := bd1_s h
    refine x_selfVv (As := []) (rest := []) (Sta_ok T) S (c_X1_stop l D cI cS T o hc23) yf_X1_stop wd19_15 ⟨Nat.le_of_ble_eq_true rfl, Nat.le_of_ble_eq_true rfl⟩ hK hSt hA hP hD hS 0 rfl rfl rfl hl.1 rfl (Nat.le_of_ble_eq_true rfl) dX1_close_23 (Nat.zero_le _) (Nat.zero_le _) (fun H locs hP hD hS => ?_)
    cases h
    exact x_vret hx hb hr hlocks hK hP hD hS rfl dX1_close_26
  · refine lv_aload_n hx hb dX1_close_9 rfl (lv_at hl 0 rfl) ?_
    refine lv_dup hx hb dX1_close_10 rfl ?_
    refine gt_X1_31 S hK hP 0 rfl rfl dX1_close_11 ?_
    refine lv_iconst (v := 1) hx hb dX1_close_14 (by decide) ?_
    refine lv_iadd hx hb dX1_close_15 ?_
    refine x_nm h (fun v_at_3 ev_at_3 h => ?_)
    refine pt_X1_31 S hK hP hD hS 0 rfl (Nat.le_of_ble_eq_true rfl) dX1_close_16 (fun H locs hP hD hS => ?_)
    have hP : va_P D vwCl (pcX1 o cI v_codes v_size v_length v_use v_at_3 v_fault v_bytes) H := hP
    have hD : va_D A (pcX1 o cI v_codes v_size v_length v_use v_at_3 v_fault v_bytes) := hD
    refine lv_goto (tgt := 26) hx hb dX1_close_19 (by decide) ?_
    cases h
    exact x_vret hx hb hr hlocks hK hP hD hS rfl dX1_close_26

def f_X1_levelOf   (p0 : Int32) : Option ((Int32)) :=
  (if p0 = 37 then some (4) else (if p0 = 38 then some (1) else (if p0 = 42 then some (4) else (if p0 = 43 then some (3) else (if p0 = 45 then some (3) else (if p0 = 47 then some (4) else (if p0 = 60 then some (2) else (if p0 = 61 then some (2) else (if p0 = 62 then some (2) else (if p0 = 124 then some (0) else some ((-1))))))))))))
set_option maxHeartbeats 600000 in
set_option maxRecDepth 100000 in
theorem c_X1_levelOf (l : Launch) (D : va_G) (cI cS : ClassId) (T : Nat → Nat) (o : Nat → Nat) {v_codes : Nat → Int32} {v_size : Int32} {v_length : Int32} {v_use : Int32} {v_at : Int32} {v_fault : Int32} {v_bytes : Nat → Int32} {p0 : Int32}  {r_out : Int32} (h : f_X1_levelOf   p0 = some (r_out)) : MetI l D (tysX cI cS) (Sta T) yX1_levelOf cX1_levelOf 2 (some .int) 0 0 [.ref (o 0), .int p0] (pcX1 o cI v_codes v_size v_length v_use v_at v_fault v_bytes) r_out (pcX1 o cI v_codes v_size v_length v_use v_at v_fault v_bytes) := by
  refine Ent.metI (by decide +kernel) (Nat.le_of_ble_eq_true rfl) ?_
  intro p e s m args below meth c A ls hx hb hr hml hown hts hlocks hA hK hSt hP hD hS hl
  have hown : s.vm.findClass RX1 = some m.cls := hown
  have S : XFix p m c cX1_levelOf 2 s args RX1 := ⟨hx, hb, hml, hown, hts⟩
  have hl : lv_has ls 2 [(0, .ref (o 0)), (1, .int p0)] := hl
  unfold f_X1_levelOf at h
  refine lv_iload_n hx hb dX1_levelOf_0 rfl (lv_at hl 1 rfl) ?_
  by_cases c1_0 : p0 = 37
  · replace h := ite_t c1_0 h
    refine lv_lookup (off := 99) (tgt := 100) hx hb dX1_levelOf_1 (by decide +kernel) (by rw [c1_0]; decide +kernel) (by decide) ?_
    refine lv_iconst (v := 4) hx hb dX1_levelOf_100 (by decide) ?_
    cases h
    exact x_iret hx hb hr hlocks hK hP hD hS rfl rfl dX1_levelOf_101
  replace h := ite_f c1_0 h
  by_cases c1_1 : p0 = 38
  · replace h := ite_t c1_1 h
    refine lv_lookup (off := 93) (tgt := 94) hx hb dX1_levelOf_1 (by decide +kernel) (by rw [c1_1]; decide +kernel) (by decide) ?_
    refine lv_iconst (v := 1) hx hb dX1_levelOf_94 (by decide) ?_
    cases h
    exact x_iret hx hb hr hlocks hK hP hD hS rfl rfl dX1_levelOf_95
  replace h := ite_f c1_1 h
  by_cases c1_2 : p0 = 42
  · replace h := ite_t c1_2 h
    refine lv_lookup (off := 99) (tgt := 100) hx hb dX1_levelOf_1 (by decide +kernel) (by rw [c1_2]; decide +kernel) (by decide) ?_
    refine lv_iconst (v := 4) hx hb dX1_levelOf_100 (by decide) ?_
    cases h
    exact x_iret hx hb hr hlocks hK hP hD hS rfl rfl dX1_levelOf_101
  replace h := ite_f c1_2 h
  by_cases c1_3 : p0 = 43
  · replace h := ite_t c1_3 h
    refine lv_lookup (off := 97) (tgt := 98) hx hb dX1_levelOf_1 (by decide +kernel) (by rw [c1_3]; decide +kernel) (by decide) ?_
    refine lv_iconst (v := 3) hx hb dX1_levelOf_98 (by decide) ?_
    cases h
    exact x_iret hx hb hr hlocks hK hP hD hS rfl rfl dX1_levelOf_99
  replace h := ite_f c1_3 h
  by_cases c1_4 : p0 = 45
  · replace h := ite_t c1_4 h
    refine lv_lookup (off := 97) (tgt := 98) hx hb dX1_levelOf_1 (by decide +kernel) (by rw [c1_4]; decide +kernel) (by decide) ?_
    refine lv_iconst (v := 3) hx hb dX1_levelOf_98 (by decide) ?_
    cases h
    exact x_iret hx hb hr hlocks hK hP hD hS rfl rfl dX1_levelOf_99
  replace h := ite_f c1_4 h
  by_cases c1_5 : p0 = 47
  · replace h := ite_t c1_5 h
    refine lv_lookup (off := 99) (tgt := 100) hx hb dX1_levelOf_1 (by decide +kernel) (by rw [c1_5]; decide +kernel) (by decide) ?_
    refine lv_iconst (v := 4) hx hb dX1_levelOf_100 (by decide) ?_
    cases h
    exact x_iret hx hb hr hlocks hK hP hD hS rfl rfl dX1_levelOf_101
  replace h := ite_f c1_5 h
  by_cases c1_6 : p0 = 60
  · replace h := ite_t c1_6 h
    refine lv_lookup (off := 95) (tgt := 96) hx hb dX1_levelOf_1 (by decide +kernel) (by rw [c1_6]; decide +kernel) (by decide) ?_
    refine lv_iconst (v := 2) hx hb dX1_levelOf_96 (by decide) ?_
    cases h
    exact x_iret hx hb hr hlocks hK hP hD hS rfl rfl dX1_levelOf_97
  replace h := ite_f c1_6 h
  by_cases c1_7 : p0 = 61
  · replace h := ite_t c1_7 h
    refine lv_lookup (off := 95) (tgt := 96) hx hb dX1_levelOf_1 (by decide +kernel) (by rw [c1_7]; decide +kernel) (by decide) ?_
    refine lv_iconst (v := 2) hx hb dX1_levelOf_96 (by decide) ?_
    cases h
    exact x_iret hx hb hr hlocks hK hP hD hS rfl rfl dX1_levelOf_97
  replace h := ite_f c1_7 h
  by_cases c1_8 : p0 = 62
  · replace h := ite_t c1_8 h
    refine lv_lookup (off := 95) (tgt := 96) hx hb dX1_levelOf_1 (by decide +kernel) (by rw [c1_8]; decide +kernel) (by decide) ?_
    refine lv_iconst (v := 2) hx hb dX1_levelOf_96 (by decide) ?_
    cases h
    exact x_iret hx hb hr hlocks hK hP hD hS rfl rfl dX1_levelOf_97
  replace h := ite_f c1_8 h
  by_cases c1_9 : p0 = 124
  · replace h := ite_t c1_9 h
    refine lv_lookup (off := 91) (tgt := 92) hx hb dX1_levelOf_1 (by decide +kernel) (by rw [c1_9]; decide +kernel) (by decide) ?_
    refine lv_iconst (v := 0) hx hb dX1_levelOf_92 (by decide) ?_
    cases h
    exact x_iret hx hb hr hlocks hK hP hD hS rfl rfl dX1_levelOf_93
  replace h := ite_f c1_9 h
  refine lv_lookup (off := 101) (tgt := 102) hx hb dX1_levelOf_1 (by decide +kernel) (by show Op.lookupswitch.offset [(37, 99), (38, 93), (42, 99), (43, 97), (45, 97), (47, 99), (60, 95), (61, 95), (62, 95), (124, 91)] 101 (p0).toInt = 101; rw [lv_osw c1_0 (by decide), lv_osw c1_1 (by decide), lv_osw c1_2 (by decide), lv_osw c1_3 (by decide), lv_osw c1_4 (by decide), lv_osw c1_5 (by decide), lv_osw c1_6 (by decide), lv_osw c1_7 (by decide), lv_osw c1_8 (by decide), lv_osw c1_9 (by decide)]; rfl) (by decide) ?_
  refine lv_iconst (v := (-1)) hx hb dX1_levelOf_102 (by decide) ?_
  cases h
  exact x_iret hx hb hr hlocks hK hP hD hS rfl rfl dX1_levelOf_103

def f_X1_readLevelB_L34 (rc0 : (Nat → Int32) → (Int32) → (Int32) → (Int32) → (Int32) → (Int32) → (Nat → Int32) → Int32 → Int32 → Option ((Nat → Int32) × (Int32) × (Int32) × (Int32))) (v_length : Int32) (v_use : Int32) (v_bytes : Nat → Int32) (p0 : Int32) (p1 : Int32) (t0_5 : Int32) : Nat → (Nat → Int32) → Int32 → Int32 → Int32 → Int32 → Option ((Nat → Int32) × (Int32) × (Int32) × (Int32))
  | 0, _, _, _, _, _ => none
  | k_n + 1, v_codes_6, v_size_7, v_at_8, v_fault_9, l4_10 => (if t0_5 ≤ l4_10 then some (v_codes_6, v_size_7, v_at_8, v_fault_9) else bd1 (f_X1_next v_length v_at_8 v_fault_9 v_bytes) (fun r_11 => bd1 (f_X1_levelOf r_11) (fun r_12 => (if r_12 = p0 then bd1 (f_X1_next v_length v_at_8 v_fault_9 v_bytes) (fun r_13 => nmA (v_at_8 + 1) (fun v_at_14 => bd4 (rc0 v_codes_6 v_size_7 v_length v_use v_at_14 v_fault_9 v_bytes (p0 + 1) p1) (fun v_codes_15 v_size_16 v_at_17 v_fault_18 => bd2 (f_X1_emit v_codes_15 v_size_16 v_fault_18 (-r_13)) (fun v_codes_19 v_size_20 => nmA (l4_10 + 1) (fun l4_21 => f_X1_readLevelB_L34 rc0 v_length v_use v_bytes p0 p1 t0_5 k_n v_codes_19 v_size_20 v_at_17 v_fault_18 l4_21))))) else some (v_codes_6, v_size_7, v_at_8, v_fault_9)))))
def f_X1_readLevelB (rc0 : (Nat → Int32) → (Int32) → (Int32) → (Int32) → (Int32) → (Int32) → (Nat → Int32) → Int32 → Int32 → Option ((Nat → Int32) × (Int32) × (Int32) × (Int32))) (rc1 : (Nat → Int32) → (Int32) → (Int32) → (Int32) → (Int32) → (Int32) → (Nat → Int32) → Int32 → Option ((Nat → Int32) × (Int32) × (Int32) × (Int32))) (v_codes : Nat → Int32) (v_size : Int32) (v_length : Int32) (v_use : Int32) (v_at : Int32) (v_fault : Int32) (v_bytes : Nat → Int32) (p0 : Int32) (p1 : Int32) : Option ((Nat → Int32) × (Int32) × (Int32) × (Int32)) :=
  (if p0 < 5 then bd4 (rc0 v_codes v_size v_length v_use v_at v_fault v_bytes (p0 + 1) p1) (fun v_codes_1 v_size_2 v_at_3 v_fault_4 => jnA (fun (t0_5 : Int32) => f_X1_readLevelB_L34 rc0 v_length v_use v_bytes p0 p1 t0_5 300 v_codes_1 v_size_2 v_at_3 v_fault_4 0) (fun J30 => (if p0 = 2 then J30 1 else J30 50))) else bd4 (rc1 v_codes v_size v_length v_use v_at v_fault v_bytes p1) (fun v_codes_22 v_size_23 v_at_24 v_fault_25 => some (v_codes_22, v_size_23, v_at_24, v_fault_25)))
set_option maxHeartbeats 600000 in
set_option maxRecDepth 100000 in
theorem c_X1_readLevelB (l : Launch) (D : va_G) (cI cS : ClassId) (T : Nat → Nat) (o : Nat → Nat) (rc0 : (Nat → Int32) → (Int32) → (Int32) → (Int32) → (Int32) → (Int32) → (Nat → Int32) → Int32 → Int32 → Option ((Nat → Int32) × (Int32) × (Int32) × (Int32))) (rc1 : (Nat → Int32) → (Int32) → (Int32) → (Int32) → (Int32) → (Int32) → (Nat → Int32) → Int32 → Option ((Nat → Int32) × (Int32) × (Int32) × (Int32))) (fr lo : Nat) (hrc0 : ∀ (v_codes : Nat → Int32) (v_size : Int32) (v_length : Int32) (v_use : Int32) (v_at : Int32) (v_fault : Int32) (v_bytes : Nat → Int32) (p0 : Int32) (p1 : Int32) (w_codes : Nat → Int32) (w_size : Int32) (w_at : Int32) (w_fault : Int32), rc0 v_codes v_size v_length v_use v_at v_fault v_bytes p0 p1 = some (w_codes, w_size, w_at, w_fault) → MetV l D (tysX cI cS) (Sta T) yX1_readLevel cX1_readLevel 6 none fr lo [.ref (o 0), .int p0, .int p1] (pcX1 o cI v_codes v_size v_length v_use v_at v_fault v_bytes) (pcX1 o cI w_codes w_size v_length v_use w_at w_fault v_bytes)) (hrc1 : ∀ (v_codes : Nat → Int32) (v_size : Int32) (v_length : Int32) (v_use : Int32) (v_at : Int32) (v_fault : Int32) (v_bytes : Nat → Int32) (p0 : Int32) (w_codes : Nat → Int32) (w_size : Int32) (w_at : Int32) (w_fault : Int32), rc1 v_codes v_size v_length v_use v_at v_fault v_bytes p0 = some (w_codes, w_size, w_at, w_fault) → MetV l D (tysX cI cS) (Sta T) yX1_readQ cX1_readQ 3 none fr lo [.ref (o 0), .int p0] (pcX1 o cI v_codes v_size v_length v_use v_at v_fault v_bytes) (pcX1 o cI w_codes w_size v_length v_use w_at w_fault v_bytes)) {v_codes : Nat → Int32} {v_size : Int32} {v_length : Int32} {v_use : Int32} {v_at : Int32} {v_fault : Int32} {v_bytes : Nat → Int32} {p0 : Int32} {p1 : Int32} {w_codes : Nat → Int32} {w_size : Int32} {w_at : Int32} {w_fault : Int32} (h : f_X1_readLevelB rc0 rc1 v_codes v_size v_length v_use v_at v_fault v_bytes p0 p1 = some (w_codes, w_size, w_at, w_fault)) : MetV l D (tysX cI cS) (Sta T) yX1_readLevel cX1_readLevel 6 none (fr + 2) (lo + 43) [.ref (o 0), .int p0, .int p1] (pcX1 o cI v_codes v_size v_length v_use v_at v_fault v_bytes) (pcX1 o cI w_codes w_size v_length v_use w_at w_fault v_bytes) := by
  refine Ent.metV (by decide +kernel) (Nat.le_of_ble_eq_true rfl) ?_
  intro p e s m args below meth c A ls hx hb hr hml hown hts hlocks hA hK hSt hP hD hS hl
  have hown : s.vm.findClass RX1 = some m.cls := hown
  have S : XFix p m c cX1_readLevel 6 s args RX1 := ⟨hx, hb, hml, hown, hts⟩
  have hl : lv_has ls 6 [(0, .ref (o 0)), (1, .int p0), (2, .int p1)] := hl
  unfold f_X1_readLevelB at h
  refine lv_iload_n hx hb dX1_readLevel_0 rfl (lv_at hl 1 rfl) ?_
  refine lv_iconst (v := 5) hx hb dX1_readLevel_1 (by decide) ?_
  refine x_icmp_lt (tgt := 11) hx hb h dX1_readLevel_2 (by decide) (fun c2 h => ?_) (fun c2 h => ?_)
  · refine lv_aload_n hx hb dX1_readLevel_11 rfl (lv_at hl 0 rfl) ?_
    refine lv_iload_n hx hb dX1_readLevel_12 rfl (lv_at hl 1 rfl) ?_
    refine lv_iconst (v := 1) hx hb dX1_readLevel_13 (by decide) ?_
    refine lv_iadd hx hb dX1_readLevel_14 ?_
    refine lv_iload_n hx hb dX1_readLevel_15 rfl (lv_at hl 2 rfl) ?_
    obtain ⟨v_codes_1, v_size_2, v_at_3, v_fault_4, hc16, h⟩ := bd4_s h
    refine x_selfVv (As := [.int (p0 + 1), .int p1]) (rest := []) (Sta_ok T) S (hrc0 _ _ _ _ _ _ _ _ _ _ _ _ _ hc16) yf_X1_readLevel wd18_7 ⟨by show fr + 1 ≤ (fr + 2); omega, by show 8 + (6 + 11) + lo ≤ (lo + 43); omega⟩ hK hSt hA hP hD hS 0 rfl rfl rfl hl.1 rfl (Nat.le_of_ble_eq_true rfl) dX1_readLevel_16 (Nat.zero_le _) (Nat.zero_le _) (fun H locs hP hD hS => ?_)
    refine lv_iload_n hx hb dX1_readLevel_19 rfl (lv_at hl 1 rfl) ?_
    refine lv_iconst (v := 2) hx hb dX1_readLevel_20 (by decide) ?_
    obtain ⟨J30, eJ30, h⟩ := jnA_s h
    have wJ30 : ∀ (t0_5 : Int32), J30 t0_5 = some (w_codes, w_size, w_at, w_fault) → ∀ (H : Heap) (locs : List Loc), va_P D vwCl (pcX1 o cI v_codes_1 v_size_2 v_length v_use v_at_3 v_fault_4 v_bytes) H → va_D A (pcX1 o cI v_codes_1 v_size_2 v_length v_use v_at_3 v_fault_4 v_bytes) → va_S A s.heap H locs → ∀ ls : Array Slot, lv_has ls 6 [(0, .ref (o 0)), (1, .int p0), (2, .int p1)] → WV p l e (fr + 2) (lo + 43) s m args below meth c D (tysX cI cS) A (pcX1 o cI w_codes w_size v_length v_use w_at w_fault v_bytes) H locs (F0 m 30 ls [.int t0_5]) := by
        intro t0_5 h H locs hP hD hS ls hl
        subst eJ30
        dsimp only at h
        refine lv_istore_n (lv' := [(3, .int t0_5), (0, .ref (o 0)), (1, .int p0), (2, .int p1)]) hx hb dX1_readLevel_30 rfl hl (by decide) rfl (fun ls hl => ?_)
        refine lv_iconst (v := 0) hx hb dX1_readLevel_31 (by decide) ?_
        refine lv_istore (lv' := [(4, .int 0), (3, .int t0_5), (0, .ref (o 0)), (1, .int p0), (2, .int p1)]) hx hb dX1_readLevel_32 hl (by decide) rfl (fun ls hl => ?_)
        have wf_X1_readLevelB_L34 : ∀ (k_n : Nat) (v_codes_6 : Nat → Int32) (v_size_7 : Int32) (v_at_8 : Int32) (v_fault_9 : Int32) (l4_10 : Int32), f_X1_readLevelB_L34 rc0 v_length v_use v_bytes p0 p1 t0_5 k_n v_codes_6 v_size_7 v_at_8 v_fault_9 l4_10 = some (w_codes, w_size, w_at, w_fault) → ∀ (H : Heap) (locs : List Loc), va_P D vwCl (pcX1 o cI v_codes_6 v_size_7 v_length v_use v_at_8 v_fault_9 v_bytes) H → va_D A (pcX1 o cI v_codes_6 v_size_7 v_length v_use v_at_8 v_fault_9 v_bytes) → va_S A s.heap H locs → ∀ ls : Array Slot, lv_has ls 6 [(0, .ref (o 0)), (1, .int p0), (2, .int p1), (3, .int t0_5), (4, .int l4_10)] → WV p l e (fr + 2) (lo + 43) s m args below meth c D (tysX cI cS) A (pcX1 o cI w_codes w_size v_length v_use w_at w_fault v_bytes) H locs (F0 m 34 ls []) := by
            intro k_n
            induction k_n with
            | zero => intro v_codes_6 v_size_7 v_at_8 v_fault_9 l4_10 h; rw [f_X1_readLevelB_L34] at h; cases h
            | succ k_n ih =>
              intro v_codes_6 v_size_7 v_at_8 v_fault_9 l4_10 h H locs hP hD hS ls hl
              rw [f_X1_readLevelB_L34] at h
              refine lv_iload hx hb dX1_readLevel_34 (lv_at hl 4 rfl) ?_
              refine lv_iload_n hx hb dX1_readLevel_36 rfl (lv_at hl 3 rfl) ?_
              refine x_icmp_ge (tgt := 89) hx hb h dX1_readLevel_37 (by decide) (fun c37 h => ?_) (fun c37 h => ?_)
              · cases h
                exact x_vret hx hb hr hlocks hK hP hD hS rfl dX1_readLevel_89
              · refine lv_aload_n hx hb dX1_readLevel_40 rfl (lv_at hl 0 rfl) ?_
                refine lv_aload_n hx hb dX1_readLevel_41 rfl (lv_at hl 0 rfl) ?_
                obtain ⟨r_11, hc42, h⟩ := bd1_s h
                refine x_selfVi (As := []) (rest := [.ref (o 0)]) (Sta_ok T) S (c_X1_next l D cI cS T o hc42) yf_X1_next wd18_14 ⟨by show 0 + 1 ≤ (fr + 2); omega, by show 8 + (1 + 11) + 0 ≤ (lo + 43); omega⟩ hK hSt hA hP hD hS 0 rfl rfl rfl hl.1 rfl (Nat.le_of_ble_eq_true rfl) dX1_readLevel_42 (Nat.zero_le _) (Nat.zero_le _) (fun H locs hP hD hS => ?_)
                obtain ⟨r_12, hc45, h⟩ := bd1_s h
                refine x_selfVi (As := [.int r_11]) (rest := []) (Sta_ok T) S (c_X1_levelOf l D cI cS T o hc45) yf_X1_levelOf wd18_18 ⟨by show 0 + 1 ≤ (fr + 2); omega, by show 8 + (2 + 11) + 0 ≤ (lo + 43); omega⟩ hK hSt hA hP hD hS 0 rfl rfl rfl hl.1 rfl (Nat.le_of_ble_eq_true rfl) dX1_readLevel_45 (Nat.zero_le _) (Nat.zero_le _) (fun H locs hP hD hS => ?_)
                refine lv_iload_n hx hb dX1_readLevel_48 rfl (lv_at hl 1 rfl) ?_
                refine x_icmp_ne (tgt := 89) hx hb h dX1_readLevel_49 (by decide) (fun c49 h => ?_) (fun c49 h => ?_)
                · cases h
                  exact x_vret hx hb hr hlocks hK hP hD hS rfl dX1_readLevel_89
                · refine lv_aload_n hx hb dX1_readLevel_52 rfl (lv_at hl 0 rfl) ?_
                  obtain ⟨r_13, hc53, h⟩ := bd1_s h
                  refine x_selfVi (As := []) (rest := []) (Sta_ok T) S (c_X1_next l D cI cS T o hc53) yf_X1_next wd18_14 ⟨by show 0 + 1 ≤ (fr + 2); omega, by show 8 + (1 + 11) + 0 ≤ (lo + 43); omega⟩ hK hSt hA hP hD hS 0 rfl rfl rfl hl.1 rfl (Nat.le_of_ble_eq_true rfl) dX1_readLevel_53 (Nat.zero_le _) (Nat.zero_le _) (fun H locs hP hD hS => ?_)
                  refine lv_istore (lv' := [(5, .int r_13), (0, .ref (o 0)), (1, .int p0), (2, .int p1), (3, .int t0_5), (4, .int l4_10)]) hx hb dX1_readLevel_56 hl (by decide) rfl (fun ls hl => ?_)
                  refine lv_aload_n hx hb dX1_readLevel_58 rfl (lv_at hl 1 rfl) ?_
                  refine lv_dup hx hb dX1_readLevel_59 rfl ?_
                  refine gt_X1_31 S hK hP 0 rfl rfl dX1_readLevel_60 ?_
                  refine lv_iconst (v := 1) hx hb dX1_readLevel_63 (by decide) ?_
                  refine lv_iadd hx hb dX1_readLevel_64 ?_
                  refine x_nm h (fun v_at_14 ev_at_14 h => ?_)
                  refine pt_X1_31 S hK hP hD hS 0 rfl (Nat.le_of_ble_eq_true rfl) dX1_readLevel_65 (fun H locs hP hD hS => ?_)
                  have hP : va_P D vwCl (pcX1 o cI v_codes_6 v_size_7 v_length v_use v_at_14 v_fault_9 v_bytes) H := hP
                  have hD : va_D A (pcX1 o cI v_codes_6 v_size_7 v_length v_use v_at_14 v_fault_9 v_bytes) := hD
                  refine lv_aload_n hx hb dX1_readLevel_68 rfl (lv_at hl 1 rfl) ?_
                  refine lv_iload_n hx hb dX1_readLevel_69 rfl (lv_at hl 2 rfl) ?_
                  refine lv_iconst (v := 1) hx hb dX1_readLevel_70 (by decide) ?_
                  refine lv_iadd hx hb dX1_readLevel_71 ?_
                  refine lv_iload_n hx hb dX1_readLevel_72 rfl (lv_at hl 3 rfl) ?_
                  obtain ⟨v_codes_15, v_size_16, v_at_17, v_fault_18, hc73, h⟩ := bd4_s h
                  refine x_selfVv (As := [.int (p0 + 1), .int p1]) (rest := []) (Sta_ok T) S (hrc0 _ _ _ _ _ _ _ _ _ _ _ _ _ hc73) yf_X1_readLevel wd18_7 ⟨by show fr + 1 ≤ (fr + 2); omega, by show 8 + (6 + 11) + lo ≤ (lo + 43); omega⟩ hK hSt hA hP hD hS 0 rfl rfl rfl hl.1 rfl (Nat.le_of_ble_eq_true rfl) dX1_readLevel_73 (Nat.zero_le _) (Nat.zero_le _) (fun H locs hP hD hS => ?_)
                  refine lv_aload_n hx hb dX1_readLevel_76 rfl (lv_at hl 1 rfl) ?_
                  refine lv_iload hx hb dX1_readLevel_77 (lv_at hl 0 rfl) ?_
                  refine lv_ineg hx hb dX1_readLevel_79 ?_
                  obtain ⟨v_codes_19, v_size_20, hc80, h⟩ := bd2_s h
                  refine x_selfVv (As := [.int (-r_13)]) (rest := []) (Sta_ok T) S (c_X1_emit l D cI cS T o hc80) yf_X1_emit wd18_22 ⟨by show 0 + 1 ≤ (fr + 2); omega, by show 8 + (2 + 11) + 0 ≤ (lo + 43); omega⟩ hK hSt hA hP hD hS 0 rfl rfl rfl hl.1 rfl (Nat.le_of_ble_eq_true rfl) dX1_readLevel_80 (Nat.zero_le _) (Nat.zero_le _) (fun H locs hP hD hS => ?_)
                  obtain ⟨l4_21, el4_21, h⟩ := nmA_s h
                  refine lv_iinc (v := l4_21) (lv' := [(4, .int l4_21), (5, .int r_13), (0, .ref (o 0)), (1, .int p0), (2, .int p1), (3, .int t0_5)]) hx hb dX1_readLevel_83 hl (k := 5) rfl (by rw [el4_21]; exact congrArg _ (by decide)) (by decide) rfl (fun ls hl => ?_)
                  refine lv_goto (tgt := 34) hx hb dX1_readLevel_86 (by decide) ?_
                  exact ih v_codes_19 v_size_20 v_at_17 v_fault_18 l4_21 h _ _ hP hD hS _ (lv_sub hl [2, 3, 4, 5, 0] rfl)
        exact wf_X1_readLevelB_L34 300 v_codes_1 v_size_2 v_at_3 v_fault_4 0 h _ _ hP hD hS _ (lv_sub hl [2, 3, 4, 1, 0] rfl)
    refine x_icmp_ne (tgt := 28) hx hb h dX1_readLevel_21 (by decide) (fun c21 h => ?_) (fun c21 h => ?_)
    · refine lv_bipush (v := 50) hx hb dX1_readLevel_28 (by decide) ?_
      exact wJ30 50 h _ _ hP hD hS _ (lv_sub hl [0, 1, 2] rfl)
    · refine lv_iconst (v := 1) hx hb dX1_readLevel_24 (by decide) ?_
      refine lv_goto (tgt := 30) hx hb dX1_readLevel_25 (by decide) ?_
      exact wJ30 1 h _ _ hP hD hS _ (lv_sub hl [0, 1, 2] rfl)
  · refine lv_aload_n hx hb dX1_readLevel_5 rfl (lv_at hl 0 rfl) ?_
    refine lv_iload_n hx hb dX1_readLevel_6 rfl (lv_at hl 2 rfl) ?_
    obtain ⟨v_codes_22, v_size_23, v_at_24, v_fault_25, hc7, h⟩ := bd4_s h
    refine x_selfVv (As := [.int p1]) (rest := []) (Sta_ok T) S (hrc1 _ _ _ _ _ _ _ _ _ _ _ _ hc7) yf_X1_readQ wd18_11 ⟨by show fr + 1 ≤ (fr + 2); omega, by show 8 + (3 + 11) + lo ≤ (lo + 43); omega⟩ hK hSt hA hP hD hS 0 rfl rfl rfl hl.1 rfl (Nat.le_of_ble_eq_true rfl) dX1_readLevel_7 (Nat.zero_le _) (Nat.zero_le _) (fun H locs hP hD hS => ?_)
    cases h
    exact x_vret hx hb hr hlocks hK hP hD hS rfl dX1_readLevel_10

def f_X1_readQB (rc0 : (Nat → Int32) → (Int32) → (Int32) → (Int32) → (Int32) → (Int32) → (Nat → Int32) → Int32 → Int32 → Option ((Nat → Int32) × (Int32) × (Int32) × (Int32))) (rc1 : (Nat → Int32) → (Int32) → (Int32) → (Int32) → (Int32) → (Int32) → (Nat → Int32) → Int32 → Option ((Nat → Int32) × (Int32) × (Int32) × (Int32))) (v_codes : Nat → Int32) (v_size : Int32) (v_length : Int32) (v_use : Int32) (v_at : Int32) (v_fault : Int32) (v_bytes : Nat → Int32) (p0 : Int32) : Option ((Nat → Int32) × (Int32) × (Int32) × (Int32)) :=
  bd1 (f_X1_next v_length v_at v_fault v_bytes) (fun r_1 => jnA (bd1 (f_X1_nameOf v_use r_1) (fun r_2 => (if r_2 ≤ 0 then jnA (bd1 (f_X1_stop v_at v_fault) (fun v_fault_3 => some (v_codes, v_size, v_at, v_fault_3))) (fun J119 => jnA ((if 5 ≤ p0 then J119 else nmA (v_at + 1) (fun v_at_4 => (if r_1 = 33 then bd4 (rc1 v_codes v_size v_length v_use v_at_4 v_fault v_bytes (p0 + 1)) (fun v_codes_11 v_size_12 v_at_13 v_fault_14 => bd2 (f_X1_emit v_codes_11 v_size_12 v_fault_14 (-r_1)) (fun v_codes_15 v_size_16 => some (v_codes_15, v_size_16, v_at_13, v_fault_14))) else bd4 (rc0 v_codes v_size v_length v_use v_at_4 v_fault v_bytes 0 (p0 + 1)) (fun v_codes_5 v_size_6 v_at_7 v_fault_8 => bd2 (f_X1_close v_length v_at_7 v_fault_8 v_bytes) (fun v_at_9 v_fault_10 => some (v_codes_5, v_size_6, v_at_9, v_fault_10))))))) (fun J67 => (if r_1 = 33 then J67 else (if r_1 = 40 then J67 else J119)))) else nmA (v_at + 1) (fun v_at_17 => bd1 (f_X1_nameOf v_use r_1) (fun r_18 => bd2 (f_X1_emit v_codes v_size v_fault (-r_18)) (fun v_codes_19 v_size_20 => some (v_codes_19, v_size_20, v_at_17, v_fault))))))) (fun J24 => (if r_1 < 48 then J24 else (if 57 < r_1 then J24 else bd3 (f_X1_readNumber v_codes v_size v_length v_at v_fault v_bytes) (fun v_codes_21 v_size_22 v_at_23 => some (v_codes_21, v_size_22, v_at_23, v_fault))))))
set_option maxHeartbeats 600000 in
set_option maxRecDepth 100000 in
theorem c_X1_readQB (l : Launch) (D : va_G) (cI cS : ClassId) (T : Nat → Nat) (o : Nat → Nat) (rc0 : (Nat → Int32) → (Int32) → (Int32) → (Int32) → (Int32) → (Int32) → (Nat → Int32) → Int32 → Int32 → Option ((Nat → Int32) × (Int32) × (Int32) × (Int32))) (rc1 : (Nat → Int32) → (Int32) → (Int32) → (Int32) → (Int32) → (Int32) → (Nat → Int32) → Int32 → Option ((Nat → Int32) × (Int32) × (Int32) × (Int32))) (fr lo : Nat) (hrc0 : ∀ (v_codes : Nat → Int32) (v_size : Int32) (v_length : Int32) (v_use : Int32) (v_at : Int32) (v_fault : Int32) (v_bytes : Nat → Int32) (p0 : Int32) (p1 : Int32) (w_codes : Nat → Int32) (w_size : Int32) (w_at : Int32) (w_fault : Int32), rc0 v_codes v_size v_length v_use v_at v_fault v_bytes p0 p1 = some (w_codes, w_size, w_at, w_fault) → MetV l D (tysX cI cS) (Sta T) yX1_readLevel cX1_readLevel 6 none fr lo [.ref (o 0), .int p0, .int p1] (pcX1 o cI v_codes v_size v_length v_use v_at v_fault v_bytes) (pcX1 o cI w_codes w_size v_length v_use w_at w_fault v_bytes)) (hrc1 : ∀ (v_codes : Nat → Int32) (v_size : Int32) (v_length : Int32) (v_use : Int32) (v_at : Int32) (v_fault : Int32) (v_bytes : Nat → Int32) (p0 : Int32) (w_codes : Nat → Int32) (w_size : Int32) (w_at : Int32) (w_fault : Int32), rc1 v_codes v_size v_length v_use v_at v_fault v_bytes p0 = some (w_codes, w_size, w_at, w_fault) → MetV l D (tysX cI cS) (Sta T) yX1_readQ cX1_readQ 3 none fr lo [.ref (o 0), .int p0] (pcX1 o cI v_codes v_size v_length v_use v_at v_fault v_bytes) (pcX1 o cI w_codes w_size v_length v_use w_at w_fault v_bytes)) {v_codes : Nat → Int32} {v_size : Int32} {v_length : Int32} {v_use : Int32} {v_at : Int32} {v_fault : Int32} {v_bytes : Nat → Int32} {p0 : Int32} {w_codes : Nat → Int32} {w_size : Int32} {w_at : Int32} {w_fault : Int32} (h : f_X1_readQB rc0 rc1 v_codes v_size v_length v_use v_at v_fault v_bytes p0 = some (w_codes, w_size, w_at, w_fault)) : MetV l D (tysX cI cS) (Sta T) yX1_readQ cX1_readQ 3 none (fr + 2) (lo + 43) [.ref (o 0), .int p0] (pcX1 o cI v_codes v_size v_length v_use v_at v_fault v_bytes) (pcX1 o cI w_codes w_size v_length v_use w_at w_fault v_bytes) := by
  refine Ent.metV (by decide +kernel) (Nat.le_of_ble_eq_true rfl) ?_
  intro p e s m args below meth c A ls hx hb hr hml hown hts hlocks hA hK hSt hP hD hS hl
  have hown : s.vm.findClass RX1 = some m.cls := hown
  have S : XFix p m c cX1_readQ 3 s args RX1 := ⟨hx, hb, hml, hown, hts⟩
  have hl : lv_has ls 3 [(0, .ref (o 0)), (1, .int p0)] := hl
  unfold f_X1_readQB at h
  refine lv_aload_n hx hb dX1_readQ_0 rfl (lv_at hl 0 rfl) ?_
  obtain ⟨r_1, hc1, h⟩ := bd1_s h
  refine x_selfVi (As := []) (rest := []) (Sta_ok T) S (c_X1_next l D cI cS T o hc1) yf_X1_next wd18_14 ⟨by show 0 + 1 ≤ (fr + 2); omega, by show 8 + (1 + 11) + 0 ≤ (lo + 43); omega⟩ hK hSt hA hP hD hS 0 rfl rfl rfl hl.1 rfl (Nat.le_of_ble_eq_true rfl) dX1_readQ_1 (Nat.zero_le _) (Nat.zero_le _) (fun H locs hP hD hS => ?_)
  refine lv_istore_n (lv' := [(2, .int r_1), (0, .ref (o 0)), (1, .int p0)]) hx hb dX1_readQ_4 rfl hl (by decide) rfl (fun ls hl => ?_)
  refine lv_iload_n hx hb dX1_readQ_5 rfl (lv_at hl 0 rfl) ?_
  refine lv_bipush (v := 48) hx hb dX1_readQ_6 (by decide) ?_
  obtain ⟨J24, eJ24, h⟩ := jnA_s h
  have wJ24 : J24  = some (w_codes, w_size, w_at, w_fault) → ∀ (H : Heap) (locs : List Loc), va_P D vwCl (pcX1 o cI v_codes v_size v_length v_use v_at v_fault v_bytes) H → va_D A (pcX1 o cI v_codes v_size v_length v_use v_at v_fault v_bytes) → va_S A s.heap H locs → ∀ ls : Array Slot, lv_has ls 3 [(0, .ref (o 0)), (1, .int p0), (2, .int r_1)] → WV p l e (fr + 2) (lo + 43) s m args below meth c D (tysX cI cS) A (pcX1 o cI w_codes w_size v_length v_use w_at w_fault v_bytes) H locs (F0 m 24 ls []) := by
      intro h H locs hP hD hS ls hl
      subst eJ24
      refine lv_aload_n hx hb dX1_readQ_24 rfl (lv_at hl 0 rfl) ?_
      refine lv_iload_n hx hb dX1_readQ_25 rfl (lv_at hl 2 rfl) ?_
      obtain ⟨r_2, hc26, h⟩ := bd1_s h
      refine x_selfVi (As := [.int r_1]) (rest := []) (Sta_ok T) S (c_X1_nameOf l D cI cS T o hc26) yf_X1_nameOf wd19_7 ⟨by show 0 + 1 ≤ (fr + 2); omega, by show 8 + (2 + 11) + 0 ≤ (lo + 43); omega⟩ hK hSt hA hP hD hS 0 rfl rfl rfl hl.1 rfl (Nat.le_of_ble_eq_true rfl) dX1_readQ_26 (Nat.zero_le _) (Nat.zero_le _) (fun H locs hP hD hS => ?_)
      refine x_if_le (tgt := 55) hx hb h dX1_readQ_29 (by decide) (fun c29 h => ?_) (fun c29 h => ?_)
      · refine lv_iload_n hx hb dX1_readQ_55 rfl (lv_at hl 2 rfl) ?_
        refine lv_bipush (v := 33) hx hb dX1_readQ_56 (by decide) ?_
        obtain ⟨J119, eJ119, h⟩ := jnA_s h
        have wJ119 : J119  = some (w_codes, w_size, w_at, w_fault) → ∀ (H : Heap) (locs : List Loc), va_P D vwCl (pcX1 o cI v_codes v_size v_length v_use v_at v_fault v_bytes) H → va_D A (pcX1 o cI v_codes v_size v_length v_use v_at v_fault v_bytes) → va_S A s.heap H locs → ∀ ls : Array Slot, lv_has ls 3 [(0, .ref (o 0))] → WV p l e (fr + 2) (lo + 43) s m args below meth c D (tysX cI cS) A (pcX1 o cI w_codes w_size v_length v_use w_at w_fault v_bytes) H locs (F0 m 119 ls []) := by
            intro h H locs hP hD hS ls hl
            subst eJ119
            refine lv_aload_n hx hb dX1_readQ_119 rfl (lv_at hl 0 rfl) ?_
            obtain ⟨v_fault_3, hc120, h⟩ := bd1_s h
            refine x_selfVv (As := []) (rest := []) (Sta_ok T) S (c_X1_stop l D cI cS T o hc120) yf_X1_stop wd19_15 ⟨by show 0 + 1 ≤ (fr + 2); omega, by show 8 + (1 + 11) + 0 ≤ (lo + 43); omega⟩ hK hSt hA hP hD hS 0 rfl rfl rfl hl.1 rfl (Nat.le_of_ble_eq_true rfl) dX1_readQ_120 (Nat.zero_le _) (Nat.zero_le _) (fun H locs hP hD hS => ?_)
            cases h
            exact x_vret hx hb hr hlocks hK hP hD hS rfl dX1_readQ_123
        obtain ⟨J67, eJ67, h⟩ := jnA_s h
        have wJ67 : J67  = some (w_codes, w_size, w_at, w_fault) → ∀ (H : Heap) (locs : List Loc), va_P D vwCl (pcX1 o cI v_codes v_size v_length v_use v_at v_fault v_bytes) H → va_D A (pcX1 o cI v_codes v_size v_length v_use v_at v_fault v_bytes) → va_S A s.heap H locs → ∀ ls : Array Slot, lv_has ls 3 [(0, .ref (o 0)), (1, .int p0), (2, .int r_1)] → WV p l e (fr + 2) (lo + 43) s m args below meth c D (tysX cI cS) A (pcX1 o cI w_codes w_size v_length v_use w_at w_fault v_bytes) H locs (F0 m 67 ls []) := by
            intro h H locs hP hD hS ls hl
            subst eJ67
            refine lv_iload_n hx hb dX1_readQ_67 rfl (lv_at hl 1 rfl) ?_
            refine lv_iconst (v := 5) hx hb dX1_readQ_68 (by decide) ?_
            refine x_icmp_ge (tgt := 119) hx hb h dX1_readQ_69 (by decide) (fun c69 h => ?_) (fun c69 h => ?_)
            · exact wJ119 h _ _ hP hD hS _ (lv_sub hl [0] rfl)
            · refine lv_aload_n hx hb dX1_readQ_72 rfl (lv_at hl 0 rfl) ?_
              refine lv_dup hx hb dX1_readQ_73 rfl ?_
              refine gt_X1_31 S hK hP 0 rfl rfl dX1_readQ_74 ?_
              refine lv_iconst (v := 1) hx hb dX1_readQ_77 (by decide) ?_
              refine lv_iadd hx hb dX1_readQ_78 ?_
              refine x_nm h (fun v_at_4 ev_at_4 h => ?_)
              refine pt_X1_31 S hK hP hD hS 0 rfl (Nat.le_of_ble_eq_true rfl) dX1_readQ_79 (fun H locs hP hD hS => ?_)
              have hP : va_P D vwCl (pcX1 o cI v_codes v_size v_length v_use v_at_4 v_fault v_bytes) H := hP
              have hD : va_D A (pcX1 o cI v_codes v_size v_length v_use v_at_4 v_fault v_bytes) := hD
              refine lv_iload_n hx hb dX1_readQ_82 rfl (lv_at hl 2 rfl) ?_
              refine lv_bipush (v := 33) hx hb dX1_readQ_83 (by decide) ?_
              refine x_icmp_ne (tgt := 104) hx hb h dX1_readQ_85 (by decide) (fun c85 h => ?_) (fun c85 h => ?_)
              · refine lv_aload_n hx hb dX1_readQ_104 rfl (lv_at hl 0 rfl) ?_
                refine lv_iconst (v := 0) hx hb dX1_readQ_105 (by decide) ?_
                refine lv_iload_n hx hb dX1_readQ_106 rfl (lv_at hl 1 rfl) ?_
                refine lv_iconst (v := 1) hx hb dX1_readQ_107 (by decide) ?_
                refine lv_iadd hx hb dX1_readQ_108 ?_
                obtain ⟨v_codes_5, v_size_6, v_at_7, v_fault_8, hc109, h⟩ := bd4_s h
                refine x_selfVv (As := [.int 0, .int (p0 + 1)]) (rest := []) (Sta_ok T) S (hrc0 _ _ _ _ _ _ _ _ _ _ _ _ _ hc109) yf_X1_readLevel wd18_7 ⟨by show fr + 1 ≤ (fr + 2); omega, by show 8 + (6 + 11) + lo ≤ (lo + 43); omega⟩ hK hSt hA hP hD hS 0 rfl rfl rfl hl.1 rfl (Nat.le_of_ble_eq_true rfl) dX1_readQ_109 (Nat.zero_le _) (Nat.zero_le _) (fun H locs hP hD hS => ?_)
                refine lv_aload_n hx hb dX1_readQ_112 rfl (lv_at hl 0 rfl) ?_
                obtain ⟨v_at_9, v_fault_10, hc113, h⟩ := bd2_s h
                refine x_selfVv (As := []) (rest := []) (Sta_ok T) S (c_X1_close l D cI cS T o hc113) yf_X1_close wd19_11 ⟨by show 1 + 1 ≤ (fr + 2); omega, by show 8 + (1 + 11) + 20 ≤ (lo + 43); omega⟩ hK hSt hA hP hD hS 0 rfl rfl rfl hl.1 rfl (Nat.le_of_ble_eq_true rfl) dX1_readQ_113 (Nat.zero_le _) (Nat.zero_le _) (fun H locs hP hD hS => ?_)
                refine lv_goto (tgt := 123) hx hb dX1_readQ_116 (by decide) ?_
                cases h
                exact x_vret hx hb hr hlocks hK hP hD hS rfl dX1_readQ_123
              · refine lv_aload_n hx hb dX1_readQ_88 rfl (lv_at hl 0 rfl) ?_
                refine lv_iload_n hx hb dX1_readQ_89 rfl (lv_at hl 1 rfl) ?_
                refine lv_iconst (v := 1) hx hb dX1_readQ_90 (by decide) ?_
                refine lv_iadd hx hb dX1_readQ_91 ?_
                obtain ⟨v_codes_11, v_size_12, v_at_13, v_fault_14, hc92, h⟩ := bd4_s h
                refine x_selfVv (As := [.int (p0 + 1)]) (rest := []) (Sta_ok T) S (hrc1 _ _ _ _ _ _ _ _ _ _ _ _ hc92) yf_X1_readQ wd18_11 ⟨by show fr + 1 ≤ (fr + 2); omega, by show 8 + (3 + 11) + lo ≤ (lo + 43); omega⟩ hK hSt hA hP hD hS 0 rfl rfl rfl hl.1 rfl (Nat.le_of_ble_eq_true rfl) dX1_readQ_92 (Nat.zero_le _) (Nat.zero_le _) (fun H locs hP hD hS => ?_)
                refine lv_aload_n hx hb dX1_readQ_95 rfl (lv_at hl 0 rfl) ?_
                refine lv_iload_n hx hb dX1_readQ_96 rfl (lv_at hl 2 rfl) ?_
                refine lv_ineg hx hb dX1_readQ_97 ?_
                obtain ⟨v_codes_15, v_size_16, hc98, h⟩ := bd2_s h
                refine x_selfVv (As := [.int (-r_1)]) (rest := []) (Sta_ok T) S (c_X1_emit l D cI cS T o hc98) yf_X1_emit wd18_22 ⟨by show 0 + 1 ≤ (fr + 2); omega, by show 8 + (2 + 11) + 0 ≤ (lo + 43); omega⟩ hK hSt hA hP hD hS 0 rfl rfl rfl hl.1 rfl (Nat.le_of_ble_eq_true rfl) dX1_readQ_98 (Nat.zero_le _) (Nat.zero_le _) (fun H locs hP hD hS => ?_)
                refine lv_goto (tgt := 123) hx hb dX1_readQ_101 (by decide) ?_
                cases h
                exact x_vret hx hb hr hlocks hK hP hD hS rfl dX1_readQ_123
        refine x_icmp_eq (tgt := 67) hx hb h dX1_readQ_58 (by decide) (fun c58 h => ?_) (fun c58 h => ?_)
        · exact wJ67 h _ _ hP hD hS _ (lv_sub hl [0, 1, 2] rfl)
        · refine lv_iload_n hx hb dX1_readQ_61 rfl (lv_at hl 2 rfl) ?_
          refine lv_bipush (v := 40) hx hb dX1_readQ_62 (by decide) ?_
          refine x_icmp_ne (tgt := 119) hx hb h dX1_readQ_64 (by decide) (fun c64 h => ?_) (fun c64 h => ?_)
          · exact wJ119 h _ _ hP hD hS _ (lv_sub hl [0] rfl)
          · exact wJ67 h _ _ hP hD hS _ (lv_sub hl [0, 1, 2] rfl)
      · refine lv_aload_n hx hb dX1_readQ_32 rfl (lv_at hl 0 rfl) ?_
        refine lv_dup hx hb dX1_readQ_33 rfl ?_
        refine gt_X1_31 S hK hP 0 rfl rfl dX1_readQ_34 ?_
        refine lv_iconst (v := 1) hx hb dX1_readQ_37 (by decide) ?_
        refine lv_iadd hx hb dX1_readQ_38 ?_
        refine x_nm h (fun v_at_17 ev_at_17 h => ?_)
        refine pt_X1_31 S hK hP hD hS 0 rfl (Nat.le_of_ble_eq_true rfl) dX1_readQ_39 (fun H locs hP hD hS => ?_)
        have hP : va_P D vwCl (pcX1 o cI v_codes v_size v_length v_use v_at_17 v_fault v_bytes) H := hP
        have hD : va_D A (pcX1 o cI v_codes v_size v_length v_use v_at_17 v_fault v_bytes) := hD
        refine lv_aload_n hx hb dX1_readQ_42 rfl (lv_at hl 0 rfl) ?_
        refine lv_aload_n hx hb dX1_readQ_43 rfl (lv_at hl 0 rfl) ?_
        refine lv_iload_n hx hb dX1_readQ_44 rfl (lv_at hl 2 rfl) ?_
        obtain ⟨r_18, hc45, h⟩ := bd1_s h
        refine x_selfVi (As := [.int r_1]) (rest := [.ref (o 0)]) (Sta_ok T) S (c_X1_nameOf l D cI cS T o hc45) yf_X1_nameOf wd19_7 ⟨by show 0 + 1 ≤ (fr + 2); omega, by show 8 + (2 + 11) + 0 ≤ (lo + 43); omega⟩ hK hSt hA hP hD hS 0 rfl rfl rfl hl.1 rfl (Nat.le_of_ble_eq_true rfl) dX1_readQ_45 (Nat.zero_le _) (Nat.zero_le _) (fun H locs hP hD hS => ?_)
        refine lv_ineg hx hb dX1_readQ_48 ?_
        obtain ⟨v_codes_19, v_size_20, hc49, h⟩ := bd2_s h
        refine x_selfVv (As := [.int (-r_18)]) (rest := []) (Sta_ok T) S (c_X1_emit l D cI cS T o hc49) yf_X1_emit wd18_22 ⟨by show 0 + 1 ≤ (fr + 2); omega, by show 8 + (2 + 11) + 0 ≤ (lo + 43); omega⟩ hK hSt hA hP hD hS 0 rfl rfl rfl hl.1 rfl (Nat.le_of_ble_eq_true rfl) dX1_readQ_49 (Nat.zero_le _) (Nat.zero_le _) (fun H locs hP hD hS => ?_)
        refine lv_goto (tgt := 123) hx hb dX1_readQ_52 (by decide) ?_
        cases h
        exact x_vret hx hb hr hlocks hK hP hD hS rfl dX1_readQ_123
  refine x_icmp_lt (tgt := 24) hx hb h dX1_readQ_8 (by decide) (fun c8 h => ?_) (fun c8 h => ?_)
  · exact wJ24 h _ _ hP hD hS _ (lv_sub hl [1, 2, 0] rfl)
  · refine lv_iload_n hx hb dX1_readQ_11 rfl (lv_at hl 0 rfl) ?_
    refine lv_bipush (v := 57) hx hb dX1_readQ_12 (by decide) ?_
    refine x_icmp_gt (tgt := 24) hx hb h dX1_readQ_14 (by decide) (fun c14 h => ?_) (fun c14 h => ?_)
    · exact wJ24 h _ _ hP hD hS _ (lv_sub hl [1, 2, 0] rfl)
    · refine lv_aload_n hx hb dX1_readQ_17 rfl (lv_at hl 1 rfl) ?_
      obtain ⟨v_codes_21, v_size_22, v_at_23, hc18, h⟩ := bd3_s h
      refine x_selfVv (As := []) (rest := []) (Sta_ok T) S (c_X1_readNumber l D cI cS T o hc18) yf_X1_readNumber wd19_3 ⟨by show 1 + 1 ≤ (fr + 2); omega, by show 8 + (3 + 11) + 21 ≤ (lo + 43); omega⟩ hK hSt hA hP hD hS 0 rfl rfl rfl hl.1 rfl (Nat.le_of_ble_eq_true rfl) dX1_readQ_18 (Nat.zero_le _) (Nat.zero_le _) (fun H locs hP hD hS => ?_)
      refine lv_goto (tgt := 123) hx hb dX1_readQ_21 (by decide) ?_
      cases h
      exact x_vret hx hb hr hlocks hK hP hD hS rfl dX1_readQ_123

def g_X1_readLevel : Nat → ((Nat → Int32) → (Int32) → (Int32) → (Int32) → (Int32) → (Int32) → (Nat → Int32) → Int32 → Int32 → Option ((Nat → Int32) × (Int32) × (Int32) × (Int32))) × ((Nat → Int32) → (Int32) → (Int32) → (Int32) → (Int32) → (Int32) → (Nat → Int32) → Int32 → Option ((Nat → Int32) × (Int32) × (Int32) × (Int32)))
  | 0 => ((fun _ _ _ _ _ _ _ _ _ => none), (fun _ _ _ _ _ _ _ _ => none))
  | k_n + 1 => (f_X1_readLevelB (g_X1_readLevel k_n).1 (g_X1_readLevel k_n).2, f_X1_readQB (g_X1_readLevel k_n).1 (g_X1_readLevel k_n).2)
set_option maxHeartbeats 4000000 in
theorem cg_X1_readLevel (l : Launch) (D : va_G) (cI cS : ClassId) (T o : Nat → Nat) : ∀ (k_n : Nat), (∀ (v_codes : Nat → Int32) (v_size : Int32) (v_length : Int32) (v_use : Int32) (v_at : Int32) (v_fault : Int32) (v_bytes : Nat → Int32) (p0 : Int32) (p1 : Int32) (w_codes : Nat → Int32) (w_size : Int32) (w_at : Int32) (w_fault : Int32), (g_X1_readLevel k_n).1 v_codes v_size v_length v_use v_at v_fault v_bytes p0 p1 = some (w_codes, w_size, w_at, w_fault) → MetV l D (tysX cI cS) (Sta T) yX1_readLevel cX1_readLevel 6 none (2 * k_n) (43 * k_n) [.ref (o 0), .int p0, .int p1] (pcX1 o cI v_codes v_size v_length v_use v_at v_fault v_bytes) (pcX1 o cI w_codes w_size v_length v_use w_at w_fault v_bytes)) ∧ (∀ (v_codes : Nat → Int32) (v_size : Int32) (v_length : Int32) (v_use : Int32) (v_at : Int32) (v_fault : Int32) (v_bytes : Nat → Int32) (p0 : Int32) (w_codes : Nat → Int32) (w_size : Int32) (w_at : Int32) (w_fault : Int32), (g_X1_readLevel k_n).2 v_codes v_size v_length v_use v_at v_fault v_bytes p0 = some (w_codes, w_size, w_at, w_fault) → MetV l D (tysX cI cS) (Sta T) yX1_readQ cX1_readQ 3 none (2 * k_n) (43 * k_n) [.ref (o 0), .int p0] (pcX1 o cI v_codes v_size v_length v_use v_at v_fault v_bytes) (pcX1 o cI w_codes w_size v_length v_use w_at w_fault v_bytes)) := by
  intro k_n
  induction k_n with
  | zero => exact ⟨(fun v_codes v_size v_length v_use v_at v_fault v_bytes p0 p1 w_codes w_size w_at w_fault h => (by cases h)), (fun v_codes v_size v_length v_use v_at v_fault v_bytes p0 w_codes w_size w_at w_fault h => (by cases h))⟩
  | succ k_n ih => exact ⟨(fun v_codes v_size v_length v_use v_at v_fault v_bytes p0 p1 w_codes w_size w_at w_fault h => c_X1_readLevelB l D cI cS T o (g_X1_readLevel k_n).1 (g_X1_readLevel k_n).2 (2 * k_n) (43 * k_n) ih.1 ih.2 h), (fun v_codes v_size v_length v_use v_at v_fault v_bytes p0 w_codes w_size w_at w_fault h => c_X1_readQB l D cI cS T o (g_X1_readLevel k_n).1 (g_X1_readLevel k_n).2 (2 * k_n) (43 * k_n) ih.1 ih.2 h)⟩
def f_X1_read  (v_codes : Nat → Int32) (v_size : Int32) (v_length : Int32) (v_use : Int32) (v_at : Int32) (v_fault : Int32) (v_bytes : Nat → Int32) (p1 : Int32) (p2 : Int32) : Option ((Nat → Int32) × (Int32) × (Int32) × (Int32) × (Int32) × (Int32) × (Int32)) :=
  nmA (minI p1 50) (fun v_length_1 => bd4 ((g_X1_readLevel 48).1 v_codes 0 v_length_1 p2 0 (-1) v_bytes 0 0) (fun v_codes_2 v_size_3 v_at_4 v_fault_5 => (if v_length_1 ≤ v_at_4 then some (v_codes_2, v_size_3, v_length_1, p2, v_at_4, v_fault_5, v_fault_5) else bd1 (f_X1_stop v_at_4 v_fault_5) (fun v_fault_6 => some (v_codes_2, v_size_3, v_length_1, p2, v_at_4, v_fault_6, v_fault_6)))))
set_option maxHeartbeats 600000 in
set_option maxRecDepth 100000 in
theorem c_X1_read (l : Launch) (D : va_G) (cI cS : ClassId) (T : Nat → Nat) (o : Nat → Nat) {v_codes : Nat → Int32} {v_size : Int32} {v_tp : Nat} {v_length : Int32} {v_use : Int32} {v_at : Int32} {v_fault : Int32} {v_bytes : Nat → Int32} {p1 : Int32} {p2 : Int32} {w_codes : Nat → Int32} {w_size : Int32} {w_length : Int32} {w_use : Int32} {w_at : Int32} {w_fault : Int32} {r_out : Int32} (h : f_X1_read  v_codes v_size v_length v_use v_at v_fault v_bytes p1 p2 = some (w_codes, w_size, w_length, w_use, w_at, w_fault, r_out)) : MetI l D (tysX cI cS) (Sta T) yX1_read cX1_read 4 (some .int) 97 2089 [.ref (o 0), .ref (o 2), .int p1, .int p2] (pcX1r o cI v_codes v_size v_tp v_length v_use v_at v_fault v_bytes) r_out (pcX1r o cI w_codes w_size (o 2) w_length w_use w_at w_fault v_bytes) := by
  refine Ent.metI (by decide +kernel) (Nat.le_of_ble_eq_true rfl) ?_
  intro p e s m args below meth c A ls hx hb hr hml hown hts hlocks hA hK hSt hP hD hS hl
  have hown : s.vm.findClass RX1 = some m.cls := hown
  have S : XFix p m c cX1_read 4 s args RX1 := ⟨hx, hb, hml, hown, hts⟩
  have hl : lv_has ls 4 [(0, .ref (o 0)), (1, .ref (o 2)), (2, .int p1), (3, .int p2)] := hl
  unfold f_X1_read at h
  refine lv_aload_n hx hb dX1_read_0 rfl (lv_at hl 0 rfl) ?_
  refine lv_aload_n hx hb dX1_read_1 rfl (lv_at hl 1 rfl) ?_
  refine pr_X1_15 S hK hP hD hS 0 rfl (Nat.le_of_ble_eq_true rfl) dX1_read_2 (fun H locs hP hD hS => ?_)
  have hP : va_P D vwCl (pcX1r o cI v_codes v_size (o 2) v_length v_use v_at v_fault v_bytes) H := hP
  have hD : va_D A (pcX1r o cI v_codes v_size (o 2) v_length v_use v_at v_fault v_bytes) := hD
  refine lv_aload_n hx hb dX1_read_5 rfl (lv_at hl 0 rfl) ?_
  refine lv_iload_n hx hb dX1_read_6 rfl (lv_at hl 2 rfl) ?_
  refine lv_aload_n hx hb dX1_read_7 rfl (lv_at hl 1 rfl) ?_
  refine va_alen (v := 50) hx hb hK hP 2 0 rfl rfl (show Int32.ofNat 50 = 50 by decide) dX1_read_8 ?_
  refine va_mmin hx hb (hml.trans hl.1.symm) hown (hts _ wd18_1) (hts _ wd7_13) (hts _ wd7_14) (hts _ wd7_15) (Nat.le_of_ble_eq_true rfl) (Nat.le_of_ble_eq_true rfl) (Nat.zero_le _) (Nat.zero_le _) dX1_read_9 ?_
  refine x_topE (y := (minI p1 50)) rfl ?_
  refine x_nm h (fun v_length_1 ev_length_1 h => ?_)
  refine pt_X1_24 S hK hP hD hS 0 rfl (Nat.le_of_ble_eq_true rfl) dX1_read_12 (fun H locs hP hD hS => ?_)
  have hP : va_P D vwCl (pcX1r o cI v_codes v_size (o 2) v_length_1 v_use v_at v_fault v_bytes) H := hP
  have hD : va_D A (pcX1r o cI v_codes v_size (o 2) v_length_1 v_use v_at v_fault v_bytes) := hD
  refine lv_aload_n hx hb dX1_read_15 rfl (lv_at hl 0 rfl) ?_
  refine lv_iload_n hx hb dX1_read_16 rfl (lv_at hl 3 rfl) ?_
  refine pt_X1_28 S hK hP hD hS 0 rfl (Nat.le_of_ble_eq_true rfl) dX1_read_17 (fun H locs hP hD hS => ?_)
  have hP : va_P D vwCl (pcX1r o cI v_codes v_size (o 2) v_length_1 p2 v_at v_fault v_bytes) H := hP
  have hD : va_D A (pcX1r o cI v_codes v_size (o 2) v_length_1 p2 v_at v_fault v_bytes) := hD
  refine lv_aload_n hx hb dX1_read_20 rfl (lv_at hl 0 rfl) ?_
  refine lv_iconst (v := 0) hx hb dX1_read_21 (by decide) ?_
  refine pt_X1_31 S hK hP hD hS 0 rfl (Nat.le_of_ble_eq_true rfl) dX1_read_22 (fun H locs hP hD hS => ?_)
  have hP : va_P D vwCl (pcX1r o cI v_codes v_size (o 2) v_length_1 p2 0 v_fault v_bytes) H := hP
  have hD : va_D A (pcX1r o cI v_codes v_size (o 2) v_length_1 p2 0 v_fault v_bytes) := hD
  refine lv_aload_n hx hb dX1_read_25 rfl (lv_at hl 0 rfl) ?_
  refine lv_iconst (v := 0) hx hb dX1_read_26 (by decide) ?_
  refine pt_X1_34 S hK hP hD hS 0 rfl (Nat.le_of_ble_eq_true rfl) dX1_read_27 (fun H locs hP hD hS => ?_)
  have hP : va_P D vwCl (pcX1r o cI v_codes 0 (o 2) v_length_1 p2 0 v_fault v_bytes) H := hP
  have hD : va_D A (pcX1r o cI v_codes 0 (o 2) v_length_1 p2 0 v_fault v_bytes) := hD
  refine lv_aload_n hx hb dX1_read_30 rfl (lv_at hl 0 rfl) ?_
  refine lv_iconst (v := (-1)) hx hb dX1_read_31 (by decide) ?_
  refine pt_X1_37 S hK hP hD hS 0 rfl (Nat.le_of_ble_eq_true rfl) dX1_read_32 (fun H locs hP hD hS => ?_)
  have hP : va_P D vwCl (pcX1r o cI v_codes 0 (o 2) v_length_1 p2 0 (-1) v_bytes) H := hP
  have hD : va_D A (pcX1r o cI v_codes 0 (o 2) v_length_1 p2 0 (-1) v_bytes) := hD
  refine lv_aload_n hx hb dX1_read_35 rfl (lv_at hl 0 rfl) ?_
  refine lv_iconst (v := 0) hx hb dX1_read_36 (by decide) ?_
  refine lv_iconst (v := 0) hx hb dX1_read_37 (by decide) ?_
  obtain ⟨v_codes_2, v_size_3, v_at_4, v_fault_5, hc38, h⟩ := bd4_s h
  refine x_callVv (ws' := (pcX1r o cI v_codes_2 v_size_3 (o 2) v_length_1 p2 v_at_4 v_fault_5 v_bytes)) (isC := [0, 1, 2]) (isR := []) (As := [.int 0, .int 0]) (rest := []) (Sta_ok T) S ((cg_X1_readLevel l D cI cS T o 48).1 _ _ _ _ _ _ _ _ _ _ _ _ _ hc38) yf_X1_readLevel wd18_7 ⟨Nat.le_of_ble_eq_true rfl, Nat.le_of_ble_eq_true rfl⟩ hK hSt hA hP hD hS em2 0 rfl rfl rfl hl.1 rfl (Nat.le_of_ble_eq_true rfl) dX1_read_38 (Nat.zero_le _) (Nat.zero_le _) (fun H locs hP hD hS => ?_)
  refine lv_aload_n hx hb dX1_read_41 rfl (lv_at hl 0 rfl) ?_
  refine gt_X1_31 S hK hP 0 rfl rfl dX1_read_42 ?_
  refine lv_aload_n hx hb dX1_read_45 rfl (lv_at hl 0 rfl) ?_
  refine gt_X1_24 S hK hP 0 rfl rfl dX1_read_46 ?_
  refine x_icmp_ge (tgt := 56) hx hb h dX1_read_49 (by decide) (fun c49 h => ?_) (fun c49 h => ?_)
  · refine lv_aload_n hx hb dX1_read_56 rfl (lv_at hl 0 rfl) ?_
    refine gt_X1_37 S hK hP 0 rfl rfl dX1_read_57 ?_
    cases h
    exact x_iret hx hb hr hlocks hK hP hD hS rfl rfl dX1_read_60
  · refine lv_aload_n hx hb dX1_read_52 rfl (lv_at hl 0 rfl) ?_
    obtain ⟨v_fault_6, hc53, h⟩ := bd1_s h
    refine x_callVv (ws' := (pcX1r o cI v_codes_2 v_size_3 (o 2) v_length_1 p2 v_at_4 v_fault_6 v_bytes)) (isC := [0, 1, 2]) (isR := []) (As := []) (rest := []) (Sta_ok T) S (c_X1_stop l D cI cS T o hc53) yf_X1_stop wd19_15 ⟨Nat.le_of_ble_eq_true rfl, Nat.le_of_ble_eq_true rfl⟩ hK hSt hA hP hD hS em3 0 rfl rfl rfl hl.1 rfl (Nat.le_of_ble_eq_true rfl) dX1_read_53 (Nat.zero_le _) (Nat.zero_le _) (fun H locs hP hD hS => ?_)
    refine lv_aload_n hx hb dX1_read_56 rfl (lv_at hl 0 rfl) ?_
    refine gt_X1_37 S hK hP 0 rfl rfl dX1_read_57 ?_
    cases h
    exact x_iret hx hb hr hlocks hK hP hD hS rfl rfl dX1_read_60

