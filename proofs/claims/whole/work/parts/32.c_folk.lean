def f_X0_has  (v_size : Int32) (p0 : Int32) : Option ((Int32)) :=
  (if p0 < 0 then some (0) else (if v_size ≤ p0 then some (0) else some (1)))
set_option maxHeartbeats 600000 in
set_option maxRecDepth 100000 in
theorem c_X0_has (l : Launch) (D : va_G) (cI cS : ClassId) (T : Nat → Nat) (o : Nat → Nat) {v_size : Int32} {v_kind : Nat → Int32} {v_mark : Nat → Int32} {v_horn : Nat → Int32} {v_brass : Nat → Int32} {v_open : Nat → Int32} {v_health : Nat → Int32} {p0 : Int32}  {r_out : Int32} (h : f_X0_has  v_size p0 = some (r_out)) : MetI l D (tysX cI cS) (Sta T) yX0_has cX0_has 2 (some .boolean) 0 0 [.ref (o 0), .int p0] (pcX0 o cI v_size v_kind v_mark v_horn v_brass v_open v_health) r_out (pcX0 o cI v_size v_kind v_mark v_horn v_brass v_open v_health) := by
  refine Ent.metI (by decide +kernel) (Nat.le_of_ble_eq_true rfl) ?_
  intro p e s m args below meth c A ls hx hb hr hml hown hts hlocks hA hK hSt hP hD hS hl
  have hown : s.vm.findClass RX0 = some m.cls := hown
  have S : XFix p m c cX0_has 2 s args RX0 := ⟨hx, hb, hml, hown, hts⟩
  have hl : lv_has ls 2 [(0, .ref (o 0)), (1, .int p0)] := hl
  unfold f_X0_has at h
  refine lv_iload_n hx hb dX0_has_0 rfl (lv_at hl 1 rfl) ?_
  refine x_if_lt (tgt := 16) hx hb h dX0_has_1 (by decide) (fun c1 h => ?_) (fun c1 h => ?_)
  · refine lv_iconst (v := 0) hx hb dX0_has_16 (by decide) ?_
    cases h
    exact x_zret hx hb hr hlocks hK hP hD hS rfl rfl (Or.inl rfl) dX0_has_17
  · refine lv_iload_n hx hb dX0_has_4 rfl (lv_at hl 1 rfl) ?_
    refine lv_aload_n hx hb dX0_has_5 rfl (lv_at hl 0 rfl) ?_
    refine gt_X0_30 S hK hP 0 rfl rfl dX0_has_6 ?_
    refine x_icmp_ge (tgt := 16) hx hb h dX0_has_9 (by decide) (fun c9 h => ?_) (fun c9 h => ?_)
    · refine lv_iconst (v := 0) hx hb dX0_has_16 (by decide) ?_
      cases h
      exact x_zret hx hb hr hlocks hK hP hD hS rfl rfl (Or.inl rfl) dX0_has_17
    · refine lv_iconst (v := 1) hx hb dX0_has_12 (by decide) ?_
      refine lv_goto (tgt := 17) hx hb dX0_has_13 (by decide) ?_
      cases h
      exact x_zret hx hb hr hlocks hK hP hD hS rfl rfl (Or.inr rfl) dX0_has_17

def f_X0_rowOf   (p0 : Int32) : Option ((Nat)) :=
  (if p0 = 0 then some 3 else (if p0 = 1 then some 4 else (if p0 = 2 then some 5 else some 6)))
set_option maxHeartbeats 600000 in
set_option maxRecDepth 100000 in
theorem c_X0_rowOf (l : Launch) (D : va_G) (cI cS : ClassId) (T : Nat → Nat) (o : Nat → Nat) {v_size : Int32} {v_kind : Nat → Int32} {v_mark : Nat → Int32} {v_horn : Nat → Int32} {v_brass : Nat → Int32} {v_open : Nat → Int32} {v_health : Nat → Int32} {p0 : Int32}  {r_out : Nat} (h : f_X0_rowOf   p0 = some (r_out)) : MetR l D (tysX cI cS) (Sta T) yX0_rowOf cX0_rowOf 2 (some (.array .int)) 0 0 [.ref (o 0), .int p0] (pcX0 o cI v_size v_kind v_mark v_horn v_brass v_open v_health) (o r_out) (pcX0 o cI v_size v_kind v_mark v_horn v_brass v_open v_health) := by
  refine Ent.metR (by decide +kernel) (Nat.le_of_ble_eq_true rfl) ?_
  intro p e s m args below meth c A ls hx hb hr hml hown hts hlocks hA hK hSt hP hD hS hl
  have hown : s.vm.findClass RX0 = some m.cls := hown
  have S : XFix p m c cX0_rowOf 2 s args RX0 := ⟨hx, hb, hml, hown, hts⟩
  have hl : lv_has ls 2 [(0, .ref (o 0)), (1, .int p0)] := hl
  unfold f_X0_rowOf at h
  refine lv_iload_n hx hb dX0_rowOf_0 rfl (lv_at hl 1 rfl) ?_
  by_cases c1_0 : p0 = 0
  · replace h := ite_t c1_0 h
    refine lv_tableIn (off := 27) (tgt := 28) hx hb dX0_rowOf_1 (by rw [c1_0]; decide) (by rw [c1_0]; decide) (by rw [c1_0]; rfl) (by decide) ?_
    refine lv_aload_n hx hb dX0_rowOf_28 rfl (lv_at hl 0 rfl) ?_
    refine gt_X0_18 S hK hP 0 rfl rfl dX0_rowOf_29 ?_
    cases h
    exact x_aret hx hb hr (Or.inr ⟨_, rfl⟩) hlocks hK hP hD hS rfl rfl dX0_rowOf_32
  replace h := ite_f c1_0 h
  by_cases c1_1 : p0 = 1
  · replace h := ite_t c1_1 h
    refine lv_tableIn (off := 32) (tgt := 33) hx hb dX0_rowOf_1 (by rw [c1_1]; decide) (by rw [c1_1]; decide) (by rw [c1_1]; rfl) (by decide) ?_
    refine lv_aload_n hx hb dX0_rowOf_33 rfl (lv_at hl 0 rfl) ?_
    refine gt_X0_21 S hK hP 0 rfl rfl dX0_rowOf_34 ?_
    cases h
    exact x_aret hx hb hr (Or.inr ⟨_, rfl⟩) hlocks hK hP hD hS rfl rfl dX0_rowOf_37
  replace h := ite_f c1_1 h
  by_cases c1_2 : p0 = 2
  · replace h := ite_t c1_2 h
    refine lv_tableIn (off := 37) (tgt := 38) hx hb dX0_rowOf_1 (by rw [c1_2]; decide) (by rw [c1_2]; decide) (by rw [c1_2]; rfl) (by decide) ?_
    refine lv_aload_n hx hb dX0_rowOf_38 rfl (lv_at hl 0 rfl) ?_
    refine gt_X0_24 S hK hP 0 rfl rfl dX0_rowOf_39 ?_
    cases h
    exact x_aret hx hb hr (Or.inr ⟨_, rfl⟩) hlocks hK hP hD hS rfl rfl dX0_rowOf_42
  replace h := ite_f c1_2 h
  refine lv_tableOut (tgt := 43) hx hb dX0_rowOf_1 (by have n0 := lv_neT c1_0 (show ((0) : Int32).toInt = 0 by decide); have n1 := lv_neT c1_1 (show ((1) : Int32).toInt = 1 by decide); have n2 := lv_neT c1_2 (show ((2) : Int32).toInt = 2 by decide); omega) (by decide) ?_
  refine lv_aload_n hx hb dX0_rowOf_43 rfl (lv_at hl 0 rfl) ?_
  refine gt_X0_27 S hK hP 0 rfl rfl dX0_rowOf_44 ?_
  cases h
  exact x_aret hx hb hr (Or.inr ⟨_, rfl⟩) hlocks hK hP hD hS rfl rfl dX0_rowOf_47

def f_X0_copy_L10 (v_other_size : Int32) (v_other_kind : Nat → Int32) (v_other_mark : Nat → Int32) (v_other_horn : Nat → Int32) (v_other_brass : Nat → Int32) (v_other_open : Nat → Int32) (v_other_health : Nat → Int32) : Nat → (Nat → Int32) → (Nat → Int32) → (Nat → Int32) → (Nat → Int32) → (Nat → Int32) → (Nat → Int32) → Int32 → Option ((Int32) × (Nat → Int32) × (Nat → Int32) × (Nat → Int32) × (Nat → Int32) × (Nat → Int32) × (Nat → Int32))
  | 0, _, _, _, _, _, _, _ => none
  | k_n + 1, v_kind_1, v_mark_2, v_horn_3, v_brass_4, v_open_5, v_health_6, l2_7 => (if 8 ≤ l2_7 then some (v_other_size, v_kind_1, v_mark_2, v_horn_3, v_brass_4, v_open_5, v_health_6) else rdA 8 v_other_kind l2_7 (fun x_8 => wrA 8 v_kind_1 l2_7 x_8 (fun v_kind_9 => rdA 8 v_other_mark l2_7 (fun x_10 => wrA 8 v_mark_2 l2_7 x_10 (fun v_mark_11 => rdA 8 v_other_horn l2_7 (fun x_12 => wrA 8 v_horn_3 l2_7 x_12 (fun v_horn_13 => rdA 8 v_other_brass l2_7 (fun x_14 => wrA 8 v_brass_4 l2_7 x_14 (fun v_brass_15 => rdA 8 v_other_open l2_7 (fun x_16 => wrA 8 v_open_5 l2_7 x_16 (fun v_open_17 => rdA 8 v_other_health l2_7 (fun x_18 => wrA 8 v_health_6 l2_7 x_18 (fun v_health_19 => nmA (l2_7 + 1) (fun l2_20 => f_X0_copy_L10 v_other_size v_other_kind v_other_mark v_other_horn v_other_brass v_other_open v_other_health k_n v_kind_9 v_mark_11 v_horn_13 v_brass_15 v_open_17 v_health_19 l2_20))))))))))))))
def f_X0_copy  (v_size : Int32) (v_kind : Nat → Int32) (v_mark : Nat → Int32) (v_horn : Nat → Int32) (v_brass : Nat → Int32) (v_open : Nat → Int32) (v_health : Nat → Int32) (v_other_size : Int32) (v_other_kind : Nat → Int32) (v_other_mark : Nat → Int32) (v_other_horn : Nat → Int32) (v_other_brass : Nat → Int32) (v_other_open : Nat → Int32) (v_other_health : Nat → Int32)  : Option ((Int32) × (Nat → Int32) × (Nat → Int32) × (Nat → Int32) × (Nat → Int32) × (Nat → Int32) × (Nat → Int32)) :=
  f_X0_copy_L10 v_other_size v_other_kind v_other_mark v_other_horn v_other_brass v_other_open v_other_health 300 v_kind v_mark v_horn v_brass v_open v_health 0
set_option maxHeartbeats 600000 in
set_option maxRecDepth 100000 in
theorem c_X0_copy (l : Launch) (D : va_G) (cI cS : ClassId) (T : Nat → Nat) (o : Nat → Nat) {v_size : Int32} {v_kind : Nat → Int32} {v_mark : Nat → Int32} {v_horn : Nat → Int32} {v_brass : Nat → Int32} {v_open : Nat → Int32} {v_health : Nat → Int32} {v_other_size : Int32} {v_other_kind : Nat → Int32} {v_other_mark : Nat → Int32} {v_other_horn : Nat → Int32} {v_other_brass : Nat → Int32} {v_other_open : Nat → Int32} {v_other_health : Nat → Int32}  {w_size : Int32} {w_kind : Nat → Int32} {w_mark : Nat → Int32} {w_horn : Nat → Int32} {w_brass : Nat → Int32} {w_open : Nat → Int32} {w_health : Nat → Int32} (h : f_X0_copy  v_size v_kind v_mark v_horn v_brass v_open v_health v_other_size v_other_kind v_other_mark v_other_horn v_other_brass v_other_open v_other_health  = some (w_size, w_kind, w_mark, w_horn, w_brass, w_open, w_health)) : MetV l D (tysX cI cS) (Sta T) yX0_copy cX0_copy 3 none 0 0 [.ref (o 0), .ref (o 7)] (pcX0other o cI v_size v_kind v_mark v_horn v_brass v_open v_health v_other_size v_other_kind v_other_mark v_other_horn v_other_brass v_other_open v_other_health) (pcX0other o cI w_size w_kind w_mark w_horn w_brass w_open w_health v_other_size v_other_kind v_other_mark v_other_horn v_other_brass v_other_open v_other_health) := by
  refine Ent.metV (by decide +kernel) (Nat.le_of_ble_eq_true rfl) ?_
  intro p e s m args below meth c A ls hx hb hr hml hown hts hlocks hA hK hSt hP hD hS hl
  have hown : s.vm.findClass RX0 = some m.cls := hown
  have S : XFix p m c cX0_copy 3 s args RX0 := ⟨hx, hb, hml, hown, hts⟩
  have hl : lv_has ls 3 [(0, .ref (o 0)), (1, .ref (o 7))] := hl
  unfold f_X0_copy at h
  refine lv_aload_n hx hb dX0_copy_0 rfl (lv_at hl 0 rfl) ?_
  refine lv_aload_n hx hb dX0_copy_1 rfl (lv_at hl 1 rfl) ?_
  refine gt_X0_30 S hK hP 7 rfl rfl dX0_copy_2 ?_
  refine pt_X0_30 S hK hP hD hS 0 rfl (Nat.le_of_ble_eq_true rfl) dX0_copy_5 (fun H locs hP hD hS => ?_)
  have hP : va_P D vwCl (pcX0other o cI v_other_size v_kind v_mark v_horn v_brass v_open v_health v_other_size v_other_kind v_other_mark v_other_horn v_other_brass v_other_open v_other_health) H := hP
  have hD : va_D A (pcX0other o cI v_other_size v_kind v_mark v_horn v_brass v_open v_health v_other_size v_other_kind v_other_mark v_other_horn v_other_brass v_other_open v_other_health) := hD
  refine lv_iconst (v := 0) hx hb dX0_copy_8 (by decide) ?_
  refine lv_istore_n (lv' := [(2, .int 0), (0, .ref (o 0)), (1, .ref (o 7))]) hx hb dX0_copy_9 rfl hl (by decide) rfl (fun ls hl => ?_)
  have wf_X0_copy_L10 : ∀ (k_n : Nat) (v_kind_1 : Nat → Int32) (v_mark_2 : Nat → Int32) (v_horn_3 : Nat → Int32) (v_brass_4 : Nat → Int32) (v_open_5 : Nat → Int32) (v_health_6 : Nat → Int32) (l2_7 : Int32), f_X0_copy_L10 v_other_size v_other_kind v_other_mark v_other_horn v_other_brass v_other_open v_other_health k_n v_kind_1 v_mark_2 v_horn_3 v_brass_4 v_open_5 v_health_6 l2_7 = some (w_size, w_kind, w_mark, w_horn, w_brass, w_open, w_health) → ∀ (H : Heap) (locs : List Loc), va_P D vwCl (pcX0other o cI v_other_size v_kind_1 v_mark_2 v_horn_3 v_brass_4 v_open_5 v_health_6 v_other_size v_other_kind v_other_mark v_other_horn v_other_brass v_other_open v_other_health) H → va_D A (pcX0other o cI v_other_size v_kind_1 v_mark_2 v_horn_3 v_brass_4 v_open_5 v_health_6 v_other_size v_other_kind v_other_mark v_other_horn v_other_brass v_other_open v_other_health) → va_S A s.heap H locs → ∀ ls : Array Slot, lv_has ls 3 [(0, .ref (o 0)), (1, .ref (o 7)), (2, .int l2_7)] → WV p l e 0 0 s m args below meth c D (tysX cI cS) A (pcX0other o cI w_size w_kind w_mark w_horn w_brass w_open w_health v_other_size v_other_kind v_other_mark v_other_horn v_other_brass v_other_open v_other_health) H locs (F0 m 10 ls []) := by
      intro k_n
      induction k_n with
      | zero => intro v_kind_1 v_mark_2 v_horn_3 v_brass_4 v_open_5 v_health_6 l2_7 h; rw [f_X0_copy_L10] at h; cases h
      | succ k_n ih =>
        intro v_kind_1 v_mark_2 v_horn_3 v_brass_4 v_open_5 v_health_6 l2_7 h H locs hP hD hS ls hl
        rw [f_X0_copy_L10] at h
        refine lv_iload_n hx hb dX0_copy_10 rfl (lv_at hl 2 rfl) ?_
        refine lv_bipush (v := 8) hx hb dX0_copy_11 (by decide) ?_
        refine x_icmp_ge (tgt := 94) hx hb h dX0_copy_13 (by decide) (fun c13 h => ?_) (fun c13 h => ?_)
        · cases h
          exact x_vret hx hb hr hlocks hK hP hD hS rfl dX0_copy_94
        · refine lv_aload_n hx hb dX0_copy_16 rfl (lv_at hl 0 rfl) ?_
          refine gt_X0_9 S hK hP 0 rfl rfl dX0_copy_17 ?_
          refine lv_iload_n hx hb dX0_copy_20 rfl (lv_at hl 2 rfl) ?_
          refine lv_aload_n hx hb dX0_copy_21 rfl (lv_at hl 1 rfl) ?_
          refine gt_X0_9 S hK hP 7 rfl rfl dX0_copy_22 ?_
          refine lv_iload_n hx hb dX0_copy_25 rfl (lv_at hl 2 rfl) ?_
          refine x_ald hx hb hK hP 8 h rfl rfl dX0_copy_26 (fun x_8 ex_8 h => ?_)
          refine x_ast hx hb hK hP hD hS 1 h rfl rfl dX0_copy_27 (fun v_kind_9 ev_kind_9 h H locs hP hD hS => ?_)
          have hP : va_P D vwCl (pcX0other o cI v_other_size v_kind_9 v_mark_2 v_horn_3 v_brass_4 v_open_5 v_health_6 v_other_size v_other_kind v_other_mark v_other_horn v_other_brass v_other_open v_other_health) H := hP
          have hD : va_D A (pcX0other o cI v_other_size v_kind_9 v_mark_2 v_horn_3 v_brass_4 v_open_5 v_health_6 v_other_size v_other_kind v_other_mark v_other_horn v_other_brass v_other_open v_other_health) := hD
          refine lv_aload_n hx hb dX0_copy_28 rfl (lv_at hl 0 rfl) ?_
          refine gt_X0_15 S hK hP 0 rfl rfl dX0_copy_29 ?_
          refine lv_iload_n hx hb dX0_copy_32 rfl (lv_at hl 2 rfl) ?_
          refine lv_aload_n hx hb dX0_copy_33 rfl (lv_at hl 1 rfl) ?_
          refine gt_X0_15 S hK hP 7 rfl rfl dX0_copy_34 ?_
          refine lv_iload_n hx hb dX0_copy_37 rfl (lv_at hl 2 rfl) ?_
          refine x_ald hx hb hK hP 9 h rfl rfl dX0_copy_38 (fun x_10 ex_10 h => ?_)
          refine x_ast hx hb hK hP hD hS 2 h rfl rfl dX0_copy_39 (fun v_mark_11 ev_mark_11 h H locs hP hD hS => ?_)
          have hP : va_P D vwCl (pcX0other o cI v_other_size v_kind_9 v_mark_11 v_horn_3 v_brass_4 v_open_5 v_health_6 v_other_size v_other_kind v_other_mark v_other_horn v_other_brass v_other_open v_other_health) H := hP
          have hD : va_D A (pcX0other o cI v_other_size v_kind_9 v_mark_11 v_horn_3 v_brass_4 v_open_5 v_health_6 v_other_size v_other_kind v_other_mark v_other_horn v_other_brass v_other_open v_other_health) := hD
          refine lv_aload_n hx hb dX0_copy_40 rfl (lv_at hl 0 rfl) ?_
          refine gt_X0_18 S hK hP 0 rfl rfl dX0_copy_41 ?_
          refine lv_iload_n hx hb dX0_copy_44 rfl (lv_at hl 2 rfl) ?_
          refine lv_aload_n hx hb dX0_copy_45 rfl (lv_at hl 1 rfl) ?_
          refine gt_X0_18 S hK hP 7 rfl rfl dX0_copy_46 ?_
          refine lv_iload_n hx hb dX0_copy_49 rfl (lv_at hl 2 rfl) ?_
          refine x_ald hx hb hK hP 10 h rfl rfl dX0_copy_50 (fun x_12 ex_12 h => ?_)
          refine x_ast hx hb hK hP hD hS 3 h rfl rfl dX0_copy_51 (fun v_horn_13 ev_horn_13 h H locs hP hD hS => ?_)
          have hP : va_P D vwCl (pcX0other o cI v_other_size v_kind_9 v_mark_11 v_horn_13 v_brass_4 v_open_5 v_health_6 v_other_size v_other_kind v_other_mark v_other_horn v_other_brass v_other_open v_other_health) H := hP
          have hD : va_D A (pcX0other o cI v_other_size v_kind_9 v_mark_11 v_horn_13 v_brass_4 v_open_5 v_health_6 v_other_size v_other_kind v_other_mark v_other_horn v_other_brass v_other_open v_other_health) := hD
          refine lv_aload_n hx hb dX0_copy_52 rfl (lv_at hl 0 rfl) ?_
          refine gt_X0_21 S hK hP 0 rfl rfl dX0_copy_53 ?_
          refine lv_iload_n hx hb dX0_copy_56 rfl (lv_at hl 2 rfl) ?_
          refine lv_aload_n hx hb dX0_copy_57 rfl (lv_at hl 1 rfl) ?_
          refine gt_X0_21 S hK hP 7 rfl rfl dX0_copy_58 ?_
          refine lv_iload_n hx hb dX0_copy_61 rfl (lv_at hl 2 rfl) ?_
          refine x_ald hx hb hK hP 11 h rfl rfl dX0_copy_62 (fun x_14 ex_14 h => ?_)
          refine x_ast hx hb hK hP hD hS 4 h rfl rfl dX0_copy_63 (fun v_brass_15 ev_brass_15 h H locs hP hD hS => ?_)
          have hP : va_P D vwCl (pcX0other o cI v_other_size v_kind_9 v_mark_11 v_horn_13 v_brass_15 v_open_5 v_health_6 v_other_size v_other_kind v_other_mark v_other_horn v_other_brass v_other_open v_other_health) H := hP
          have hD : va_D A (pcX0other o cI v_other_size v_kind_9 v_mark_11 v_horn_13 v_brass_15 v_open_5 v_health_6 v_other_size v_other_kind v_other_mark v_other_horn v_other_brass v_other_open v_other_health) := hD
          refine lv_aload_n hx hb dX0_copy_64 rfl (lv_at hl 0 rfl) ?_
          refine gt_X0_24 S hK hP 0 rfl rfl dX0_copy_65 ?_
          refine lv_iload_n hx hb dX0_copy_68 rfl (lv_at hl 2 rfl) ?_
          refine lv_aload_n hx hb dX0_copy_69 rfl (lv_at hl 1 rfl) ?_
          refine gt_X0_24 S hK hP 7 rfl rfl dX0_copy_70 ?_
          refine lv_iload_n hx hb dX0_copy_73 rfl (lv_at hl 2 rfl) ?_
          refine x_ald hx hb hK hP 12 h rfl rfl dX0_copy_74 (fun x_16 ex_16 h => ?_)
          refine x_ast hx hb hK hP hD hS 5 h rfl rfl dX0_copy_75 (fun v_open_17 ev_open_17 h H locs hP hD hS => ?_)
          have hP : va_P D vwCl (pcX0other o cI v_other_size v_kind_9 v_mark_11 v_horn_13 v_brass_15 v_open_17 v_health_6 v_other_size v_other_kind v_other_mark v_other_horn v_other_brass v_other_open v_other_health) H := hP
          have hD : va_D A (pcX0other o cI v_other_size v_kind_9 v_mark_11 v_horn_13 v_brass_15 v_open_17 v_health_6 v_other_size v_other_kind v_other_mark v_other_horn v_other_brass v_other_open v_other_health) := hD
          refine lv_aload_n hx hb dX0_copy_76 rfl (lv_at hl 0 rfl) ?_
          refine gt_X0_27 S hK hP 0 rfl rfl dX0_copy_77 ?_
          refine lv_iload_n hx hb dX0_copy_80 rfl (lv_at hl 2 rfl) ?_
          refine lv_aload_n hx hb dX0_copy_81 rfl (lv_at hl 1 rfl) ?_
          refine gt_X0_27 S hK hP 7 rfl rfl dX0_copy_82 ?_
          refine lv_iload_n hx hb dX0_copy_85 rfl (lv_at hl 2 rfl) ?_
          refine x_ald hx hb hK hP 13 h rfl rfl dX0_copy_86 (fun x_18 ex_18 h => ?_)
          refine x_ast hx hb hK hP hD hS 6 h rfl rfl dX0_copy_87 (fun v_health_19 ev_health_19 h H locs hP hD hS => ?_)
          have hP : va_P D vwCl (pcX0other o cI v_other_size v_kind_9 v_mark_11 v_horn_13 v_brass_15 v_open_17 v_health_19 v_other_size v_other_kind v_other_mark v_other_horn v_other_brass v_other_open v_other_health) H := hP
          have hD : va_D A (pcX0other o cI v_other_size v_kind_9 v_mark_11 v_horn_13 v_brass_15 v_open_17 v_health_19 v_other_size v_other_kind v_other_mark v_other_horn v_other_brass v_other_open v_other_health) := hD
          obtain ⟨l2_20, el2_20, h⟩ := nmA_s h
          refine lv_iinc (v := l2_20) (lv' := [(2, .int l2_20), (0, .ref (o 0)), (1, .ref (o 7))]) hx hb dX0_copy_88 hl (k := 2) rfl (by rw [el2_20]; exact congrArg _ (by decide)) (by decide) rfl (fun ls hl => ?_)
          refine lv_goto (tgt := 10) hx hb dX0_copy_91 (by decide) ?_
          exact ih v_kind_9 v_mark_11 v_horn_13 v_brass_15 v_open_17 v_health_19 l2_20 h _ _ hP hD hS _ (lv_sub hl [1, 2, 0] rfl)
  exact wf_X0_copy_L10 300 v_kind v_mark v_horn v_brass v_open v_health 0 h _ _ hP hD hS _ (lv_sub hl [1, 2, 0] rfl)

def f_X0_isWilling  (v_kind : Nat → Int32) (v_health : Nat → Int32) (p0 : Int32) : Option ((Int32)) :=
  rdA 8 v_health p0 (fun x_1 => rdA 8 v_kind p0 (fun x_2 => rdA 7 s_MANNER x_2 (fun x_3 => jnA (fun (t0_4 : Int32) => (if x_1 < t0_4 then some (0) else some (1))) (fun J25 => (if x_3 = 0 then J25 30 else J25 1)))))
set_option maxHeartbeats 600000 in
set_option maxRecDepth 100000 in
theorem c_X0_isWilling (l : Launch) (D : va_G) (cI cS : ClassId) (T : Nat → Nat) (o : Nat → Nat) {v_size : Int32} {v_kind : Nat → Int32} {v_mark : Nat → Int32} {v_horn : Nat → Int32} {v_brass : Nat → Int32} {v_open : Nat → Int32} {v_health : Nat → Int32} {p0 : Int32}  {r_out : Int32} (h : f_X0_isWilling  v_kind v_health p0 = some (r_out)) : MetI l D (tysX cI cS) (Sta T) yX0_isWilling cX0_isWilling 2 (some .boolean) 0 0 [.ref (o 0), .int p0] (pcX0 o cI v_size v_kind v_mark v_horn v_brass v_open v_health) r_out (pcX0 o cI v_size v_kind v_mark v_horn v_brass v_open v_health) := by
  refine Ent.metI (by decide +kernel) (Nat.le_of_ble_eq_true rfl) ?_
  intro p e s m args below meth c A ls hx hb hr hml hown hts hlocks hA hK hSt hP hD hS hl
  have hown : s.vm.findClass RX0 = some m.cls := hown
  have S : XFix p m c cX0_isWilling 2 s args RX0 := ⟨hx, hb, hml, hown, hts⟩
  have hl : lv_has ls 2 [(0, .ref (o 0)), (1, .int p0)] := hl
  unfold f_X0_isWilling at h
  obtain ⟨⟨n1, n2, n3, n4, n5, n6⟩, ⟨zZ0, zT0⟩, ⟨zZ1, zT1⟩, ⟨zZ2, zT2⟩, ⟨zZ3, zT3⟩⟩ := id hSt
  refine lv_aload_n hx hb dX0_isWilling_0 rfl (lv_at hl 0 rfl) ?_
  refine gt_X0_27 S hK hP 0 rfl rfl dX0_isWilling_1 ?_
  refine lv_iload_n hx hb dX0_isWilling_4 rfl (lv_at hl 1 rfl) ?_
  refine x_ald hx hb hK hP 6 h rfl rfl dX0_isWilling_5 (fun x_1 ex_1 h => ?_)
  refine va_getsN hx hb zZ1 hS hown (va_Nw.use rfl n1) (fun _ h => h) dX0_isWilling_6 ?_
  refine lv_aload_n hx hb dX0_isWilling_9 rfl (lv_at hl 0 rfl) ?_
  refine gt_X0_9 S hK hP 0 rfl rfl dX0_isWilling_10 ?_
  refine lv_iload_n hx hb dX0_isWilling_13 rfl (lv_at hl 1 rfl) ?_
  refine x_ald hx hb hK hP 1 h rfl rfl dX0_isWilling_14 (fun x_2 ex_2 h => ?_)
  refine x_sti hx hb zT1 hS h dX0_isWilling_15 (fun x_3 ex_3 h => ?_)
  obtain ⟨J25, eJ25, h⟩ := jnA_s h
  have wJ25 : ∀ (t0_4 : Int32), J25 t0_4 = some (r_out) → ∀ (H : Heap) (locs : List Loc), va_P D vwCl (pcX0 o cI v_size v_kind v_mark v_horn v_brass v_open v_health) H → va_D A (pcX0 o cI v_size v_kind v_mark v_horn v_brass v_open v_health) → va_S A s.heap H locs → ∀ ls : Array Slot, lv_has ls 2 [] → WI p l e 0 0 s m args below meth c D (tysX cI cS) A r_out (pcX0 o cI v_size v_kind v_mark v_horn v_brass v_open v_health) H locs (F0 m 25 ls [.int t0_4, .int x_1]) := by
      intro t0_4 h H locs hP hD hS ls hl
      subst eJ25
      dsimp only at h
      refine x_icmp_lt (tgt := 32) hx hb h dX0_isWilling_25 (by decide) (fun c25 h => ?_) (fun c25 h => ?_)
      · refine lv_iconst (v := 0) hx hb dX0_isWilling_32 (by decide) ?_
        cases h
        exact x_zret hx hb hr hlocks hK hP hD hS rfl rfl (Or.inl rfl) dX0_isWilling_33
      · refine lv_iconst (v := 1) hx hb dX0_isWilling_28 (by decide) ?_
        refine lv_goto (tgt := 33) hx hb dX0_isWilling_29 (by decide) ?_
        cases h
        exact x_zret hx hb hr hlocks hK hP hD hS rfl rfl (Or.inr rfl) dX0_isWilling_33
  refine x_if_ne (tgt := 24) hx hb h dX0_isWilling_16 (by decide) (fun c16 h => ?_) (fun c16 h => ?_)
  · refine lv_iconst (v := 1) hx hb dX0_isWilling_24 (by decide) ?_
    exact wJ25 1 h _ _ hP hD hS _ (lv_sub hl [] rfl)
  · refine lv_bipush (v := 30) hx hb dX0_isWilling_19 (by decide) ?_
    refine lv_goto (tgt := 25) hx hb dX0_isWilling_21 (by decide) ?_
    exact wJ25 30 h _ _ hP hD hS _ (lv_sub hl [] rfl)

def f_X0_cutsHorn  (v_kind : Nat → Int32) (v_horn : Nat → Int32) (v_brass : Nat → Int32) (v_health : Nat → Int32) (p0 : Int32) : Option ((Int32)) :=
  bd1 (f_X0_isWilling v_kind v_health p0) (fun r_1 => (if r_1 = 0 then some (0) else rdA 8 v_kind p0 (fun x_2 => rdA 7 s_BUTTONS x_2 (fun x_3 => rdA 8 v_kind p0 (fun x_4 => rdA 7 s_MANNER x_4 (fun x_5 => jnA (fun (l2_6 : Int32) => rdA 8 v_horn p0 (fun x_7 => some ((minI l2_6 x_7)))) (fun J48 => (if x_5 = 3 then rdA 8 v_brass p0 (fun x_8 => nmA (x_3 - (minI x_3 x_8)) (fun l2_9 => J48 l2_9)) else J48 x_3))))))))
set_option maxHeartbeats 600000 in
set_option maxRecDepth 100000 in
theorem c_X0_cutsHorn (l : Launch) (D : va_G) (cI cS : ClassId) (T : Nat → Nat) (o : Nat → Nat) {v_size : Int32} {v_kind : Nat → Int32} {v_mark : Nat → Int32} {v_horn : Nat → Int32} {v_brass : Nat → Int32} {v_open : Nat → Int32} {v_health : Nat → Int32} {p0 : Int32}  {r_out : Int32} (h : f_X0_cutsHorn  v_kind v_horn v_brass v_health p0 = some (r_out)) : MetI l D (tysX cI cS) (Sta T) yX0_cutsHorn cX0_cutsHorn 3 (some .int) 1 24 [.ref (o 0), .int p0] (pcX0 o cI v_size v_kind v_mark v_horn v_brass v_open v_health) r_out (pcX0 o cI v_size v_kind v_mark v_horn v_brass v_open v_health) := by
  refine Ent.metI (by decide +kernel) (Nat.le_of_ble_eq_true rfl) ?_
  intro p e s m args below meth c A ls hx hb hr hml hown hts hlocks hA hK hSt hP hD hS hl
  have hown : s.vm.findClass RX0 = some m.cls := hown
  have S : XFix p m c cX0_cutsHorn 3 s args RX0 := ⟨hx, hb, hml, hown, hts⟩
  have hl : lv_has ls 3 [(0, .ref (o 0)), (1, .int p0)] := hl
  unfold f_X0_cutsHorn at h
  obtain ⟨⟨n1, n2, n3, n4, n5, n6⟩, ⟨zZ0, zT0⟩, ⟨zZ1, zT1⟩, ⟨zZ2, zT2⟩, ⟨zZ3, zT3⟩⟩ := id hSt
  refine lv_aload_n hx hb dX0_cutsHorn_0 rfl (lv_at hl 0 rfl) ?_
  refine lv_iload_n hx hb dX0_cutsHorn_1 rfl (lv_at hl 1 rfl) ?_
  obtain ⟨r_1, hc2, h⟩ := bd1_s h
  refine x_selfVi (As := [.int p0]) (rest := []) (Sta_ok T) S (c_X0_isWilling l D cI cS T o hc2) yf_X0_isWilling wd7_16 ⟨Nat.le_of_ble_eq_true rfl, Nat.le_of_ble_eq_true rfl⟩ hK hSt hA hP hD hS 0 rfl rfl rfl hl.1 rfl (Nat.le_of_ble_eq_true rfl) dX0_cutsHorn_2 (Nat.zero_le _) (Nat.zero_le _) (fun H locs hP hD hS => ?_)
  refine x_if_ne (tgt := 10) hx hb h dX0_cutsHorn_5 (by decide) (fun c5 h => ?_) (fun c5 h => ?_)
  · refine va_getsN hx hb zZ2 hS hown (va_Nw.use rfl n2) (fun _ h => h) dX0_cutsHorn_10 ?_
    refine lv_aload_n hx hb dX0_cutsHorn_13 rfl (lv_at hl 0 rfl) ?_
    refine gt_X0_9 S hK hP 0 rfl rfl dX0_cutsHorn_14 ?_
    refine lv_iload_n hx hb dX0_cutsHorn_17 rfl (lv_at hl 1 rfl) ?_
    refine x_ald hx hb hK hP 1 h rfl rfl dX0_cutsHorn_18 (fun x_2 ex_2 h => ?_)
    refine x_sti hx hb zT2 hS h dX0_cutsHorn_19 (fun x_3 ex_3 h => ?_)
    refine lv_istore_n (lv' := [(2, .int x_3), (0, .ref (o 0)), (1, .int p0)]) hx hb dX0_cutsHorn_20 rfl hl (by decide) rfl (fun ls hl => ?_)
    refine va_getsN hx hb zZ1 hS hown (va_Nw.use rfl n1) (fun _ h => h) dX0_cutsHorn_21 ?_
    refine lv_aload_n hx hb dX0_cutsHorn_24 rfl (lv_at hl 1 rfl) ?_
    refine gt_X0_9 S hK hP 0 rfl rfl dX0_cutsHorn_25 ?_
    refine lv_iload_n hx hb dX0_cutsHorn_28 rfl (lv_at hl 2 rfl) ?_
    refine x_ald hx hb hK hP 1 h rfl rfl dX0_cutsHorn_29 (fun x_4 ex_4 h => ?_)
    refine x_sti hx hb zT1 hS h dX0_cutsHorn_30 (fun x_5 ex_5 h => ?_)
    refine lv_iconst (v := 3) hx hb dX0_cutsHorn_31 (by decide) ?_
    obtain ⟨J48, eJ48, h⟩ := jnA_s h
    have wJ48 : ∀ (l2_6 : Int32), J48 l2_6 = some (r_out) → ∀ (H : Heap) (locs : List Loc), va_P D vwCl (pcX0 o cI v_size v_kind v_mark v_horn v_brass v_open v_health) H → va_D A (pcX0 o cI v_size v_kind v_mark v_horn v_brass v_open v_health) → va_S A s.heap H locs → ∀ ls : Array Slot, lv_has ls 3 [(0, .ref (o 0)), (1, .int p0), (2, .int l2_6)] → WI p l e 1 24 s m args below meth c D (tysX cI cS) A r_out (pcX0 o cI v_size v_kind v_mark v_horn v_brass v_open v_health) H locs (F0 m 48 ls []) := by
        intro l2_6 h H locs hP hD hS ls hl
        subst eJ48
        dsimp only at h
        refine lv_iload_n hx hb dX0_cutsHorn_48 rfl (lv_at hl 2 rfl) ?_
        refine lv_aload_n hx hb dX0_cutsHorn_49 rfl (lv_at hl 0 rfl) ?_
        refine gt_X0_18 S hK hP 0 rfl rfl dX0_cutsHorn_50 ?_
        refine lv_iload_n hx hb dX0_cutsHorn_53 rfl (lv_at hl 1 rfl) ?_
        refine x_ald hx hb hK hP 3 h rfl rfl dX0_cutsHorn_54 (fun x_7 ex_7 h => ?_)
        refine va_mmin hx hb (hml.trans hl.1.symm) hown (hts _ wd7_12) (hts _ wd7_13) (hts _ wd7_14) (hts _ wd7_15) (Nat.le_of_ble_eq_true rfl) (Nat.le_of_ble_eq_true rfl) (Nat.zero_le _) (Nat.zero_le _) dX0_cutsHorn_55 ?_
        refine x_topE (y := (minI l2_6 x_7)) rfl ?_
        cases h
        exact x_iret hx hb hr hlocks hK hP hD hS rfl rfl dX0_cutsHorn_58
    refine x_icmp_ne (tgt := 48) hx hb h dX0_cutsHorn_32 (by decide) (fun c32 h => ?_) (fun c32 h => ?_)
    · exact wJ48 x_3 h _ _ hP hD hS _ (lv_sub hl [1, 2, 0] rfl)
    · refine lv_iload_n hx hb dX0_cutsHorn_35 rfl (lv_at hl 0 rfl) ?_
      refine lv_iload_n hx hb dX0_cutsHorn_36 rfl (lv_at hl 0 rfl) ?_
      refine lv_aload_n hx hb dX0_cutsHorn_37 rfl (lv_at hl 1 rfl) ?_
      refine gt_X0_21 S hK hP 0 rfl rfl dX0_cutsHorn_38 ?_
      refine lv_iload_n hx hb dX0_cutsHorn_41 rfl (lv_at hl 2 rfl) ?_
      refine x_ald hx hb hK hP 4 h rfl rfl dX0_cutsHorn_42 (fun x_8 ex_8 h => ?_)
      refine va_mmin hx hb (hml.trans hl.1.symm) hown (hts _ wd7_12) (hts _ wd7_13) (hts _ wd7_14) (hts _ wd7_15) (Nat.le_of_ble_eq_true rfl) (Nat.le_of_ble_eq_true rfl) (Nat.zero_le _) (Nat.zero_le _) dX0_cutsHorn_43 ?_
      refine x_topE (y := (minI x_3 x_8)) rfl ?_
      refine lv_isub hx hb dX0_cutsHorn_46 ?_
      refine x_nm h (fun l2_9 el2_9 h => ?_)
      refine lv_istore_n (lv' := [(2, .int l2_9), (0, .ref (o 0)), (1, .int p0)]) hx hb dX0_cutsHorn_47 rfl hl (by decide) rfl (fun ls hl => ?_)
      exact wJ48 l2_9 h _ _ hP hD hS _ (lv_sub hl [1, 2, 0] rfl)
  · refine lv_iconst (v := 0) hx hb dX0_cutsHorn_8 (by decide) ?_
    cases h
    exact x_iret hx hb hr hlocks hK hP hD hS rfl rfl dX0_cutsHorn_9

def f_X0_cutsBrass  (v_kind : Nat → Int32) (v_horn : Nat → Int32) (v_brass : Nat → Int32) (v_health : Nat → Int32) (p0 : Int32) : Option ((Int32)) :=
  bd1 (f_X0_isWilling v_kind v_health p0) (fun r_1 => (if r_1 = 0 then some (0) else rdA 8 v_kind p0 (fun x_2 => rdA 7 s_BUTTONS x_2 (fun x_3 => rdA 8 v_kind p0 (fun x_4 => rdA 7 s_MANNER x_4 (fun x_5 => jnA (fun (l2_6 : Int32) => rdA 8 v_brass p0 (fun x_7 => some ((minI l2_6 x_7)))) (fun J48 => (if x_5 = 3 then J48 x_3 else rdA 8 v_horn p0 (fun x_8 => nmA (x_3 - (minI x_3 x_8)) (fun l2_9 => J48 l2_9))))))))))
set_option maxHeartbeats 600000 in
set_option maxRecDepth 100000 in
theorem c_X0_cutsBrass (l : Launch) (D : va_G) (cI cS : ClassId) (T : Nat → Nat) (o : Nat → Nat) {v_size : Int32} {v_kind : Nat → Int32} {v_mark : Nat → Int32} {v_horn : Nat → Int32} {v_brass : Nat → Int32} {v_open : Nat → Int32} {v_health : Nat → Int32} {p0 : Int32}  {r_out : Int32} (h : f_X0_cutsBrass  v_kind v_horn v_brass v_health p0 = some (r_out)) : MetI l D (tysX cI cS) (Sta T) yX0_cutsBrass cX0_cutsBrass 3 (some .int) 1 24 [.ref (o 0), .int p0] (pcX0 o cI v_size v_kind v_mark v_horn v_brass v_open v_health) r_out (pcX0 o cI v_size v_kind v_mark v_horn v_brass v_open v_health) := by
  refine Ent.metI (by decide +kernel) (Nat.le_of_ble_eq_true rfl) ?_
  intro p e s m args below meth c A ls hx hb hr hml hown hts hlocks hA hK hSt hP hD hS hl
  have hown : s.vm.findClass RX0 = some m.cls := hown
  have S : XFix p m c cX0_cutsBrass 3 s args RX0 := ⟨hx, hb, hml, hown, hts⟩
  have hl : lv_has ls 3 [(0, .ref (o 0)), (1, .int p0)] := hl
  unfold f_X0_cutsBrass at h
  obtain ⟨⟨n1, n2, n3, n4, n5, n6⟩, ⟨zZ0, zT0⟩, ⟨zZ1, zT1⟩, ⟨zZ2, zT2⟩, ⟨zZ3, zT3⟩⟩ := id hSt
  refine lv_aload_n hx hb dX0_cutsBrass_0 rfl (lv_at hl 0 rfl) ?_
  refine lv_iload_n hx hb dX0_cutsBrass_1 rfl (lv_at hl 1 rfl) ?_
  obtain ⟨r_1, hc2, h⟩ := bd1_s h
  refine x_selfVi (As := [.int p0]) (rest := []) (Sta_ok T) S (c_X0_isWilling l D cI cS T o hc2) yf_X0_isWilling wd7_16 ⟨Nat.le_of_ble_eq_true rfl, Nat.le_of_ble_eq_true rfl⟩ hK hSt hA hP hD hS 0 rfl rfl rfl hl.1 rfl (Nat.le_of_ble_eq_true rfl) dX0_cutsBrass_2 (Nat.zero_le _) (Nat.zero_le _) (fun H locs hP hD hS => ?_)
  refine x_if_ne (tgt := 10) hx hb h dX0_cutsBrass_5 (by decide) (fun c5 h => ?_) (fun c5 h => ?_)
  · refine va_getsN hx hb zZ2 hS hown (va_Nw.use rfl n2) (fun _ h => h) dX0_cutsBrass_10 ?_
    refine lv_aload_n hx hb dX0_cutsBrass_13 rfl (lv_at hl 0 rfl) ?_
    refine gt_X0_9 S hK hP 0 rfl rfl dX0_cutsBrass_14 ?_
    refine lv_iload_n hx hb dX0_cutsBrass_17 rfl (lv_at hl 1 rfl) ?_
    refine x_ald hx hb hK hP 1 h rfl rfl dX0_cutsBrass_18 (fun x_2 ex_2 h => ?_)
    refine x_sti hx hb zT2 hS h dX0_cutsBrass_19 (fun x_3 ex_3 h => ?_)
    refine lv_istore_n (lv' := [(2, .int x_3), (0, .ref (o 0)), (1, .int p0)]) hx hb dX0_cutsBrass_20 rfl hl (by decide) rfl (fun ls hl => ?_)
    refine va_getsN hx hb zZ1 hS hown (va_Nw.use rfl n1) (fun _ h => h) dX0_cutsBrass_21 ?_
    refine lv_aload_n hx hb dX0_cutsBrass_24 rfl (lv_at hl 1 rfl) ?_
    refine gt_X0_9 S hK hP 0 rfl rfl dX0_cutsBrass_25 ?_
    refine lv_iload_n hx hb dX0_cutsBrass_28 rfl (lv_at hl 2 rfl) ?_
    refine x_ald hx hb hK hP 1 h rfl rfl dX0_cutsBrass_29 (fun x_4 ex_4 h => ?_)
    refine x_sti hx hb zT1 hS h dX0_cutsBrass_30 (fun x_5 ex_5 h => ?_)
    refine lv_iconst (v := 3) hx hb dX0_cutsBrass_31 (by decide) ?_
    obtain ⟨J48, eJ48, h⟩ := jnA_s h
    have wJ48 : ∀ (l2_6 : Int32), J48 l2_6 = some (r_out) → ∀ (H : Heap) (locs : List Loc), va_P D vwCl (pcX0 o cI v_size v_kind v_mark v_horn v_brass v_open v_health) H → va_D A (pcX0 o cI v_size v_kind v_mark v_horn v_brass v_open v_health) → va_S A s.heap H locs → ∀ ls : Array Slot, lv_has ls 3 [(0, .ref (o 0)), (1, .int p0), (2, .int l2_6)] → WI p l e 1 24 s m args below meth c D (tysX cI cS) A r_out (pcX0 o cI v_size v_kind v_mark v_horn v_brass v_open v_health) H locs (F0 m 48 ls []) := by
        intro l2_6 h H locs hP hD hS ls hl
        subst eJ48
        dsimp only at h
        refine lv_iload_n hx hb dX0_cutsBrass_48 rfl (lv_at hl 2 rfl) ?_
        refine lv_aload_n hx hb dX0_cutsBrass_49 rfl (lv_at hl 0 rfl) ?_
        refine gt_X0_21 S hK hP 0 rfl rfl dX0_cutsBrass_50 ?_
        refine lv_iload_n hx hb dX0_cutsBrass_53 rfl (lv_at hl 1 rfl) ?_
        refine x_ald hx hb hK hP 4 h rfl rfl dX0_cutsBrass_54 (fun x_7 ex_7 h => ?_)
        refine va_mmin hx hb (hml.trans hl.1.symm) hown (hts _ wd7_12) (hts _ wd7_13) (hts _ wd7_14) (hts _ wd7_15) (Nat.le_of_ble_eq_true rfl) (Nat.le_of_ble_eq_true rfl) (Nat.zero_le _) (Nat.zero_le _) dX0_cutsBrass_55 ?_
        refine x_topE (y := (minI l2_6 x_7)) rfl ?_
        cases h
        exact x_iret hx hb hr hlocks hK hP hD hS rfl rfl dX0_cutsBrass_58
    refine x_icmp_eq (tgt := 48) hx hb h dX0_cutsBrass_32 (by decide) (fun c32 h => ?_) (fun c32 h => ?_)
    · exact wJ48 x_3 h _ _ hP hD hS _ (lv_sub hl [1, 2, 0] rfl)
    · refine lv_iload_n hx hb dX0_cutsBrass_35 rfl (lv_at hl 0 rfl) ?_
      refine lv_iload_n hx hb dX0_cutsBrass_36 rfl (lv_at hl 0 rfl) ?_
      refine lv_aload_n hx hb dX0_cutsBrass_37 rfl (lv_at hl 1 rfl) ?_
      refine gt_X0_18 S hK hP 0 rfl rfl dX0_cutsBrass_38 ?_
      refine lv_iload_n hx hb dX0_cutsBrass_41 rfl (lv_at hl 2 rfl) ?_
      refine x_ald hx hb hK hP 3 h rfl rfl dX0_cutsBrass_42 (fun x_8 ex_8 h => ?_)
      refine va_mmin hx hb (hml.trans hl.1.symm) hown (hts _ wd7_12) (hts _ wd7_13) (hts _ wd7_14) (hts _ wd7_15) (Nat.le_of_ble_eq_true rfl) (Nat.le_of_ble_eq_true rfl) (Nat.zero_le _) (Nat.zero_le _) dX0_cutsBrass_43 ?_
      refine x_topE (y := (minI x_3 x_8)) rfl ?_
      refine lv_isub hx hb dX0_cutsBrass_46 ?_
      refine x_nm h (fun l2_9 el2_9 h => ?_)
      refine lv_istore_n (lv' := [(2, .int l2_9), (0, .ref (o 0)), (1, .int p0)]) hx hb dX0_cutsBrass_47 rfl hl (by decide) rfl (fun ls hl => ?_)
      exact wJ48 l2_9 h _ _ hP hD hS _ (lv_sub hl [1, 2, 0] rfl)
  · refine lv_iconst (v := 0) hx hb dX0_cutsBrass_8 (by decide) ?_
    cases h
    exact x_iret hx hb hr hlocks hK hP hD hS rfl rfl dX0_cutsBrass_9

def f_X0_counts  (v_kind : Nat → Int32) (v_mark : Nat → Int32) (v_horn : Nat → Int32) (v_brass : Nat → Int32) (v_health : Nat → Int32) (p0 : Int32) : Option ((Int32)) :=
  bd1 (f_X0_isWilling v_kind v_health p0) (fun r_1 => (if r_1 = 0 then some (0) else rdA 8 v_kind p0 (fun x_2 => rdA 7 s_MANNER x_2 (fun x_3 => (if x_3 = 2 then rdA 8 v_mark p0 (fun x_7 => nzA 2 (rdA 8 v_kind p0 (fun x_8 => (if x_8 = 5 then rdA 8 v_health p0 (fun x_9 => (if 50 ≤ x_9 then some (((rmI x_7 2) + 0)) else some (((rmI x_7 2) + 1)))) else some (((rmI x_7 2) + 0)))))) else bd1 (f_X0_cutsHorn v_kind v_horn v_brass v_health p0) (fun r_4 => bd1 (f_X0_cutsBrass v_kind v_horn v_brass v_health p0) (fun r_5 => rdA 8 v_kind p0 (fun x_6 => (if x_6 = 4 then some ((r_4 + (r_5 * 5))) else some ((r_4 + (r_5 * 3))))))))))))
set_option maxHeartbeats 600000 in
set_option maxRecDepth 100000 in
theorem c_X0_counts (l : Launch) (D : va_G) (cI cS : ClassId) (T : Nat → Nat) (o : Nat → Nat) {v_size : Int32} {v_kind : Nat → Int32} {v_mark : Nat → Int32} {v_horn : Nat → Int32} {v_brass : Nat → Int32} {v_open : Nat → Int32} {v_health : Nat → Int32} {p0 : Int32}  {r_out : Int32} (h : f_X0_counts  v_kind v_mark v_horn v_brass v_health p0 = some (r_out)) : MetI l D (tysX cI cS) (Sta T) yX0_counts cX0_counts 2 (some .int) 2 46 [.ref (o 0), .int p0] (pcX0 o cI v_size v_kind v_mark v_horn v_brass v_open v_health) r_out (pcX0 o cI v_size v_kind v_mark v_horn v_brass v_open v_health) := by
  refine Ent.metI (by decide +kernel) (Nat.le_of_ble_eq_true rfl) ?_
  intro p e s m args below meth c A ls hx hb hr hml hown hts hlocks hA hK hSt hP hD hS hl
  have hown : s.vm.findClass RX0 = some m.cls := hown
  have S : XFix p m c cX0_counts 2 s args RX0 := ⟨hx, hb, hml, hown, hts⟩
  have hl : lv_has ls 2 [(0, .ref (o 0)), (1, .int p0)] := hl
  unfold f_X0_counts at h
  obtain ⟨⟨n1, n2, n3, n4, n5, n6⟩, ⟨zZ0, zT0⟩, ⟨zZ1, zT1⟩, ⟨zZ2, zT2⟩, ⟨zZ3, zT3⟩⟩ := id hSt
  refine lv_aload_n hx hb dX0_counts_0 rfl (lv_at hl 0 rfl) ?_
  refine lv_iload_n hx hb dX0_counts_1 rfl (lv_at hl 1 rfl) ?_
  obtain ⟨r_1, hc2, h⟩ := bd1_s h
  refine x_selfVi (As := [.int p0]) (rest := []) (Sta_ok T) S (c_X0_isWilling l D cI cS T o hc2) yf_X0_isWilling wd7_16 ⟨Nat.le_of_ble_eq_true rfl, Nat.le_of_ble_eq_true rfl⟩ hK hSt hA hP hD hS 0 rfl rfl rfl hl.1 rfl (Nat.le_of_ble_eq_true rfl) dX0_counts_2 (Nat.zero_le _) (Nat.zero_le _) (fun H locs hP hD hS => ?_)
  refine x_if_ne (tgt := 10) hx hb h dX0_counts_5 (by decide) (fun c5 h => ?_) (fun c5 h => ?_)
  · refine va_getsN hx hb zZ1 hS hown (va_Nw.use rfl n1) (fun _ h => h) dX0_counts_10 ?_
    refine lv_aload_n hx hb dX0_counts_13 rfl (lv_at hl 0 rfl) ?_
    refine gt_X0_9 S hK hP 0 rfl rfl dX0_counts_14 ?_
    refine lv_iload_n hx hb dX0_counts_17 rfl (lv_at hl 1 rfl) ?_
    refine x_ald hx hb hK hP 1 h rfl rfl dX0_counts_18 (fun x_2 ex_2 h => ?_)
    refine x_sti hx hb zT1 hS h dX0_counts_19 (fun x_3 ex_3 h => ?_)
    refine lv_iconst (v := 2) hx hb dX0_counts_20 (by decide) ?_
    refine x_icmp_ne (tgt := 60) hx hb h dX0_counts_21 (by decide) (fun c21 h => ?_) (fun c21 h => ?_)
    · refine lv_aload_n hx hb dX0_counts_60 rfl (lv_at hl 0 rfl) ?_
      refine lv_iload_n hx hb dX0_counts_61 rfl (lv_at hl 1 rfl) ?_
      obtain ⟨r_4, hc62, h⟩ := bd1_s h
      refine x_selfVi (As := [.int p0]) (rest := []) (Sta_ok T) S (c_X0_cutsHorn l D cI cS T o hc62) yf_X0_cutsHorn wd8_1 ⟨Nat.le_of_ble_eq_true rfl, Nat.le_of_ble_eq_true rfl⟩ hK hSt hA hP hD hS 0 rfl rfl rfl hl.1 rfl (Nat.le_of_ble_eq_true rfl) dX0_counts_62 (Nat.zero_le _) (Nat.zero_le _) (fun H locs hP hD hS => ?_)
      refine lv_aload_n hx hb dX0_counts_65 rfl (lv_at hl 0 rfl) ?_
      refine lv_iload_n hx hb dX0_counts_66 rfl (lv_at hl 1 rfl) ?_
      obtain ⟨r_5, hc67, h⟩ := bd1_s h
      refine x_selfVi (As := [.int p0]) (rest := [.int r_4]) (Sta_ok T) S (c_X0_cutsBrass l D cI cS T o hc67) yf_X0_cutsBrass wd8_2 ⟨Nat.le_of_ble_eq_true rfl, Nat.le_of_ble_eq_true rfl⟩ hK hSt hA hP hD hS 0 rfl rfl rfl hl.1 rfl (Nat.le_of_ble_eq_true rfl) dX0_counts_67 (Nat.zero_le _) (Nat.zero_le _) (fun H locs hP hD hS => ?_)
      refine lv_aload_n hx hb dX0_counts_70 rfl (lv_at hl 0 rfl) ?_
      refine gt_X0_9 S hK hP 0 rfl rfl dX0_counts_71 ?_
      refine lv_iload_n hx hb dX0_counts_74 rfl (lv_at hl 1 rfl) ?_
      refine x_ald hx hb hK hP 1 h rfl rfl dX0_counts_75 (fun x_6 ex_6 h => ?_)
      refine lv_iconst (v := 4) hx hb dX0_counts_76 (by decide) ?_
      refine x_icmp_ne (tgt := 84) hx hb h dX0_counts_77 (by decide) (fun c77 h => ?_) (fun c77 h => ?_)
      · refine lv_iconst (v := 3) hx hb dX0_counts_84 (by decide) ?_
        refine lv_imul hx hb dX0_counts_85 ?_
        refine lv_iadd hx hb dX0_counts_86 ?_
        cases h
        exact x_iret hx hb hr hlocks hK hP hD hS rfl rfl dX0_counts_87
      · refine lv_iconst (v := 5) hx hb dX0_counts_80 (by decide) ?_
        refine lv_goto (tgt := 85) hx hb dX0_counts_81 (by decide) ?_
        refine lv_imul hx hb dX0_counts_85 ?_
        refine lv_iadd hx hb dX0_counts_86 ?_
        cases h
        exact x_iret hx hb hr hlocks hK hP hD hS rfl rfl dX0_counts_87
    · refine lv_aload_n hx hb dX0_counts_24 rfl (lv_at hl 0 rfl) ?_
      refine gt_X0_15 S hK hP 0 rfl rfl dX0_counts_25 ?_
      refine lv_iload_n hx hb dX0_counts_28 rfl (lv_at hl 1 rfl) ?_
      refine x_ald hx hb hK hP 2 h rfl rfl dX0_counts_29 (fun x_7 ex_7 h => ?_)
      refine lv_iconst (v := 2) hx hb dX0_counts_30 (by decide) ?_
      refine x_irem hx hb h dX0_counts_31 (fun h => ?_)
      refine lv_aload_n hx hb dX0_counts_32 rfl (lv_at hl 0 rfl) ?_
      refine gt_X0_9 S hK hP 0 rfl rfl dX0_counts_33 ?_
      refine lv_iload_n hx hb dX0_counts_36 rfl (lv_at hl 1 rfl) ?_
      refine x_ald hx hb hK hP 1 h rfl rfl dX0_counts_37 (fun x_8 ex_8 h => ?_)
      refine lv_iconst (v := 5) hx hb dX0_counts_38 (by decide) ?_
      refine x_icmp_ne (tgt := 57) hx hb h dX0_counts_39 (by decide) (fun c39 h => ?_) (fun c39 h => ?_)
      · refine lv_iconst (v := 0) hx hb dX0_counts_57 (by decide) ?_
        refine lv_iadd hx hb dX0_counts_58 ?_
        cases h
        exact x_iret hx hb hr hlocks hK hP hD hS rfl rfl dX0_counts_59
      · refine lv_aload_n hx hb dX0_counts_42 rfl (lv_at hl 0 rfl) ?_
        refine gt_X0_27 S hK hP 0 rfl rfl dX0_counts_43 ?_
        refine lv_iload_n hx hb dX0_counts_46 rfl (lv_at hl 1 rfl) ?_
        refine x_ald hx hb hK hP 6 h rfl rfl dX0_counts_47 (fun x_9 ex_9 h => ?_)
        refine lv_bipush (v := 50) hx hb dX0_counts_48 (by decide) ?_
        refine x_icmp_ge (tgt := 57) hx hb h dX0_counts_50 (by decide) (fun c50 h => ?_) (fun c50 h => ?_)
        · refine lv_iconst (v := 0) hx hb dX0_counts_57 (by decide) ?_
          refine lv_iadd hx hb dX0_counts_58 ?_
          cases h
          exact x_iret hx hb hr hlocks hK hP hD hS rfl rfl dX0_counts_59
        · refine lv_iconst (v := 1) hx hb dX0_counts_53 (by decide) ?_
          refine lv_goto (tgt := 58) hx hb dX0_counts_54 (by decide) ?_
          refine lv_iadd hx hb dX0_counts_58 ?_
          cases h
          exact x_iret hx hb hr hlocks hK hP hD hS rfl rfl dX0_counts_59
  · refine lv_iconst (v := 0) hx hb dX0_counts_8 (by decide) ?_
    cases h
    exact x_iret hx hb hr hlocks hK hP hD hS rfl rfl dX0_counts_9

def f_X0_chillOf  (v_kind : Nat → Int32) (v_mark : Nat → Int32) (p0 : Int32) (p1 : Int32) : Option ((Int32)) :=
  rdA 8 v_kind p0 (fun x_1 => (if x_1 = 1 then nzA 2 (some ((p1 / 2))) else (if x_1 = 2 then some ((p1 + 2)) else (if x_1 = 3 then some (p1) else (if x_1 = 4 then nzA 2 (rdA 8 v_mark p0 (fun x_2 => some ((maxI 0 ((p1 / 2) - x_2))))) else (if x_1 = 5 then rdA 8 v_mark p0 (fun x_3 => some ((maxI 0 ((p1 + 2) - x_3)))) else some (p1)))))))
set_option maxHeartbeats 600000 in
set_option maxRecDepth 100000 in
theorem c_X0_chillOf (l : Launch) (D : va_G) (cI cS : ClassId) (T : Nat → Nat) (o : Nat → Nat) {v_size : Int32} {v_kind : Nat → Int32} {v_mark : Nat → Int32} {v_horn : Nat → Int32} {v_brass : Nat → Int32} {v_open : Nat → Int32} {v_health : Nat → Int32} {p0 : Int32} {p1 : Int32}  {r_out : Int32} (h : f_X0_chillOf  v_kind v_mark p0 p1 = some (r_out)) : MetI l D (tysX cI cS) (Sta T) yX0_chillOf cX0_chillOf 3 (some .int) 1 24 [.ref (o 0), .int p0, .int p1] (pcX0 o cI v_size v_kind v_mark v_horn v_brass v_open v_health) r_out (pcX0 o cI v_size v_kind v_mark v_horn v_brass v_open v_health) := by
  refine Ent.metI (by decide +kernel) (Nat.le_of_ble_eq_true rfl) ?_
  intro p e s m args below meth c A ls hx hb hr hml hown hts hlocks hA hK hSt hP hD hS hl
  have hown : s.vm.findClass RX0 = some m.cls := hown
  have S : XFix p m c cX0_chillOf 3 s args RX0 := ⟨hx, hb, hml, hown, hts⟩
  have hl : lv_has ls 3 [(0, .ref (o 0)), (1, .int p0), (2, .int p1)] := hl
  unfold f_X0_chillOf at h
  refine lv_aload_n hx hb dX0_chillOf_0 rfl (lv_at hl 0 rfl) ?_
  refine gt_X0_9 S hK hP 0 rfl rfl dX0_chillOf_1 ?_
  refine lv_iload_n hx hb dX0_chillOf_4 rfl (lv_at hl 1 rfl) ?_
  refine x_ald hx hb hK hP 1 h rfl rfl dX0_chillOf_5 (fun x_1 ex_1 h => ?_)
  by_cases c6_0 : x_1 = 1
  · replace h := ite_t c6_0 h
    refine lv_tableIn (off := 34) (tgt := 40) hx hb dX0_chillOf_6 (by rw [c6_0]; decide) (by rw [c6_0]; decide) (by rw [c6_0]; rfl) (by decide) ?_
    refine lv_iload_n hx hb dX0_chillOf_40 rfl (lv_at hl 2 rfl) ?_
    refine lv_iconst (v := 2) hx hb dX0_chillOf_41 (by decide) ?_
    refine x_idiv hx hb h dX0_chillOf_42 (fun h => ?_)
    cases h
    exact x_iret hx hb hr hlocks hK hP hD hS rfl rfl dX0_chillOf_43
  replace h := ite_f c6_0 h
  by_cases c6_1 : x_1 = 2
  · replace h := ite_t c6_1 h
    refine lv_tableIn (off := 53) (tgt := 59) hx hb dX0_chillOf_6 (by rw [c6_1]; decide) (by rw [c6_1]; decide) (by rw [c6_1]; rfl) (by decide) ?_
    refine lv_iload_n hx hb dX0_chillOf_59 rfl (lv_at hl 2 rfl) ?_
    refine lv_iconst (v := 2) hx hb dX0_chillOf_60 (by decide) ?_
    refine lv_iadd hx hb dX0_chillOf_61 ?_
    cases h
    exact x_iret hx hb hr hlocks hK hP hD hS rfl rfl dX0_chillOf_62
  replace h := ite_f c6_1 h
  by_cases c6_2 : x_1 = 3
  · replace h := ite_t c6_2 h
    refine lv_tableIn (off := 72) (tgt := 78) hx hb dX0_chillOf_6 (by rw [c6_2]; decide) (by rw [c6_2]; decide) (by rw [c6_2]; rfl) (by decide) ?_
    refine lv_iload_n hx hb dX0_chillOf_78 rfl (lv_at hl 2 rfl) ?_
    cases h
    exact x_iret hx hb hr hlocks hK hP hD hS rfl rfl dX0_chillOf_79
  replace h := ite_f c6_2 h
  by_cases c6_3 : x_1 = 4
  · replace h := ite_t c6_3 h
    refine lv_tableIn (off := 38) (tgt := 44) hx hb dX0_chillOf_6 (by rw [c6_3]; decide) (by rw [c6_3]; decide) (by rw [c6_3]; rfl) (by decide) ?_
    refine lv_iconst (v := 0) hx hb dX0_chillOf_44 (by decide) ?_
    refine lv_iload_n hx hb dX0_chillOf_45 rfl (lv_at hl 2 rfl) ?_
    refine lv_iconst (v := 2) hx hb dX0_chillOf_46 (by decide) ?_
    refine x_idiv hx hb h dX0_chillOf_47 (fun h => ?_)
    refine lv_aload_n hx hb dX0_chillOf_48 rfl (lv_at hl 0 rfl) ?_
    refine gt_X0_15 S hK hP 0 rfl rfl dX0_chillOf_49 ?_
    refine lv_iload_n hx hb dX0_chillOf_52 rfl (lv_at hl 1 rfl) ?_
    refine x_ald hx hb hK hP 2 h rfl rfl dX0_chillOf_53 (fun x_2 ex_2 h => ?_)
    refine lv_isub hx hb dX0_chillOf_54 ?_
    refine va_mmax hx hb (hml.trans hl.1.symm) hown (hts _ wd9_19) (hts _ wd9_5) (hts _ wd7_14) (hts _ wd9_6) (Nat.le_of_ble_eq_true rfl) (Nat.le_of_ble_eq_true rfl) (Nat.zero_le _) (Nat.zero_le _) dX0_chillOf_55 ?_
    refine x_topE (y := (maxI 0 ((p1 / 2) - x_2))) rfl ?_
    cases h
    exact x_iret hx hb hr hlocks hK hP hD hS rfl rfl dX0_chillOf_58
  replace h := ite_f c6_3 h
  by_cases c6_4 : x_1 = 5
  · replace h := ite_t c6_4 h
    refine lv_tableIn (off := 57) (tgt := 63) hx hb dX0_chillOf_6 (by rw [c6_4]; decide) (by rw [c6_4]; decide) (by rw [c6_4]; rfl) (by decide) ?_
    refine lv_iconst (v := 0) hx hb dX0_chillOf_63 (by decide) ?_
    refine lv_iload_n hx hb dX0_chillOf_64 rfl (lv_at hl 2 rfl) ?_
    refine lv_iconst (v := 2) hx hb dX0_chillOf_65 (by decide) ?_
    refine lv_iadd hx hb dX0_chillOf_66 ?_
    refine lv_aload_n hx hb dX0_chillOf_67 rfl (lv_at hl 0 rfl) ?_
    refine gt_X0_15 S hK hP 0 rfl rfl dX0_chillOf_68 ?_
    refine lv_iload_n hx hb dX0_chillOf_71 rfl (lv_at hl 1 rfl) ?_
    refine x_ald hx hb hK hP 2 h rfl rfl dX0_chillOf_72 (fun x_3 ex_3 h => ?_)
    refine lv_isub hx hb dX0_chillOf_73 ?_
    refine va_mmax hx hb (hml.trans hl.1.symm) hown (hts _ wd9_19) (hts _ wd9_5) (hts _ wd7_14) (hts _ wd9_6) (Nat.le_of_ble_eq_true rfl) (Nat.le_of_ble_eq_true rfl) (Nat.zero_le _) (Nat.zero_le _) dX0_chillOf_74 ?_
    refine x_topE (y := (maxI 0 ((p1 + 2) - x_3))) rfl ?_
    cases h
    exact x_iret hx hb hr hlocks hK hP hD hS rfl rfl dX0_chillOf_77
  replace h := ite_f c6_4 h
  refine lv_tableOut (tgt := 78) hx hb dX0_chillOf_6 (by have n0 := lv_neT c6_0 (show ((1) : Int32).toInt = 1 by decide); have n1 := lv_neT c6_1 (show ((2) : Int32).toInt = 2 by decide); have n2 := lv_neT c6_2 (show ((3) : Int32).toInt = 3 by decide); have n3 := lv_neT c6_3 (show ((4) : Int32).toInt = 4 by decide); have n4 := lv_neT c6_4 (show ((5) : Int32).toInt = 5 by decide); omega) (by decide) ?_
  refine lv_iload_n hx hb dX0_chillOf_78 rfl (lv_at hl 2 rfl) ?_
  cases h
  exact x_iret hx hb hr hlocks hK hP hD hS rfl rfl dX0_chillOf_79

def f_X0_countsOf_L4 (v_size : Int32) (v_kind : Nat → Int32) (v_mark : Nat → Int32) (v_horn : Nat → Int32) (v_brass : Nat → Int32) (v_health : Nat → Int32) (p0 : Int32) : Nat → Int32 → Int32 → Option ((Int32))
  | 0, _, _ => none
  | k_n + 1, l2_1, l3_2 => (if v_size ≤ l3_2 then some (l2_1) else bd1 (f_X6_isIn p0 l3_2) (fun r_3 => jnA (fun (l2_4 : Int32) => nmA (l3_2 + 1) (fun l3_5 => f_X0_countsOf_L4 v_size v_kind v_mark v_horn v_brass v_health p0 k_n l2_4 l3_5)) (fun J28 => (if r_3 = 0 then J28 l2_1 else bd1 (f_X0_counts v_kind v_mark v_horn v_brass v_health l3_2) (fun r_6 => nmA (l2_1 + r_6) (fun l2_7 => J28 l2_7))))))
def f_X0_countsOf  (v_size : Int32) (v_kind : Nat → Int32) (v_mark : Nat → Int32) (v_horn : Nat → Int32) (v_brass : Nat → Int32) (v_health : Nat → Int32) (p0 : Int32) : Option ((Int32)) :=
  f_X0_countsOf_L4 v_size v_kind v_mark v_horn v_brass v_health p0 300 0 0
set_option maxHeartbeats 600000 in
set_option maxRecDepth 100000 in
theorem c_X0_countsOf (l : Launch) (D : va_G) (cI cS : ClassId) (T : Nat → Nat) (o : Nat → Nat) {v_size : Int32} {v_kind : Nat → Int32} {v_mark : Nat → Int32} {v_horn : Nat → Int32} {v_brass : Nat → Int32} {v_open : Nat → Int32} {v_health : Nat → Int32} {p0 : Int32}  {r_out : Int32} (h : f_X0_countsOf  v_size v_kind v_mark v_horn v_brass v_health p0 = some (r_out)) : MetI l D (tysX cI cS) (Sta T) yX0_countsOf cX0_countsOf 4 (some .int) 3 67 [.ref (o 0), .int p0] (pcX0 o cI v_size v_kind v_mark v_horn v_brass v_open v_health) r_out (pcX0 o cI v_size v_kind v_mark v_horn v_brass v_open v_health) := by
  refine Ent.metI (by decide +kernel) (Nat.le_of_ble_eq_true rfl) ?_
  intro p e s m args below meth c A ls hx hb hr hml hown hts hlocks hA hK hSt hP hD hS hl
  have hown : s.vm.findClass RX0 = some m.cls := hown
  have S : XFix p m c cX0_countsOf 4 s args RX0 := ⟨hx, hb, hml, hown, hts⟩
  have hl : lv_has ls 4 [(0, .ref (o 0)), (1, .int p0)] := hl
  unfold f_X0_countsOf at h
  obtain ⟨⟨n1, n2, n3, n4, n5, n6⟩, ⟨zZ0, zT0⟩, ⟨zZ1, zT1⟩, ⟨zZ2, zT2⟩, ⟨zZ3, zT3⟩⟩ := id hSt
  refine lv_iconst (v := 0) hx hb dX0_countsOf_0 (by decide) ?_
  refine lv_istore_n (lv' := [(2, .int 0), (0, .ref (o 0)), (1, .int p0)]) hx hb dX0_countsOf_1 rfl hl (by decide) rfl (fun ls hl => ?_)
  refine lv_iconst (v := 0) hx hb dX0_countsOf_2 (by decide) ?_
  refine lv_istore_n (lv' := [(3, .int 0), (2, .int 0), (0, .ref (o 0)), (1, .int p0)]) hx hb dX0_countsOf_3 rfl hl (by decide) rfl (fun ls hl => ?_)
  have wf_X0_countsOf_L4 : ∀ (k_n : Nat) (l2_1 : Int32) (l3_2 : Int32), f_X0_countsOf_L4 v_size v_kind v_mark v_horn v_brass v_health p0 k_n l2_1 l3_2 = some (r_out) → ∀ (H : Heap) (locs : List Loc), va_P D vwCl (pcX0 o cI v_size v_kind v_mark v_horn v_brass v_open v_health) H → va_D A (pcX0 o cI v_size v_kind v_mark v_horn v_brass v_open v_health) → va_S A s.heap H locs → ∀ ls : Array Slot, lv_has ls 4 [(0, .ref (o 0)), (1, .int p0), (2, .int l2_1), (3, .int l3_2)] → WI p l e 3 67 s m args below meth c D (tysX cI cS) A r_out (pcX0 o cI v_size v_kind v_mark v_horn v_brass v_open v_health) H locs (F0 m 4 ls []) := by
      intro k_n
      induction k_n with
      | zero => intro l2_1 l3_2 h; rw [f_X0_countsOf_L4] at h; cases h
      | succ k_n ih =>
        intro l2_1 l3_2 h H locs hP hD hS ls hl
        rw [f_X0_countsOf_L4] at h
        refine lv_iload_n hx hb dX0_countsOf_4 rfl (lv_at hl 3 rfl) ?_
        refine lv_aload_n hx hb dX0_countsOf_5 rfl (lv_at hl 0 rfl) ?_
        refine gt_X0_30 S hK hP 0 rfl rfl dX0_countsOf_6 ?_
        refine x_icmp_ge (tgt := 34) hx hb h dX0_countsOf_9 (by decide) (fun c9 h => ?_) (fun c9 h => ?_)
        · refine lv_iload_n hx hb dX0_countsOf_34 rfl (lv_at hl 2 rfl) ?_
          cases h
          exact x_iret hx hb hr hlocks hK hP hD hS rfl rfl dX0_countsOf_35
        · refine lv_iload_n hx hb dX0_countsOf_12 rfl (lv_at hl 1 rfl) ?_
          refine lv_iload_n hx hb dX0_countsOf_13 rfl (lv_at hl 3 rfl) ?_
          obtain ⟨r_3, hc14, h⟩ := bd1_s h
          refine x_statIN (As := [.int p0, .int l3_2]) (rest := []) (Sta_ok T) S (c_X6_isIn l D cI cS T o hc14) ys_X6_isIn n5 ⟨Nat.le_of_ble_eq_true rfl, Nat.le_of_ble_eq_true rfl⟩ hK hSt hA hP hD hS rfl hl.1 rfl (Nat.le_of_ble_eq_true rfl) dX0_countsOf_14 (Nat.zero_le _) (Nat.zero_le _) (fun H locs hP hD hS => ?_)
          obtain ⟨J28, eJ28, h⟩ := jnA_s h
          have wJ28 : ∀ (l2_4 : Int32), J28 l2_4 = some (r_out) → ∀ (H : Heap) (locs : List Loc), va_P D vwCl (pcX0 o cI v_size v_kind v_mark v_horn v_brass v_open v_health) H → va_D A (pcX0 o cI v_size v_kind v_mark v_horn v_brass v_open v_health) → va_S A s.heap H locs → ∀ ls : Array Slot, lv_has ls 4 [(0, .ref (o 0)), (1, .int p0), (2, .int l2_4), (3, .int l3_2)] → WI p l e 3 67 s m args below meth c D (tysX cI cS) A r_out (pcX0 o cI v_size v_kind v_mark v_horn v_brass v_open v_health) H locs (F0 m 28 ls []) := by
              intro l2_4 h H locs hP hD hS ls hl
              subst eJ28
              dsimp only at h
              obtain ⟨l3_5, el3_5, h⟩ := nmA_s h
              refine lv_iinc (v := l3_5) (lv' := [(3, .int l3_5), (0, .ref (o 0)), (1, .int p0), (2, .int l2_4)]) hx hb dX0_countsOf_28 hl (k := 3) rfl (by rw [el3_5]; exact congrArg _ (by decide)) (by decide) rfl (fun ls hl => ?_)
              refine lv_goto (tgt := 4) hx hb dX0_countsOf_31 (by decide) ?_
              exact ih l2_4 l3_5 h _ _ hP hD hS _ (lv_sub hl [1, 2, 3, 0] rfl)
          refine x_if_eq (tgt := 28) hx hb h dX0_countsOf_17 (by decide) (fun c17 h => ?_) (fun c17 h => ?_)
          · exact wJ28 l2_1 h _ _ hP hD hS _ (lv_sub hl [0, 1, 2, 3] rfl)
          · refine lv_iload_n hx hb dX0_countsOf_20 rfl (lv_at hl 2 rfl) ?_
            refine lv_aload_n hx hb dX0_countsOf_21 rfl (lv_at hl 0 rfl) ?_
            refine lv_iload_n hx hb dX0_countsOf_22 rfl (lv_at hl 3 rfl) ?_
            obtain ⟨r_6, hc23, h⟩ := bd1_s h
            refine x_selfVi (As := [.int l3_2]) (rest := [.int l2_1]) (Sta_ok T) S (c_X0_counts l D cI cS T o hc23) yf_X0_counts wd15_11 ⟨Nat.le_of_ble_eq_true rfl, Nat.le_of_ble_eq_true rfl⟩ hK hSt hA hP hD hS 0 rfl rfl rfl hl.1 rfl (Nat.le_of_ble_eq_true rfl) dX0_countsOf_23 (Nat.zero_le _) (Nat.zero_le _) (fun H locs hP hD hS => ?_)
            refine lv_iadd hx hb dX0_countsOf_26 ?_
            refine x_nm h (fun l2_7 el2_7 h => ?_)
            refine lv_istore_n (lv' := [(2, .int l2_7), (0, .ref (o 0)), (1, .int p0), (3, .int l3_2)]) hx hb dX0_countsOf_27 rfl hl (by decide) rfl (fun ls hl => ?_)
            exact wJ28 l2_7 h _ _ hP hD hS _ (lv_sub hl [1, 2, 0, 3] rfl)
  exact wf_X0_countsOf_L4 300 0 0 h _ _ hP hD hS _ (lv_sub hl [2, 3, 1, 0] rfl)

def f_X0_hornOf_L4 (v_size : Int32) (v_kind : Nat → Int32) (v_horn : Nat → Int32) (v_brass : Nat → Int32) (v_health : Nat → Int32) (p0 : Int32) : Nat → Int32 → Int32 → Option ((Int32))
  | 0, _, _ => none
  | k_n + 1, l2_1, l3_2 => (if v_size ≤ l3_2 then some (l2_1) else bd1 (f_X6_isIn p0 l3_2) (fun r_3 => jnA (fun (l2_4 : Int32) => nmA (l3_2 + 1) (fun l3_5 => f_X0_hornOf_L4 v_size v_kind v_horn v_brass v_health p0 k_n l2_4 l3_5)) (fun J28 => (if r_3 = 0 then J28 l2_1 else bd1 (f_X0_cutsHorn v_kind v_horn v_brass v_health l3_2) (fun r_6 => nmA (l2_1 + r_6) (fun l2_7 => J28 l2_7))))))
def f_X0_hornOf  (v_size : Int32) (v_kind : Nat → Int32) (v_horn : Nat → Int32) (v_brass : Nat → Int32) (v_health : Nat → Int32) (p0 : Int32) : Option ((Int32)) :=
  f_X0_hornOf_L4 v_size v_kind v_horn v_brass v_health p0 300 0 0
set_option maxHeartbeats 600000 in
set_option maxRecDepth 100000 in
theorem c_X0_hornOf (l : Launch) (D : va_G) (cI cS : ClassId) (T : Nat → Nat) (o : Nat → Nat) {v_size : Int32} {v_kind : Nat → Int32} {v_mark : Nat → Int32} {v_horn : Nat → Int32} {v_brass : Nat → Int32} {v_open : Nat → Int32} {v_health : Nat → Int32} {p0 : Int32}  {r_out : Int32} (h : f_X0_hornOf  v_size v_kind v_horn v_brass v_health p0 = some (r_out)) : MetI l D (tysX cI cS) (Sta T) yX0_hornOf cX0_hornOf 4 (some .int) 2 46 [.ref (o 0), .int p0] (pcX0 o cI v_size v_kind v_mark v_horn v_brass v_open v_health) r_out (pcX0 o cI v_size v_kind v_mark v_horn v_brass v_open v_health) := by
  refine Ent.metI (by decide +kernel) (Nat.le_of_ble_eq_true rfl) ?_
  intro p e s m args below meth c A ls hx hb hr hml hown hts hlocks hA hK hSt hP hD hS hl
  have hown : s.vm.findClass RX0 = some m.cls := hown
  have S : XFix p m c cX0_hornOf 4 s args RX0 := ⟨hx, hb, hml, hown, hts⟩
  have hl : lv_has ls 4 [(0, .ref (o 0)), (1, .int p0)] := hl
  unfold f_X0_hornOf at h
  obtain ⟨⟨n1, n2, n3, n4, n5, n6⟩, ⟨zZ0, zT0⟩, ⟨zZ1, zT1⟩, ⟨zZ2, zT2⟩, ⟨zZ3, zT3⟩⟩ := id hSt
  refine lv_iconst (v := 0) hx hb dX0_hornOf_0 (by decide) ?_
  refine lv_istore_n (lv' := [(2, .int 0), (0, .ref (o 0)), (1, .int p0)]) hx hb dX0_hornOf_1 rfl hl (by decide) rfl (fun ls hl => ?_)
  refine lv_iconst (v := 0) hx hb dX0_hornOf_2 (by decide) ?_
  refine lv_istore_n (lv' := [(3, .int 0), (2, .int 0), (0, .ref (o 0)), (1, .int p0)]) hx hb dX0_hornOf_3 rfl hl (by decide) rfl (fun ls hl => ?_)
  have wf_X0_hornOf_L4 : ∀ (k_n : Nat) (l2_1 : Int32) (l3_2 : Int32), f_X0_hornOf_L4 v_size v_kind v_horn v_brass v_health p0 k_n l2_1 l3_2 = some (r_out) → ∀ (H : Heap) (locs : List Loc), va_P D vwCl (pcX0 o cI v_size v_kind v_mark v_horn v_brass v_open v_health) H → va_D A (pcX0 o cI v_size v_kind v_mark v_horn v_brass v_open v_health) → va_S A s.heap H locs → ∀ ls : Array Slot, lv_has ls 4 [(0, .ref (o 0)), (1, .int p0), (2, .int l2_1), (3, .int l3_2)] → WI p l e 2 46 s m args below meth c D (tysX cI cS) A r_out (pcX0 o cI v_size v_kind v_mark v_horn v_brass v_open v_health) H locs (F0 m 4 ls []) := by
      intro k_n
      induction k_n with
      | zero => intro l2_1 l3_2 h; rw [f_X0_hornOf_L4] at h; cases h
      | succ k_n ih =>
        intro l2_1 l3_2 h H locs hP hD hS ls hl
        rw [f_X0_hornOf_L4] at h
        refine lv_iload_n hx hb dX0_hornOf_4 rfl (lv_at hl 3 rfl) ?_
        refine lv_aload_n hx hb dX0_hornOf_5 rfl (lv_at hl 0 rfl) ?_
        refine gt_X0_30 S hK hP 0 rfl rfl dX0_hornOf_6 ?_
        refine x_icmp_ge (tgt := 34) hx hb h dX0_hornOf_9 (by decide) (fun c9 h => ?_) (fun c9 h => ?_)
        · refine lv_iload_n hx hb dX0_hornOf_34 rfl (lv_at hl 2 rfl) ?_
          cases h
          exact x_iret hx hb hr hlocks hK hP hD hS rfl rfl dX0_hornOf_35
        · refine lv_iload_n hx hb dX0_hornOf_12 rfl (lv_at hl 1 rfl) ?_
          refine lv_iload_n hx hb dX0_hornOf_13 rfl (lv_at hl 3 rfl) ?_
          obtain ⟨r_3, hc14, h⟩ := bd1_s h
          refine x_statIN (As := [.int p0, .int l3_2]) (rest := []) (Sta_ok T) S (c_X6_isIn l D cI cS T o hc14) ys_X6_isIn n5 ⟨Nat.le_of_ble_eq_true rfl, Nat.le_of_ble_eq_true rfl⟩ hK hSt hA hP hD hS rfl hl.1 rfl (Nat.le_of_ble_eq_true rfl) dX0_hornOf_14 (Nat.zero_le _) (Nat.zero_le _) (fun H locs hP hD hS => ?_)
          obtain ⟨J28, eJ28, h⟩ := jnA_s h
          have wJ28 : ∀ (l2_4 : Int32), J28 l2_4 = some (r_out) → ∀ (H : Heap) (locs : List Loc), va_P D vwCl (pcX0 o cI v_size v_kind v_mark v_horn v_brass v_open v_health) H → va_D A (pcX0 o cI v_size v_kind v_mark v_horn v_brass v_open v_health) → va_S A s.heap H locs → ∀ ls : Array Slot, lv_has ls 4 [(0, .ref (o 0)), (1, .int p0), (2, .int l2_4), (3, .int l3_2)] → WI p l e 2 46 s m args below meth c D (tysX cI cS) A r_out (pcX0 o cI v_size v_kind v_mark v_horn v_brass v_open v_health) H locs (F0 m 28 ls []) := by
              intro l2_4 h H locs hP hD hS ls hl
              subst eJ28
              dsimp only at h
              obtain ⟨l3_5, el3_5, h⟩ := nmA_s h
              refine lv_iinc (v := l3_5) (lv' := [(3, .int l3_5), (0, .ref (o 0)), (1, .int p0), (2, .int l2_4)]) hx hb dX0_hornOf_28 hl (k := 3) rfl (by rw [el3_5]; exact congrArg _ (by decide)) (by decide) rfl (fun ls hl => ?_)
              refine lv_goto (tgt := 4) hx hb dX0_hornOf_31 (by decide) ?_
              exact ih l2_4 l3_5 h _ _ hP hD hS _ (lv_sub hl [1, 2, 3, 0] rfl)
          refine x_if_eq (tgt := 28) hx hb h dX0_hornOf_17 (by decide) (fun c17 h => ?_) (fun c17 h => ?_)
          · exact wJ28 l2_1 h _ _ hP hD hS _ (lv_sub hl [0, 1, 2, 3] rfl)
          · refine lv_iload_n hx hb dX0_hornOf_20 rfl (lv_at hl 2 rfl) ?_
            refine lv_aload_n hx hb dX0_hornOf_21 rfl (lv_at hl 0 rfl) ?_
            refine lv_iload_n hx hb dX0_hornOf_22 rfl (lv_at hl 3 rfl) ?_
            obtain ⟨r_6, hc23, h⟩ := bd1_s h
            refine x_selfVi (As := [.int l3_2]) (rest := [.int l2_1]) (Sta_ok T) S (c_X0_cutsHorn l D cI cS T o hc23) yf_X0_cutsHorn wd8_1 ⟨Nat.le_of_ble_eq_true rfl, Nat.le_of_ble_eq_true rfl⟩ hK hSt hA hP hD hS 0 rfl rfl rfl hl.1 rfl (Nat.le_of_ble_eq_true rfl) dX0_hornOf_23 (Nat.zero_le _) (Nat.zero_le _) (fun H locs hP hD hS => ?_)
            refine lv_iadd hx hb dX0_hornOf_26 ?_
            refine x_nm h (fun l2_7 el2_7 h => ?_)
            refine lv_istore_n (lv' := [(2, .int l2_7), (0, .ref (o 0)), (1, .int p0), (3, .int l3_2)]) hx hb dX0_hornOf_27 rfl hl (by decide) rfl (fun ls hl => ?_)
            exact wJ28 l2_7 h _ _ hP hD hS _ (lv_sub hl [1, 2, 0, 3] rfl)
  exact wf_X0_hornOf_L4 300 0 0 h _ _ hP hD hS _ (lv_sub hl [2, 3, 1, 0] rfl)

def f_X0_brassOf_L4 (v_size : Int32) (v_kind : Nat → Int32) (v_horn : Nat → Int32) (v_brass : Nat → Int32) (v_health : Nat → Int32) (p0 : Int32) : Nat → Int32 → Int32 → Option ((Int32))
  | 0, _, _ => none
  | k_n + 1, l2_1, l3_2 => (if v_size ≤ l3_2 then some (l2_1) else bd1 (f_X6_isIn p0 l3_2) (fun r_3 => jnA (fun (l2_4 : Int32) => nmA (l3_2 + 1) (fun l3_5 => f_X0_brassOf_L4 v_size v_kind v_horn v_brass v_health p0 k_n l2_4 l3_5)) (fun J28 => (if r_3 = 0 then J28 l2_1 else bd1 (f_X0_cutsBrass v_kind v_horn v_brass v_health l3_2) (fun r_6 => nmA (l2_1 + r_6) (fun l2_7 => J28 l2_7))))))
def f_X0_brassOf  (v_size : Int32) (v_kind : Nat → Int32) (v_horn : Nat → Int32) (v_brass : Nat → Int32) (v_health : Nat → Int32) (p0 : Int32) : Option ((Int32)) :=
  f_X0_brassOf_L4 v_size v_kind v_horn v_brass v_health p0 300 0 0
set_option maxHeartbeats 600000 in
set_option maxRecDepth 100000 in
theorem c_X0_brassOf (l : Launch) (D : va_G) (cI cS : ClassId) (T : Nat → Nat) (o : Nat → Nat) {v_size : Int32} {v_kind : Nat → Int32} {v_mark : Nat → Int32} {v_horn : Nat → Int32} {v_brass : Nat → Int32} {v_open : Nat → Int32} {v_health : Nat → Int32} {p0 : Int32}  {r_out : Int32} (h : f_X0_brassOf  v_size v_kind v_horn v_brass v_health p0 = some (r_out)) : MetI l D (tysX cI cS) (Sta T) yX0_brassOf cX0_brassOf 4 (some .int) 2 46 [.ref (o 0), .int p0] (pcX0 o cI v_size v_kind v_mark v_horn v_brass v_open v_health) r_out (pcX0 o cI v_size v_kind v_mark v_horn v_brass v_open v_health) := by
  refine Ent.metI (by decide +kernel) (Nat.le_of_ble_eq_true rfl) ?_
  intro p e s m args below meth c A ls hx hb hr hml hown hts hlocks hA hK hSt hP hD hS hl
  have hown : s.vm.findClass RX0 = some m.cls := hown
  have S : XFix p m c cX0_brassOf 4 s args RX0 := ⟨hx, hb, hml, hown, hts⟩
  have hl : lv_has ls 4 [(0, .ref (o 0)), (1, .int p0)] := hl
  unfold f_X0_brassOf at h
  obtain ⟨⟨n1, n2, n3, n4, n5, n6⟩, ⟨zZ0, zT0⟩, ⟨zZ1, zT1⟩, ⟨zZ2, zT2⟩, ⟨zZ3, zT3⟩⟩ := id hSt
  refine lv_iconst (v := 0) hx hb dX0_brassOf_0 (by decide) ?_
  refine lv_istore_n (lv' := [(2, .int 0), (0, .ref (o 0)), (1, .int p0)]) hx hb dX0_brassOf_1 rfl hl (by decide) rfl (fun ls hl => ?_)
  refine lv_iconst (v := 0) hx hb dX0_brassOf_2 (by decide) ?_
  refine lv_istore_n (lv' := [(3, .int 0), (2, .int 0), (0, .ref (o 0)), (1, .int p0)]) hx hb dX0_brassOf_3 rfl hl (by decide) rfl (fun ls hl => ?_)
  have wf_X0_brassOf_L4 : ∀ (k_n : Nat) (l2_1 : Int32) (l3_2 : Int32), f_X0_brassOf_L4 v_size v_kind v_horn v_brass v_health p0 k_n l2_1 l3_2 = some (r_out) → ∀ (H : Heap) (locs : List Loc), va_P D vwCl (pcX0 o cI v_size v_kind v_mark v_horn v_brass v_open v_health) H → va_D A (pcX0 o cI v_size v_kind v_mark v_horn v_brass v_open v_health) → va_S A s.heap H locs → ∀ ls : Array Slot, lv_has ls 4 [(0, .ref (o 0)), (1, .int p0), (2, .int l2_1), (3, .int l3_2)] → WI p l e 2 46 s m args below meth c D (tysX cI cS) A r_out (pcX0 o cI v_size v_kind v_mark v_horn v_brass v_open v_health) H locs (F0 m 4 ls []) := by
      intro k_n
      induction k_n with
      | zero => intro l2_1 l3_2 h; rw [f_X0_brassOf_L4] at h; cases h
      | succ k_n ih =>
        intro l2_1 l3_2 h H locs hP hD hS ls hl
        rw [f_X0_brassOf_L4] at h
        refine lv_iload_n hx hb dX0_brassOf_4 rfl (lv_at hl 3 rfl) ?_
        refine lv_aload_n hx hb dX0_brassOf_5 rfl (lv_at hl 0 rfl) ?_
        refine gt_X0_30 S hK hP 0 rfl rfl dX0_brassOf_6 ?_
        refine x_icmp_ge (tgt := 34) hx hb h dX0_brassOf_9 (by decide) (fun c9 h => ?_) (fun c9 h => ?_)
        · refine lv_iload_n hx hb dX0_brassOf_34 rfl (lv_at hl 2 rfl) ?_
          cases h
          exact x_iret hx hb hr hlocks hK hP hD hS rfl rfl dX0_brassOf_35
        · refine lv_iload_n hx hb dX0_brassOf_12 rfl (lv_at hl 1 rfl) ?_
          refine lv_iload_n hx hb dX0_brassOf_13 rfl (lv_at hl 3 rfl) ?_
          obtain ⟨r_3, hc14, h⟩ := bd1_s h
          refine x_statIN (As := [.int p0, .int l3_2]) (rest := []) (Sta_ok T) S (c_X6_isIn l D cI cS T o hc14) ys_X6_isIn n5 ⟨Nat.le_of_ble_eq_true rfl, Nat.le_of_ble_eq_true rfl⟩ hK hSt hA hP hD hS rfl hl.1 rfl (Nat.le_of_ble_eq_true rfl) dX0_brassOf_14 (Nat.zero_le _) (Nat.zero_le _) (fun H locs hP hD hS => ?_)
          obtain ⟨J28, eJ28, h⟩ := jnA_s h
          have wJ28 : ∀ (l2_4 : Int32), J28 l2_4 = some (r_out) → ∀ (H : Heap) (locs : List Loc), va_P D vwCl (pcX0 o cI v_size v_kind v_mark v_horn v_brass v_open v_health) H → va_D A (pcX0 o cI v_size v_kind v_mark v_horn v_brass v_open v_health) → va_S A s.heap H locs → ∀ ls : Array Slot, lv_has ls 4 [(0, .ref (o 0)), (1, .int p0), (2, .int l2_4), (3, .int l3_2)] → WI p l e 2 46 s m args below meth c D (tysX cI cS) A r_out (pcX0 o cI v_size v_kind v_mark v_horn v_brass v_open v_health) H locs (F0 m 28 ls []) := by
              intro l2_4 h H locs hP hD hS ls hl
              subst eJ28
              dsimp only at h
              obtain ⟨l3_5, el3_5, h⟩ := nmA_s h
              refine lv_iinc (v := l3_5) (lv' := [(3, .int l3_5), (0, .ref (o 0)), (1, .int p0), (2, .int l2_4)]) hx hb dX0_brassOf_28 hl (k := 3) rfl (by rw [el3_5]; exact congrArg _ (by decide)) (by decide) rfl (fun ls hl => ?_)
              refine lv_goto (tgt := 4) hx hb dX0_brassOf_31 (by decide) ?_
              exact ih l2_4 l3_5 h _ _ hP hD hS _ (lv_sub hl [1, 2, 3, 0] rfl)
          refine x_if_eq (tgt := 28) hx hb h dX0_brassOf_17 (by decide) (fun c17 h => ?_) (fun c17 h => ?_)
          · exact wJ28 l2_1 h _ _ hP hD hS _ (lv_sub hl [0, 1, 2, 3] rfl)
          · refine lv_iload_n hx hb dX0_brassOf_20 rfl (lv_at hl 2 rfl) ?_
            refine lv_aload_n hx hb dX0_brassOf_21 rfl (lv_at hl 0 rfl) ?_
            refine lv_iload_n hx hb dX0_brassOf_22 rfl (lv_at hl 3 rfl) ?_
            obtain ⟨r_6, hc23, h⟩ := bd1_s h
            refine x_selfVi (As := [.int l3_2]) (rest := [.int l2_1]) (Sta_ok T) S (c_X0_cutsBrass l D cI cS T o hc23) yf_X0_cutsBrass wd8_2 ⟨Nat.le_of_ble_eq_true rfl, Nat.le_of_ble_eq_true rfl⟩ hK hSt hA hP hD hS 0 rfl rfl rfl hl.1 rfl (Nat.le_of_ble_eq_true rfl) dX0_brassOf_23 (Nat.zero_le _) (Nat.zero_le _) (fun H locs hP hD hS => ?_)
            refine lv_iadd hx hb dX0_brassOf_26 ?_
            refine x_nm h (fun l2_7 el2_7 h => ?_)
            refine lv_istore_n (lv' := [(2, .int l2_7), (0, .ref (o 0)), (1, .int p0), (3, .int l3_2)]) hx hb dX0_brassOf_27 rfl hl (by decide) rfl (fun ls hl => ?_)
            exact wJ28 l2_7 h _ _ hP hD hS _ (lv_sub hl [1, 2, 0, 3] rfl)
  exact wf_X0_brassOf_L4 300 0 0 h _ _ hP hD hS _ (lv_sub hl [2, 3, 1, 0] rfl)

def f_X0_wouldPass  (v_size : Int32) (v_kind : Nat → Int32) (v_mark : Nat → Int32) (v_horn : Nat → Int32) (v_brass : Nat → Int32) (v_health : Nat → Int32) (p0 : Int32) (p1 : Int32) : Option ((Int32)) :=
  bd1 (f_X0_countsOf v_size v_kind v_mark v_horn v_brass v_health p0) (fun r_1 => bd1 (f_X0_countsOf v_size v_kind v_mark v_horn v_brass v_health (p0 ^^^ (-1))) (fun r_2 => (if r_1 ≤ r_2 then some (0) else (if (r_1 + r_2) < p1 then some (0) else some (1)))))
set_option maxHeartbeats 600000 in
set_option maxRecDepth 100000 in
theorem c_X0_wouldPass (l : Launch) (D : va_G) (cI cS : ClassId) (T : Nat → Nat) (o : Nat → Nat) {v_size : Int32} {v_kind : Nat → Int32} {v_mark : Nat → Int32} {v_horn : Nat → Int32} {v_brass : Nat → Int32} {v_open : Nat → Int32} {v_health : Nat → Int32} {p0 : Int32} {p1 : Int32}  {r_out : Int32} (h : f_X0_wouldPass  v_size v_kind v_mark v_horn v_brass v_health p0 p1 = some (r_out)) : MetI l D (tysX cI cS) (Sta T) yX0_wouldPass cX0_wouldPass 5 (some .boolean) 4 90 [.ref (o 0), .int p0, .int p1] (pcX0 o cI v_size v_kind v_mark v_horn v_brass v_open v_health) r_out (pcX0 o cI v_size v_kind v_mark v_horn v_brass v_open v_health) := by
  refine Ent.metI (by decide +kernel) (Nat.le_of_ble_eq_true rfl) ?_
  intro p e s m args below meth c A ls hx hb hr hml hown hts hlocks hA hK hSt hP hD hS hl
  have hown : s.vm.findClass RX0 = some m.cls := hown
  have S : XFix p m c cX0_wouldPass 5 s args RX0 := ⟨hx, hb, hml, hown, hts⟩
  have hl : lv_has ls 5 [(0, .ref (o 0)), (1, .int p0), (2, .int p1)] := hl
  unfold f_X0_wouldPass at h
  refine lv_aload_n hx hb dX0_wouldPass_0 rfl (lv_at hl 0 rfl) ?_
  refine lv_iload_n hx hb dX0_wouldPass_1 rfl (lv_at hl 1 rfl) ?_
  obtain ⟨r_1, hc2, h⟩ := bd1_s h
  refine x_selfVi (As := [.int p0]) (rest := []) (Sta_ok T) S (c_X0_countsOf l D cI cS T o hc2) yf_X0_countsOf wd15_16 ⟨Nat.le_of_ble_eq_true rfl, Nat.le_of_ble_eq_true rfl⟩ hK hSt hA hP hD hS 0 rfl rfl rfl hl.1 rfl (Nat.le_of_ble_eq_true rfl) dX0_wouldPass_2 (Nat.zero_le _) (Nat.zero_le _) (fun H locs hP hD hS => ?_)
  refine lv_istore_n (lv' := [(3, .int r_1), (0, .ref (o 0)), (1, .int p0), (2, .int p1)]) hx hb dX0_wouldPass_5 rfl hl (by decide) rfl (fun ls hl => ?_)
  refine lv_aload_n hx hb dX0_wouldPass_6 rfl (lv_at hl 1 rfl) ?_
  refine lv_iload_n hx hb dX0_wouldPass_7 rfl (lv_at hl 2 rfl) ?_
  refine lv_iconst (v := (-1)) hx hb dX0_wouldPass_8 (by decide) ?_
  refine lv_ixor hx hb dX0_wouldPass_9 ?_
  obtain ⟨r_2, hc10, h⟩ := bd1_s h
  refine x_selfVi (As := [.int (p0 ^^^ (-1))]) (rest := []) (Sta_ok T) S (c_X0_countsOf l D cI cS T o hc10) yf_X0_countsOf wd15_16 ⟨Nat.le_of_ble_eq_true rfl, Nat.le_of_ble_eq_true rfl⟩ hK hSt hA hP hD hS 0 rfl rfl rfl hl.1 rfl (Nat.le_of_ble_eq_true rfl) dX0_wouldPass_10 (Nat.zero_le _) (Nat.zero_le _) (fun H locs hP hD hS => ?_)
  refine lv_istore (lv' := [(4, .int r_2), (3, .int r_1), (0, .ref (o 0)), (1, .int p0), (2, .int p1)]) hx hb dX0_wouldPass_13 hl (by decide) rfl (fun ls hl => ?_)
  refine lv_iload_n hx hb dX0_wouldPass_15 rfl (lv_at hl 1 rfl) ?_
  refine lv_iload hx hb dX0_wouldPass_16 (lv_at hl 0 rfl) ?_
  refine x_icmp_le (tgt := 33) hx hb h dX0_wouldPass_18 (by decide) (fun c18 h => ?_) (fun c18 h => ?_)
  · refine lv_iconst (v := 0) hx hb dX0_wouldPass_33 (by decide) ?_
    cases h
    exact x_zret hx hb hr hlocks hK hP hD hS rfl rfl (Or.inl rfl) dX0_wouldPass_34
  · refine lv_iload_n hx hb dX0_wouldPass_21 rfl (lv_at hl 1 rfl) ?_
    refine lv_iload hx hb dX0_wouldPass_22 (lv_at hl 0 rfl) ?_
    refine lv_iadd hx hb dX0_wouldPass_24 ?_
    refine lv_iload_n hx hb dX0_wouldPass_25 rfl (lv_at hl 4 rfl) ?_
    refine x_icmp_lt (tgt := 33) hx hb h dX0_wouldPass_26 (by decide) (fun c26 h => ?_) (fun c26 h => ?_)
    · refine lv_iconst (v := 0) hx hb dX0_wouldPass_33 (by decide) ?_
      cases h
      exact x_zret hx hb hr hlocks hK hP hD hS rfl rfl (Or.inl rfl) dX0_wouldPass_34
    · refine lv_iconst (v := 1) hx hb dX0_wouldPass_29 (by decide) ?_
      refine lv_goto (tgt := 34) hx hb dX0_wouldPass_30 (by decide) ?_
      cases h
      exact x_zret hx hb hr hlocks hK hP hD hS rfl rfl (Or.inr rfl) dX0_wouldPass_34

def f_X0_cutAll_L2 (v_size : Int32) (v_kind : Nat → Int32) (v_health : Nat → Int32) : Nat → (Nat → Int32) → (Nat → Int32) → (Nat → Int32) → Int32 → Option ((Nat → Int32) × (Nat → Int32) × (Nat → Int32))
  | 0, _, _, _, _ => none
  | k_n + 1, v_horn_1, v_brass_2, v_open_3, l1_4 => (if v_size ≤ l1_4 then some (v_horn_1, v_brass_2, v_open_3) else bd1 (f_X0_cutsHorn v_kind v_horn_1 v_brass_2 v_health l1_4) (fun r_5 => bd1 (f_X0_cutsBrass v_kind v_horn_1 v_brass_2 v_health l1_4) (fun r_6 => rdA 8 v_horn_1 l1_4 (fun x_7 => wrA 8 v_horn_1 l1_4 (x_7 - r_5) (fun v_horn_8 => rdA 8 v_brass_2 l1_4 (fun x_9 => wrA 8 v_brass_2 l1_4 (x_9 - r_6) (fun v_brass_10 => rdA 8 v_open_3 l1_4 (fun x_11 => wrA 8 v_open_3 l1_4 (minI 99 ((x_11 + r_5) + r_6)) (fun v_open_12 => nmA (l1_4 + 1) (fun l1_13 => f_X0_cutAll_L2 v_size v_kind v_health k_n v_horn_8 v_brass_10 v_open_12 l1_13))))))))))
def f_X0_cutAll  (v_size : Int32) (v_kind : Nat → Int32) (v_horn : Nat → Int32) (v_brass : Nat → Int32) (v_open : Nat → Int32) (v_health : Nat → Int32)  : Option ((Nat → Int32) × (Nat → Int32) × (Nat → Int32)) :=
  f_X0_cutAll_L2 v_size v_kind v_health 300 v_horn v_brass v_open 0
set_option maxHeartbeats 600000 in
set_option maxRecDepth 100000 in
theorem c_X0_cutAll (l : Launch) (D : va_G) (cI cS : ClassId) (T : Nat → Nat) (o : Nat → Nat) {v_size : Int32} {v_kind : Nat → Int32} {v_mark : Nat → Int32} {v_horn : Nat → Int32} {v_brass : Nat → Int32} {v_open : Nat → Int32} {v_health : Nat → Int32}  {w_horn : Nat → Int32} {w_brass : Nat → Int32} {w_open : Nat → Int32} (h : f_X0_cutAll  v_size v_kind v_horn v_brass v_open v_health  = some (w_horn, w_brass, w_open)) : MetV l D (tysX cI cS) (Sta T) yX0_cutAll cX0_cutAll 4 none 2 46 [.ref (o 0)] (pcX0 o cI v_size v_kind v_mark v_horn v_brass v_open v_health) (pcX0 o cI v_size v_kind v_mark w_horn w_brass w_open v_health) := by
  refine Ent.metV (by decide +kernel) (Nat.le_of_ble_eq_true rfl) ?_
  intro p e s m args below meth c A ls hx hb hr hml hown hts hlocks hA hK hSt hP hD hS hl
  have hown : s.vm.findClass RX0 = some m.cls := hown
  have S : XFix p m c cX0_cutAll 4 s args RX0 := ⟨hx, hb, hml, hown, hts⟩
  have hl : lv_has ls 4 [(0, .ref (o 0))] := hl
  unfold f_X0_cutAll at h
  refine lv_iconst (v := 0) hx hb dX0_cutAll_0 (by decide) ?_
  refine lv_istore_n (lv' := [(1, .int 0), (0, .ref (o 0))]) hx hb dX0_cutAll_1 rfl hl (by decide) rfl (fun ls hl => ?_)
  have wf_X0_cutAll_L2 : ∀ (k_n : Nat) (v_horn_1 : Nat → Int32) (v_brass_2 : Nat → Int32) (v_open_3 : Nat → Int32) (l1_4 : Int32), f_X0_cutAll_L2 v_size v_kind v_health k_n v_horn_1 v_brass_2 v_open_3 l1_4 = some (w_horn, w_brass, w_open) → ∀ (H : Heap) (locs : List Loc), va_P D vwCl (pcX0 o cI v_size v_kind v_mark v_horn_1 v_brass_2 v_open_3 v_health) H → va_D A (pcX0 o cI v_size v_kind v_mark v_horn_1 v_brass_2 v_open_3 v_health) → va_S A s.heap H locs → ∀ ls : Array Slot, lv_has ls 4 [(0, .ref (o 0)), (1, .int l1_4)] → WV p l e 2 46 s m args below meth c D (tysX cI cS) A (pcX0 o cI v_size v_kind v_mark w_horn w_brass w_open v_health) H locs (F0 m 2 ls []) := by
      intro k_n
      induction k_n with
      | zero => intro v_horn_1 v_brass_2 v_open_3 l1_4 h; rw [f_X0_cutAll_L2] at h; cases h
      | succ k_n ih =>
        intro v_horn_1 v_brass_2 v_open_3 l1_4 h H locs hP hD hS ls hl
        rw [f_X0_cutAll_L2] at h
        refine lv_iload_n hx hb dX0_cutAll_2 rfl (lv_at hl 1 rfl) ?_
        refine lv_aload_n hx hb dX0_cutAll_3 rfl (lv_at hl 0 rfl) ?_
        refine gt_X0_30 S hK hP 0 rfl rfl dX0_cutAll_4 ?_
        refine x_icmp_ge (tgt := 69) hx hb h dX0_cutAll_7 (by decide) (fun c7 h => ?_) (fun c7 h => ?_)
        · cases h
          exact x_vret hx hb hr hlocks hK hP hD hS rfl dX0_cutAll_69
        · refine lv_aload_n hx hb dX0_cutAll_10 rfl (lv_at hl 0 rfl) ?_
          refine lv_iload_n hx hb dX0_cutAll_11 rfl (lv_at hl 1 rfl) ?_
          obtain ⟨r_5, hc12, h⟩ := bd1_s h
          refine x_selfVi (As := [.int l1_4]) (rest := []) (Sta_ok T) S (c_X0_cutsHorn l D cI cS T o hc12) yf_X0_cutsHorn wd8_1 ⟨Nat.le_of_ble_eq_true rfl, Nat.le_of_ble_eq_true rfl⟩ hK hSt hA hP hD hS 0 rfl rfl rfl hl.1 rfl (Nat.le_of_ble_eq_true rfl) dX0_cutAll_12 (Nat.zero_le _) (Nat.zero_le _) (fun H locs hP hD hS => ?_)
          refine lv_istore_n (lv' := [(2, .int r_5), (0, .ref (o 0)), (1, .int l1_4)]) hx hb dX0_cutAll_15 rfl hl (by decide) rfl (fun ls hl => ?_)
          refine lv_aload_n hx hb dX0_cutAll_16 rfl (lv_at hl 1 rfl) ?_
          refine lv_iload_n hx hb dX0_cutAll_17 rfl (lv_at hl 2 rfl) ?_
          obtain ⟨r_6, hc18, h⟩ := bd1_s h
          refine x_selfVi (As := [.int l1_4]) (rest := []) (Sta_ok T) S (c_X0_cutsBrass l D cI cS T o hc18) yf_X0_cutsBrass wd8_2 ⟨Nat.le_of_ble_eq_true rfl, Nat.le_of_ble_eq_true rfl⟩ hK hSt hA hP hD hS 0 rfl rfl rfl hl.1 rfl (Nat.le_of_ble_eq_true rfl) dX0_cutAll_18 (Nat.zero_le _) (Nat.zero_le _) (fun H locs hP hD hS => ?_)
          refine lv_istore_n (lv' := [(3, .int r_6), (2, .int r_5), (0, .ref (o 0)), (1, .int l1_4)]) hx hb dX0_cutAll_21 rfl hl (by decide) rfl (fun ls hl => ?_)
          refine lv_aload_n hx hb dX0_cutAll_22 rfl (lv_at hl 2 rfl) ?_
          refine gt_X0_18 S hK hP 0 rfl rfl dX0_cutAll_23 ?_
          refine lv_iload_n hx hb dX0_cutAll_26 rfl (lv_at hl 3 rfl) ?_
          refine lv_dup2_11 hx hb dX0_cutAll_27 rfl rfl ?_
          refine x_ald hx hb hK hP 3 h rfl rfl dX0_cutAll_28 (fun x_7 ex_7 h => ?_)
          refine lv_iload_n hx hb dX0_cutAll_29 rfl (lv_at hl 1 rfl) ?_
          refine lv_isub hx hb dX0_cutAll_30 ?_
          refine x_ast hx hb hK hP hD hS 3 h rfl rfl dX0_cutAll_31 (fun v_horn_8 ev_horn_8 h H locs hP hD hS => ?_)
          have hP : va_P D vwCl (pcX0 o cI v_size v_kind v_mark v_horn_8 v_brass_2 v_open_3 v_health) H := hP
          have hD : va_D A (pcX0 o cI v_size v_kind v_mark v_horn_8 v_brass_2 v_open_3 v_health) := hD
          refine lv_aload_n hx hb dX0_cutAll_32 rfl (lv_at hl 2 rfl) ?_
          refine gt_X0_21 S hK hP 0 rfl rfl dX0_cutAll_33 ?_
          refine lv_iload_n hx hb dX0_cutAll_36 rfl (lv_at hl 3 rfl) ?_
          refine lv_dup2_11 hx hb dX0_cutAll_37 rfl rfl ?_
          refine x_ald hx hb hK hP 4 h rfl rfl dX0_cutAll_38 (fun x_9 ex_9 h => ?_)
          refine lv_iload_n hx hb dX0_cutAll_39 rfl (lv_at hl 0 rfl) ?_
          refine lv_isub hx hb dX0_cutAll_40 ?_
          refine x_ast hx hb hK hP hD hS 4 h rfl rfl dX0_cutAll_41 (fun v_brass_10 ev_brass_10 h H locs hP hD hS => ?_)
          have hP : va_P D vwCl (pcX0 o cI v_size v_kind v_mark v_horn_8 v_brass_10 v_open_3 v_health) H := hP
          have hD : va_D A (pcX0 o cI v_size v_kind v_mark v_horn_8 v_brass_10 v_open_3 v_health) := hD
          refine lv_aload_n hx hb dX0_cutAll_42 rfl (lv_at hl 2 rfl) ?_
          refine gt_X0_24 S hK hP 0 rfl rfl dX0_cutAll_43 ?_
          refine lv_iload_n hx hb dX0_cutAll_46 rfl (lv_at hl 3 rfl) ?_
          refine lv_bipush (v := 99) hx hb dX0_cutAll_47 (by decide) ?_
          refine lv_aload_n hx hb dX0_cutAll_49 rfl (lv_at hl 2 rfl) ?_
          refine gt_X0_24 S hK hP 0 rfl rfl dX0_cutAll_50 ?_
          refine lv_iload_n hx hb dX0_cutAll_53 rfl (lv_at hl 3 rfl) ?_
          refine x_ald hx hb hK hP 5 h rfl rfl dX0_cutAll_54 (fun x_11 ex_11 h => ?_)
          refine lv_iload_n hx hb dX0_cutAll_55 rfl (lv_at hl 1 rfl) ?_
          refine lv_iadd hx hb dX0_cutAll_56 ?_
          refine lv_iload_n hx hb dX0_cutAll_57 rfl (lv_at hl 0 rfl) ?_
          refine lv_iadd hx hb dX0_cutAll_58 ?_
          refine va_mmin hx hb (hml.trans hl.1.symm) hown (hts _ wd7_12) (hts _ wd7_13) (hts _ wd7_14) (hts _ wd7_15) (Nat.le_of_ble_eq_true rfl) (Nat.le_of_ble_eq_true rfl) (Nat.zero_le _) (Nat.zero_le _) dX0_cutAll_59 ?_
          refine x_topE (y := (minI 99 ((x_11 + r_5) + r_6))) rfl ?_
          refine x_ast hx hb hK hP hD hS 5 h rfl rfl dX0_cutAll_62 (fun v_open_12 ev_open_12 h H locs hP hD hS => ?_)
          have hP : va_P D vwCl (pcX0 o cI v_size v_kind v_mark v_horn_8 v_brass_10 v_open_12 v_health) H := hP
          have hD : va_D A (pcX0 o cI v_size v_kind v_mark v_horn_8 v_brass_10 v_open_12 v_health) := hD
          obtain ⟨l1_13, el1_13, h⟩ := nmA_s h
          refine lv_iinc (v := l1_13) (lv' := [(1, .int l1_13), (3, .int r_6), (2, .int r_5), (0, .ref (o 0))]) hx hb dX0_cutAll_63 hl (k := 3) rfl (by rw [el1_13]; exact congrArg _ (by decide)) (by decide) rfl (fun ls hl => ?_)
          refine lv_goto (tgt := 2) hx hb dX0_cutAll_66 (by decide) ?_
          exact ih v_horn_8 v_brass_10 v_open_12 l1_13 h _ _ hP hD hS _ (lv_sub hl [3, 0] rfl)
  exact wf_X0_cutAll_L2 300 v_horn v_brass v_open 0 h _ _ hP hD hS _ (lv_sub hl [1, 0] rfl)

def f_X0_healthBehind  (v_kind : Nat → Int32) (v_mark : Nat → Int32) (v_chill_use : Int32) (v_chill_codes : Nat → Int32) (v_chill_size : Int32) (v_chill_stack : Nat → Int32) (p0 : Int32) (p1 : Int32) (p2 : Int32) (p3 : Int32) : Option ((Nat → Int32) × (Int32)) :=
  (if p2 = 0 then some (v_chill_stack, 0) else (if p3 = 0 then some (v_chill_stack, (minI 99 (p2 + 1))) else bd2 (f_X3_gives v_chill_use v_chill_codes v_chill_size v_chill_stack p3 p1 p2) (fun v_chill_stack_1 r_2 => bd1 (f_X0_chillOf v_kind v_mark p0 r_2) (fun r_3 => some (v_chill_stack_1, (maxI 0 (p2 - r_3)))))))
set_option maxHeartbeats 600000 in
set_option maxRecDepth 100000 in
theorem c_X0_healthBehind (l : Launch) (D : va_G) (cI cS : ClassId) (T : Nat → Nat) (o : Nat → Nat) {v_size : Int32} {v_kind : Nat → Int32} {v_mark : Nat → Int32} {v_horn : Nat → Int32} {v_brass : Nat → Int32} {v_open : Nat → Int32} {v_health : Nat → Int32} {v_chill_use : Int32} {v_chill_codes : Nat → Int32} {v_chill_size : Int32} {v_chill_stack : Nat → Int32} {p0 : Int32} {p1 : Int32} {p2 : Int32} {p3 : Int32} {w_chill_stack : Nat → Int32} {r_out : Int32} (h : f_X0_healthBehind  v_kind v_mark v_chill_use v_chill_codes v_chill_size v_chill_stack p0 p1 p2 p3 = some (w_chill_stack, r_out)) : MetI l D (tysX cI cS) (Sta T) yX0_healthBehind cX0_healthBehind 6 (some .int) 3 72 [.ref (o 0), .int p0, .int p1, .int p2, .int p3, .ref (o 7)] (pcX0chill o cI v_size v_kind v_mark v_horn v_brass v_open v_health v_chill_use v_chill_codes v_chill_size v_chill_stack) r_out (pcX0chill o cI v_size v_kind v_mark v_horn v_brass v_open v_health v_chill_use v_chill_codes v_chill_size w_chill_stack) := by
  refine Ent.metI (by decide +kernel) (Nat.le_of_ble_eq_true rfl) ?_
  intro p e s m args below meth c A ls hx hb hr hml hown hts hlocks hA hK hSt hP hD hS hl
  have hown : s.vm.findClass RX0 = some m.cls := hown
  have S : XFix p m c cX0_healthBehind 6 s args RX0 := ⟨hx, hb, hml, hown, hts⟩
  have hl : lv_has ls 6 [(0, .ref (o 0)), (1, .int p0), (2, .int p1), (3, .int p2), (4, .int p3), (5, .ref (o 7))] := hl
  unfold f_X0_healthBehind at h
  refine lv_iload_n hx hb dX0_healthBehind_0 rfl (lv_at hl 3 rfl) ?_
  refine x_if_ne (tgt := 6) hx hb h dX0_healthBehind_1 (by decide) (fun c1 h => ?_) (fun c1 h => ?_)
  · refine lv_iload hx hb dX0_healthBehind_6 (lv_at hl 4 rfl) ?_
    refine x_if_ne (tgt := 20) hx hb h dX0_healthBehind_8 (by decide) (fun c8 h => ?_) (fun c8 h => ?_)
    · refine lv_iconst (v := 0) hx hb dX0_healthBehind_20 (by decide) ?_
      refine lv_iload_n hx hb dX0_healthBehind_21 rfl (lv_at hl 3 rfl) ?_
      refine lv_aload_n hx hb dX0_healthBehind_22 rfl (lv_at hl 0 rfl) ?_
      refine lv_iload_n hx hb dX0_healthBehind_23 rfl (lv_at hl 1 rfl) ?_
      refine lv_aload hx hb dX0_healthBehind_24 (lv_at hl 5 rfl) ?_
      refine lv_iload hx hb dX0_healthBehind_26 (lv_at hl 4 rfl) ?_
      refine lv_iload_n hx hb dX0_healthBehind_28 rfl (lv_at hl 2 rfl) ?_
      refine lv_iload_n hx hb dX0_healthBehind_29 rfl (lv_at hl 3 rfl) ?_
      obtain ⟨v_chill_stack_1, r_2, hc30, h⟩ := bd2_s h
      refine x_callVi (ws' := (pcX0chill o cI v_size v_kind v_mark v_horn v_brass v_open v_health v_chill_use v_chill_codes v_chill_size v_chill_stack_1)) (isC := [7, 8, 9]) (isR := [0, 1, 2, 3, 4, 5, 6]) (As := [.int p3, .int p1, .int p2]) (rest := [.int p0, .ref (o 0), .int p2, .int 0]) (Sta_ok T) S (c_X3_gives l D cI cS T (fun k => o (k + 7)) hc30) yf_X3_gives wd25_17 ⟨Nat.le_of_ble_eq_true rfl, Nat.le_of_ble_eq_true rfl⟩ hK hSt hA hP hD hS em0 0 rfl rfl rfl hl.1 rfl (Nat.le_of_ble_eq_true rfl) dX0_healthBehind_30 (Nat.zero_le _) (Nat.zero_le _) (fun H locs hP hD hS => ?_)
      obtain ⟨r_3, hc33, h⟩ := bd1_s h
      refine x_callVi (ws' := (pcX0chill o cI v_size v_kind v_mark v_horn v_brass v_open v_health v_chill_use v_chill_codes v_chill_size v_chill_stack_1)) (isC := [0, 1, 2, 3, 4, 5, 6]) (isR := [7, 8, 9]) (As := [.int p0, .int r_2]) (rest := [.int p2, .int 0]) (Sta_ok T) S (c_X0_chillOf l D cI cS T o hc33) yf_X0_chillOf wd25_18 ⟨Nat.le_of_ble_eq_true rfl, Nat.le_of_ble_eq_true rfl⟩ hK hSt hA hP hD hS em1 0 rfl rfl rfl hl.1 rfl (Nat.le_of_ble_eq_true rfl) dX0_healthBehind_33 (Nat.zero_le _) (Nat.zero_le _) (fun H locs hP hD hS => ?_)
      refine lv_isub hx hb dX0_healthBehind_36 ?_
      refine va_mmax hx hb (hml.trans hl.1.symm) hown (hts _ wd9_19) (hts _ wd9_5) (hts _ wd7_14) (hts _ wd9_6) (Nat.le_of_ble_eq_true rfl) (Nat.le_of_ble_eq_true rfl) (Nat.zero_le _) (Nat.zero_le _) dX0_healthBehind_37 ?_
      refine x_topE (y := (maxI 0 (p2 - r_3))) rfl ?_
      cases h
      exact x_iret hx hb hr hlocks hK hP hD hS rfl rfl dX0_healthBehind_40
    · refine lv_bipush (v := 99) hx hb dX0_healthBehind_11 (by decide) ?_
      refine lv_iload_n hx hb dX0_healthBehind_13 rfl (lv_at hl 3 rfl) ?_
      refine lv_iconst (v := 1) hx hb dX0_healthBehind_14 (by decide) ?_
      refine lv_iadd hx hb dX0_healthBehind_15 ?_
      refine va_mmin hx hb (hml.trans hl.1.symm) hown (hts _ wd7_12) (hts _ wd7_13) (hts _ wd7_14) (hts _ wd7_15) (Nat.le_of_ble_eq_true rfl) (Nat.le_of_ble_eq_true rfl) (Nat.zero_le _) (Nat.zero_le _) dX0_healthBehind_16 ?_
      refine x_topE (y := (minI 99 (p2 + 1))) rfl ?_
      cases h
      exact x_iret hx hb hr hlocks hK hP hD hS rfl rfl dX0_healthBehind_19
  · refine lv_iconst (v := 0) hx hb dX0_healthBehind_4 (by decide) ?_
    cases h
    exact x_iret hx hb hr hlocks hK hP hD hS rfl rfl dX0_healthBehind_5

def f_X0_passDay_L2 (v_size : Int32) (v_kind : Nat → Int32) (v_mark : Nat → Int32) (v_open : Nat → Int32) (v_chill_use : Int32) (v_chill_codes : Nat → Int32) (v_chill_size : Int32) (p0 : Int32) : Nat → (Nat → Int32) → (Nat → Int32) → Int32 → Option ((Nat → Int32) × (Nat → Int32))
  | 0, _, _, _ => none
  | k_n + 1, v_health_1, v_chill_stack_2, l3_3 => (if v_size ≤ l3_3 then some (v_health_1, v_chill_stack_2) else rdA 8 v_open l3_3 (fun x_4 => rdA 8 v_health_1 l3_3 (fun x_5 => bd2 (f_X0_healthBehind v_kind v_mark v_chill_use v_chill_codes v_chill_size v_chill_stack_2 l3_3 x_4 x_5 p0) (fun v_chill_stack_6 r_7 => wrA 8 v_health_1 l3_3 r_7 (fun v_health_8 => nmA (l3_3 + 1) (fun l3_9 => f_X0_passDay_L2 v_size v_kind v_mark v_open v_chill_use v_chill_codes v_chill_size p0 k_n v_health_8 v_chill_stack_6 l3_9))))))
def f_X0_passDay  (v_size : Int32) (v_kind : Nat → Int32) (v_mark : Nat → Int32) (v_open : Nat → Int32) (v_health : Nat → Int32) (v_chill_use : Int32) (v_chill_codes : Nat → Int32) (v_chill_size : Int32) (v_chill_stack : Nat → Int32) (p0 : Int32) : Option ((Nat → Int32) × (Nat → Int32)) :=
  f_X0_passDay_L2 v_size v_kind v_mark v_open v_chill_use v_chill_codes v_chill_size p0 300 v_health v_chill_stack 0
set_option maxHeartbeats 600000 in
set_option maxRecDepth 100000 in
theorem c_X0_passDay (l : Launch) (D : va_G) (cI cS : ClassId) (T : Nat → Nat) (o : Nat → Nat) {v_size : Int32} {v_kind : Nat → Int32} {v_mark : Nat → Int32} {v_horn : Nat → Int32} {v_brass : Nat → Int32} {v_open : Nat → Int32} {v_health : Nat → Int32} {v_chill_use : Int32} {v_chill_codes : Nat → Int32} {v_chill_size : Int32} {v_chill_stack : Nat → Int32} {p0 : Int32} {w_health : Nat → Int32} {w_chill_stack : Nat → Int32} (h : f_X0_passDay  v_size v_kind v_mark v_open v_health v_chill_use v_chill_codes v_chill_size v_chill_stack p0 = some (w_health, w_chill_stack)) : MetV l D (tysX cI cS) (Sta T) yX0_passDay cX0_passDay 4 none 4 97 [.ref (o 0), .int p0, .ref (o 7)] (pcX0chill o cI v_size v_kind v_mark v_horn v_brass v_open v_health v_chill_use v_chill_codes v_chill_size v_chill_stack) (pcX0chill o cI v_size v_kind v_mark v_horn v_brass v_open w_health v_chill_use v_chill_codes v_chill_size w_chill_stack) := by
  refine Ent.metV (by decide +kernel) (Nat.le_of_ble_eq_true rfl) ?_
  intro p e s m args below meth c A ls hx hb hr hml hown hts hlocks hA hK hSt hP hD hS hl
  have hown : s.vm.findClass RX0 = some m.cls := hown
  have S : XFix p m c cX0_passDay 4 s args RX0 := ⟨hx, hb, hml, hown, hts⟩
  have hl : lv_has ls 4 [(0, .ref (o 0)), (1, .int p0), (2, .ref (o 7))] := hl
  unfold f_X0_passDay at h
  refine lv_iconst (v := 0) hx hb dX0_passDay_0 (by decide) ?_
  refine lv_istore_n (lv' := [(3, .int 0), (0, .ref (o 0)), (1, .int p0), (2, .ref (o 7))]) hx hb dX0_passDay_1 rfl hl (by decide) rfl (fun ls hl => ?_)
  have wf_X0_passDay_L2 : ∀ (k_n : Nat) (v_health_1 : Nat → Int32) (v_chill_stack_2 : Nat → Int32) (l3_3 : Int32), f_X0_passDay_L2 v_size v_kind v_mark v_open v_chill_use v_chill_codes v_chill_size p0 k_n v_health_1 v_chill_stack_2 l3_3 = some (w_health, w_chill_stack) → ∀ (H : Heap) (locs : List Loc), va_P D vwCl (pcX0chill o cI v_size v_kind v_mark v_horn v_brass v_open v_health_1 v_chill_use v_chill_codes v_chill_size v_chill_stack_2) H → va_D A (pcX0chill o cI v_size v_kind v_mark v_horn v_brass v_open v_health_1 v_chill_use v_chill_codes v_chill_size v_chill_stack_2) → va_S A s.heap H locs → ∀ ls : Array Slot, lv_has ls 4 [(0, .ref (o 0)), (1, .int p0), (2, .ref (o 7)), (3, .int l3_3)] → WV p l e 4 97 s m args below meth c D (tysX cI cS) A (pcX0chill o cI v_size v_kind v_mark v_horn v_brass v_open w_health v_chill_use v_chill_codes v_chill_size w_chill_stack) H locs (F0 m 2 ls []) := by
      intro k_n
      induction k_n with
      | zero => intro v_health_1 v_chill_stack_2 l3_3 h; rw [f_X0_passDay_L2] at h; cases h
      | succ k_n ih =>
        intro v_health_1 v_chill_stack_2 l3_3 h H locs hP hD hS ls hl
        rw [f_X0_passDay_L2] at h
        refine lv_iload_n hx hb dX0_passDay_2 rfl (lv_at hl 3 rfl) ?_
        refine lv_aload_n hx hb dX0_passDay_3 rfl (lv_at hl 0 rfl) ?_
        refine gt_X0_30 S hK hP 0 rfl rfl dX0_passDay_4 ?_
        refine x_icmp_ge (tgt := 41) hx hb h dX0_passDay_7 (by decide) (fun c7 h => ?_) (fun c7 h => ?_)
        · cases h
          exact x_vret hx hb hr hlocks hK hP hD hS rfl dX0_passDay_41
        · refine lv_aload_n hx hb dX0_passDay_10 rfl (lv_at hl 0 rfl) ?_
          refine gt_X0_27 S hK hP 0 rfl rfl dX0_passDay_11 ?_
          refine lv_iload_n hx hb dX0_passDay_14 rfl (lv_at hl 3 rfl) ?_
          refine lv_aload_n hx hb dX0_passDay_15 rfl (lv_at hl 0 rfl) ?_
          refine lv_iload_n hx hb dX0_passDay_16 rfl (lv_at hl 3 rfl) ?_
          refine lv_aload_n hx hb dX0_passDay_17 rfl (lv_at hl 0 rfl) ?_
          refine gt_X0_24 S hK hP 0 rfl rfl dX0_passDay_18 ?_
          refine lv_iload_n hx hb dX0_passDay_21 rfl (lv_at hl 3 rfl) ?_
          refine x_ald hx hb hK hP 5 h rfl rfl dX0_passDay_22 (fun x_4 ex_4 h => ?_)
          refine lv_aload_n hx hb dX0_passDay_23 rfl (lv_at hl 0 rfl) ?_
          refine gt_X0_27 S hK hP 0 rfl rfl dX0_passDay_24 ?_
          refine lv_iload_n hx hb dX0_passDay_27 rfl (lv_at hl 3 rfl) ?_
          refine x_ald hx hb hK hP 6 h rfl rfl dX0_passDay_28 (fun x_5 ex_5 h => ?_)
          refine lv_iload_n hx hb dX0_passDay_29 rfl (lv_at hl 1 rfl) ?_
          refine lv_aload_n hx hb dX0_passDay_30 rfl (lv_at hl 2 rfl) ?_
          obtain ⟨v_chill_stack_6, r_7, hc31, h⟩ := bd2_s h
          refine x_selfVi (As := [.int l3_3, .int x_4, .int x_5, .int p0, .ref (o 7)]) (rest := [.int l3_3, .ref (o 6)]) (Sta_ok T) S (c_X0_healthBehind l D cI cS T o hc31) yf_X0_healthBehind wd25_13 ⟨Nat.le_of_ble_eq_true rfl, Nat.le_of_ble_eq_true rfl⟩ hK hSt hA hP hD hS 0 rfl rfl rfl hl.1 rfl (Nat.le_of_ble_eq_true rfl) dX0_passDay_31 (Nat.zero_le _) (Nat.zero_le _) (fun H locs hP hD hS => ?_)
          refine x_ast hx hb hK hP hD hS 6 h rfl rfl dX0_passDay_34 (fun v_health_8 ev_health_8 h H locs hP hD hS => ?_)
          have hP : va_P D vwCl (pcX0chill o cI v_size v_kind v_mark v_horn v_brass v_open v_health_8 v_chill_use v_chill_codes v_chill_size v_chill_stack_6) H := hP
          have hD : va_D A (pcX0chill o cI v_size v_kind v_mark v_horn v_brass v_open v_health_8 v_chill_use v_chill_codes v_chill_size v_chill_stack_6) := hD
          obtain ⟨l3_9, el3_9, h⟩ := nmA_s h
          refine lv_iinc (v := l3_9) (lv' := [(3, .int l3_9), (0, .ref (o 0)), (1, .int p0), (2, .ref (o 7))]) hx hb dX0_passDay_35 hl (k := 3) rfl (by rw [el3_9]; exact congrArg _ (by decide)) (by decide) rfl (fun ls hl => ?_)
          refine lv_goto (tgt := 2) hx hb dX0_passDay_38 (by decide) ?_
          exact ih v_health_8 v_chill_stack_6 l3_9 h _ _ hP hD hS _ (lv_sub hl [1, 2, 3, 0] rfl)
  exact wf_X0_passDay_L2 300 v_health v_chill_stack 0 h _ _ hP hD hS _ (lv_sub hl [1, 2, 3, 0] rfl)

def f_X0_living_L4 (v_size : Int32) (v_health : Nat → Int32) : Nat → Int32 → Int32 → Option ((Int32))
  | 0, _, _ => none
  | k_n + 1, l1_1, l2_2 => (if v_size ≤ l2_2 then some (l1_1) else rdA 8 v_health l2_2 (fun x_3 => jnA (fun (l1_4 : Int32) => nmA (l2_2 + 1) (fun l2_5 => f_X0_living_L4 v_size v_health k_n l1_4 l2_5)) (fun J27 => (if x_3 ≤ 0 then J27 l1_1 else nmA (l1_1 ||| (1 <<< (l2_2 &&& 31))) (fun l1_6 => J27 l1_6)))))
def f_X0_living  (v_size : Int32) (v_health : Nat → Int32)  : Option ((Int32)) :=
  f_X0_living_L4 v_size v_health 300 0 0
set_option maxHeartbeats 600000 in
set_option maxRecDepth 100000 in
theorem c_X0_living (l : Launch) (D : va_G) (cI cS : ClassId) (T : Nat → Nat) (o : Nat → Nat) {v_size : Int32} {v_kind : Nat → Int32} {v_mark : Nat → Int32} {v_horn : Nat → Int32} {v_brass : Nat → Int32} {v_open : Nat → Int32} {v_health : Nat → Int32}   {r_out : Int32} (h : f_X0_living  v_size v_health  = some (r_out)) : MetI l D (tysX cI cS) (Sta T) yX0_living cX0_living 3 (some .int) 0 0 [.ref (o 0)] (pcX0 o cI v_size v_kind v_mark v_horn v_brass v_open v_health) r_out (pcX0 o cI v_size v_kind v_mark v_horn v_brass v_open v_health) := by
  refine Ent.metI (by decide +kernel) (Nat.le_of_ble_eq_true rfl) ?_
  intro p e s m args below meth c A ls hx hb hr hml hown hts hlocks hA hK hSt hP hD hS hl
  have hown : s.vm.findClass RX0 = some m.cls := hown
  have S : XFix p m c cX0_living 3 s args RX0 := ⟨hx, hb, hml, hown, hts⟩
  have hl : lv_has ls 3 [(0, .ref (o 0))] := hl
  unfold f_X0_living at h
  refine lv_iconst (v := 0) hx hb dX0_living_0 (by decide) ?_
  refine lv_istore_n (lv' := [(1, .int 0), (0, .ref (o 0))]) hx hb dX0_living_1 rfl hl (by decide) rfl (fun ls hl => ?_)
  refine lv_iconst (v := 0) hx hb dX0_living_2 (by decide) ?_
  refine lv_istore_n (lv' := [(2, .int 0), (1, .int 0), (0, .ref (o 0))]) hx hb dX0_living_3 rfl hl (by decide) rfl (fun ls hl => ?_)
  have wf_X0_living_L4 : ∀ (k_n : Nat) (l1_1 : Int32) (l2_2 : Int32), f_X0_living_L4 v_size v_health k_n l1_1 l2_2 = some (r_out) → ∀ (H : Heap) (locs : List Loc), va_P D vwCl (pcX0 o cI v_size v_kind v_mark v_horn v_brass v_open v_health) H → va_D A (pcX0 o cI v_size v_kind v_mark v_horn v_brass v_open v_health) → va_S A s.heap H locs → ∀ ls : Array Slot, lv_has ls 3 [(0, .ref (o 0)), (1, .int l1_1), (2, .int l2_2)] → WI p l e 0 0 s m args below meth c D (tysX cI cS) A r_out (pcX0 o cI v_size v_kind v_mark v_horn v_brass v_open v_health) H locs (F0 m 4 ls []) := by
      intro k_n
      induction k_n with
      | zero => intro l1_1 l2_2 h; rw [f_X0_living_L4] at h; cases h
      | succ k_n ih =>
        intro l1_1 l2_2 h H locs hP hD hS ls hl
        rw [f_X0_living_L4] at h
        refine lv_iload_n hx hb dX0_living_4 rfl (lv_at hl 2 rfl) ?_
        refine lv_aload_n hx hb dX0_living_5 rfl (lv_at hl 0 rfl) ?_
        refine gt_X0_30 S hK hP 0 rfl rfl dX0_living_6 ?_
        refine x_icmp_ge (tgt := 33) hx hb h dX0_living_9 (by decide) (fun c9 h => ?_) (fun c9 h => ?_)
        · refine lv_iload_n hx hb dX0_living_33 rfl (lv_at hl 1 rfl) ?_
          cases h
          exact x_iret hx hb hr hlocks hK hP hD hS rfl rfl dX0_living_34
        · refine lv_aload_n hx hb dX0_living_12 rfl (lv_at hl 0 rfl) ?_
          refine gt_X0_27 S hK hP 0 rfl rfl dX0_living_13 ?_
          refine lv_iload_n hx hb dX0_living_16 rfl (lv_at hl 2 rfl) ?_
          refine x_ald hx hb hK hP 6 h rfl rfl dX0_living_17 (fun x_3 ex_3 h => ?_)
          obtain ⟨J27, eJ27, h⟩ := jnA_s h
          have wJ27 : ∀ (l1_4 : Int32), J27 l1_4 = some (r_out) → ∀ (H : Heap) (locs : List Loc), va_P D vwCl (pcX0 o cI v_size v_kind v_mark v_horn v_brass v_open v_health) H → va_D A (pcX0 o cI v_size v_kind v_mark v_horn v_brass v_open v_health) → va_S A s.heap H locs → ∀ ls : Array Slot, lv_has ls 3 [(0, .ref (o 0)), (1, .int l1_4), (2, .int l2_2)] → WI p l e 0 0 s m args below meth c D (tysX cI cS) A r_out (pcX0 o cI v_size v_kind v_mark v_horn v_brass v_open v_health) H locs (F0 m 27 ls []) := by
              intro l1_4 h H locs hP hD hS ls hl
              subst eJ27
              dsimp only at h
              obtain ⟨l2_5, el2_5, h⟩ := nmA_s h
              refine lv_iinc (v := l2_5) (lv' := [(2, .int l2_5), (0, .ref (o 0)), (1, .int l1_4)]) hx hb dX0_living_27 hl (k := 2) rfl (by rw [el2_5]; exact congrArg _ (by decide)) (by decide) rfl (fun ls hl => ?_)
              refine lv_goto (tgt := 4) hx hb dX0_living_30 (by decide) ?_
              exact ih l1_4 l2_5 h _ _ hP hD hS _ (lv_sub hl [1, 2, 0] rfl)
          refine x_if_le (tgt := 27) hx hb h dX0_living_18 (by decide) (fun c18 h => ?_) (fun c18 h => ?_)
          · exact wJ27 l1_1 h _ _ hP hD hS _ (lv_sub hl [0, 1, 2] rfl)
          · refine lv_iload_n hx hb dX0_living_21 rfl (lv_at hl 1 rfl) ?_
            refine lv_iconst (v := 1) hx hb dX0_living_22 (by decide) ?_
            refine lv_iload_n hx hb dX0_living_23 rfl (lv_at hl 2 rfl) ?_
            refine lv_ishl hx hb dX0_living_24 ?_
            refine lv_ior hx hb dX0_living_25 ?_
            refine x_nm h (fun l1_6 el1_6 h => ?_)
            refine lv_istore_n (lv' := [(1, .int l1_6), (0, .ref (o 0)), (2, .int l2_2)]) hx hb dX0_living_26 rfl hl (by decide) rfl (fun ls hl => ?_)
            exact wJ27 l1_6 h _ _ hP hD hS _ (lv_sub hl [1, 0, 2] rfl)
  exact wf_X0_living_L4 300 0 0 h _ _ hP hD hS _ (lv_sub hl [2, 1, 0] rfl)

