def f_X4_note  (v_traces : Nat → Int32) (v_traced : Int32) (p0 : Int32) : Option ((Nat → Int32) × (Int32)) :=
  (if 40 ≤ v_traced then some (v_traces, v_traced) else wrA 40 v_traces v_traced p0 (fun v_traces_1 => nmA (v_traced + 1) (fun v_traced_2 => some (v_traces_1, v_traced_2))))
set_option maxHeartbeats 600000 in
set_option maxRecDepth 100000 in
theorem c_X4_note (l : Launch) (D : va_G) (cI cS : ClassId) (T : Nat → Nat) (o : Nat → Nat) {v_traces : Nat → Int32} {v_traced : Int32} {v_kind : Int32} {v_mark : Int32} {v_number : Int32} {p0 : Int32} {w_traces : Nat → Int32} {w_traced : Int32} (h : f_X4_note  v_traces v_traced p0 = some (w_traces, w_traced)) : MetV l D (tysX cI cS) (Sta T) yX4_note cX4_note 2 none 0 0 [.ref (o 0), .int p0] (pcX4 o cI v_traces v_traced v_kind v_mark v_number) (pcX4 o cI w_traces w_traced v_kind v_mark v_number) := by
  refine Ent.metV (by decide +kernel) (Nat.le_of_ble_eq_true rfl) ?_
  intro p e s m args below meth c A ls hx hb hr hml hown hts hlocks hA hK hSt hP hD hS hl
  have hown : s.vm.findClass RX4 = some m.cls := hown
  have S : XFix p m c cX4_note 2 s args RX4 := ⟨hx, hb, hml, hown, hts⟩
  have hl : lv_has ls 2 [(0, .ref (o 0)), (1, .int p0)] := hl
  unfold f_X4_note at h
  refine lv_aload_n hx hb dX4_note_0 rfl (lv_at hl 0 rfl) ?_
  refine gt_X4_25 S hK hP 0 rfl rfl dX4_note_1 ?_
  refine lv_aload_n hx hb dX4_note_4 rfl (lv_at hl 0 rfl) ?_
  refine gt_X4_9 S hK hP 0 rfl rfl dX4_note_5 ?_
  refine va_alen (v := 40) hx hb hK hP 1 0 rfl rfl (show Int32.ofNat 40 = 40 by decide) dX4_note_8 ?_
  refine x_icmp_ge (tgt := 32) hx hb h dX4_note_9 (by decide) (fun c9 h => ?_) (fun c9 h => ?_)
  · cases h
    exact x_vret hx hb hr hlocks hK hP hD hS rfl dX4_note_32
  · refine lv_aload_n hx hb dX4_note_12 rfl (lv_at hl 0 rfl) ?_
    refine gt_X4_9 S hK hP 0 rfl rfl dX4_note_13 ?_
    refine lv_aload_n hx hb dX4_note_16 rfl (lv_at hl 0 rfl) ?_
    refine gt_X4_25 S hK hP 0 rfl rfl dX4_note_17 ?_
    refine lv_iload_n hx hb dX4_note_20 rfl (lv_at hl 1 rfl) ?_
    refine x_ast hx hb hK hP hD hS 1 h rfl rfl dX4_note_21 (fun v_traces_1 ev_traces_1 h H locs hP hD hS => ?_)
    have hP : va_P D vwCl (pcX4 o cI v_traces_1 v_traced v_kind v_mark v_number) H := hP
    have hD : va_D A (pcX4 o cI v_traces_1 v_traced v_kind v_mark v_number) := hD
    refine lv_aload_n hx hb dX4_note_22 rfl (lv_at hl 0 rfl) ?_
    refine lv_dup hx hb dX4_note_23 rfl ?_
    refine gt_X4_25 S hK hP 0 rfl rfl dX4_note_24 ?_
    refine lv_iconst (v := 1) hx hb dX4_note_27 (by decide) ?_
    refine lv_iadd hx hb dX4_note_28 ?_
    refine x_nm h (fun v_traced_2 ev_traced_2 h => ?_)
    refine pt_X4_25 S hK hP hD hS 0 rfl (Nat.le_of_ble_eq_true rfl) dX4_note_29 (fun H locs hP hD hS => ?_)
    have hP : va_P D vwCl (pcX4 o cI v_traces_1 v_traced_2 v_kind v_mark v_number) H := hP
    have hD : va_D A (pcX4 o cI v_traces_1 v_traced_2 v_kind v_mark v_number) := hD
    cases h
    exact x_vret hx hb hr hlocks hK hP hD hS rfl dX4_note_32

def f_X4_run (rc : (Nat → Int32) → (Int32) → (Int32) → (Int32) → (Int32) → Int32 → Int32 → Int32 → Int32 → Option ((Nat → Int32) × (Int32) × (Int32))) (v_traces : Nat → Int32) (v_traced : Int32) (v_kind : Int32) (v_mark : Int32) (v_number : Int32) (p0 : Int32) (p1 : Int32) (p2 : Int32) : Option ((Nat → Int32) × (Int32) × (Int32)) :=
  (if p0 = 10 then some (v_traces, v_traced, (p1 + v_number)) else (if p0 = 11 then bd3 (rc v_traces v_traced v_kind v_mark v_number v_kind 0 p1 p2) (fun v_traces_1 v_traced_2 r_3 => some (v_traces_1, v_traced_2, (r_3 * 2))) else (if p0 = 12 then some (v_traces, v_traced, (p1 - v_mark)) else (if p0 = 13 then bd3 (rc v_traces v_traced v_kind v_mark v_number v_kind 1 p1 p2) (fun v_traces_4 v_traced_5 r_6 => bd3 (rc v_traces_4 v_traced_5 v_kind v_mark v_number v_kind 2 p1 p2) (fun v_traces_7 v_traced_8 r_9 => some (v_traces_7, v_traced_8, (r_6 ^^^ r_9)))) else (if p0 = 20 then rdA 7 s_ABOVE 1 (fun x_10 => bd3 (rc v_traces v_traced v_kind v_mark v_number x_10 2 p1 p2) (fun v_traces_11 v_traced_12 r_13 => some (v_traces_11, v_traced_12, (-r_13)))) else (if p0 = 30 then rdA 7 s_ABOVE 2 (fun x_14 => bd3 (rc v_traces v_traced v_kind v_mark v_number x_14 0 p1 p2) (fun v_traces_15 v_traced_16 r_17 => some (v_traces_15, v_traced_16, (r_17 * 3)))) else (if p0 = 40 then rdA 7 s_ABOVE 3 (fun x_18 => bd3 (rc v_traces v_traced v_kind v_mark v_number x_18 1 p1 p2) (fun v_traces_19 v_traced_20 r_21 => bd3 (rc v_traces_19 v_traced_20 v_kind v_mark v_number v_kind 2 1 p2) (fun v_traces_22 v_traced_23 r_24 => some (v_traces_22, v_traced_23, (r_21 - r_24))))) else (if p0 = 50 then rdA 7 s_ABOVE 4 (fun x_25 => bd3 (rc v_traces v_traced v_kind v_mark v_number x_25 2 p1 p2) (fun v_traces_26 v_traced_27 r_28 => some (v_traces_26, v_traced_27, (r_28 ^^^ v_number)))) else (if p0 = 51 then bd3 (rc v_traces v_traced v_kind v_mark v_number v_kind 1 p1 p2) (fun v_traces_29 v_traced_30 r_31 => rdA 7 s_ABOVE 4 (fun x_32 => bd3 (rc v_traces_29 v_traced_30 v_kind v_mark v_number x_32 3 p1 p2) (fun v_traces_33 v_traced_34 r_35 => some (v_traces_33, v_traced_34, (r_31 - r_35))))) else (if p0 = 60 then rdA 7 s_ABOVE 5 (fun x_36 => bd3 (rc v_traces v_traced v_kind v_mark v_number x_36 3 p1 p2) (fun v_traces_37 v_traced_38 r_39 => bd3 (rc v_traces_37 v_traced_38 v_kind v_mark v_number v_kind 0 2 p2) (fun v_traces_40 v_traced_41 r_42 => some (v_traces_40, v_traced_41, (r_39 - r_42))))) else (if p0 = 70 then rdA 7 s_ABOVE 6 (fun x_43 => bd3 (rc v_traces v_traced v_kind v_mark v_number x_43 1 (p1 + 1) p2) (fun v_traces_44 v_traced_45 r_46 => some (v_traces_44, v_traced_45, r_46))) else some (v_traces, v_traced, 0))))))))))))
set_option maxHeartbeats 600000 in
set_option maxRecDepth 100000 in
theorem c_X4_run (l : Launch) (D : va_G) (cI cS : ClassId) (T : Nat → Nat) (o : Nat → Nat) (rc : (Nat → Int32) → (Int32) → (Int32) → (Int32) → (Int32) → Int32 → Int32 → Int32 → Int32 → Option ((Nat → Int32) × (Int32) × (Int32))) (fr lo : Nat) (hrc : ∀ (v_traces : Nat → Int32) (v_traced : Int32) (v_kind : Int32) (v_mark : Int32) (v_number : Int32) (p0 : Int32) (p1 : Int32) (p2 : Int32) (p3 : Int32) (w_traces : Nat → Int32) (w_traced : Int32) (r_out : Int32), rc v_traces v_traced v_kind v_mark v_number p0 p1 p2 p3 = some (w_traces, w_traced, r_out) → MetI l D (tysX cI cS) (Sta T) yX4_begin cX4_begin 8 (some .int) fr lo [.ref (o 0), .int p0, .int p1, .int p2, .int p3] (pcX4 o cI v_traces v_traced v_kind v_mark v_number) r_out (pcX4 o cI w_traces w_traced v_kind v_mark v_number)) {v_traces : Nat → Int32} {v_traced : Int32} {v_kind : Int32} {v_mark : Int32} {v_number : Int32} {p0 : Int32} {p1 : Int32} {p2 : Int32} {w_traces : Nat → Int32} {w_traced : Int32} {r_out : Int32} (h : f_X4_run rc v_traces v_traced v_kind v_mark v_number p0 p1 p2 = some (w_traces, w_traced, r_out)) : MetI l D (tysX cI cS) (Sta T) yX4_run cX4_run 4 (some .int) (fr + 1) (lo + 27) [.ref (o 0), .int p0, .int p1, .int p2] (pcX4 o cI v_traces v_traced v_kind v_mark v_number) r_out (pcX4 o cI w_traces w_traced v_kind v_mark v_number) := by
  refine Ent.metI (by decide +kernel) (Nat.le_of_ble_eq_true rfl) ?_
  intro p e s m args below meth c A ls hx hb hr hml hown hts hlocks hA hK hSt hP hD hS hl
  have hown : s.vm.findClass RX4 = some m.cls := hown
  have S : XFix p m c cX4_run 4 s args RX4 := ⟨hx, hb, hml, hown, hts⟩
  have hl : lv_has ls 4 [(0, .ref (o 0)), (1, .int p0), (2, .int p1), (3, .int p2)] := hl
  unfold f_X4_run at h
  obtain ⟨⟨n1, n2, n3, n4, n5, n6⟩, ⟨zZ0, zT0⟩, ⟨zZ1, zT1⟩, ⟨zZ2, zT2⟩, ⟨zZ3, zT3⟩⟩ := id hSt
  refine lv_iload_n hx hb dX4_run_0 rfl (lv_at hl 1 rfl) ?_
  by_cases c1_0 : p0 = 10
  · replace h := ite_t c1_0 h
    refine lv_lookup (off := 99) (tgt := 100) hx hb dX4_run_1 (by decide +kernel) (by rw [c1_0]; decide +kernel) (by decide) ?_
    refine lv_iload_n hx hb dX4_run_100 rfl (lv_at hl 2 rfl) ?_
    refine lv_aload_n hx hb dX4_run_101 rfl (lv_at hl 0 rfl) ?_
    refine gt_X4_22 S hK hP 0 rfl rfl dX4_run_102 ?_
    refine lv_iadd hx hb dX4_run_105 ?_
    cases h
    exact x_iret hx hb hr hlocks hK hP hD hS rfl rfl dX4_run_106
  replace h := ite_f c1_0 h
  by_cases c1_1 : p0 = 11
  · replace h := ite_t c1_1 h
    refine lv_lookup (off := 106) (tgt := 107) hx hb dX4_run_1 (by decide +kernel) (by rw [c1_1]; decide +kernel) (by decide) ?_
    refine lv_aload_n hx hb dX4_run_107 rfl (lv_at hl 0 rfl) ?_
    refine lv_aload_n hx hb dX4_run_108 rfl (lv_at hl 0 rfl) ?_
    refine gt_X4_15 S hK hP 0 rfl rfl dX4_run_109 ?_
    refine lv_iconst (v := 0) hx hb dX4_run_112 (by decide) ?_
    refine lv_iload_n hx hb dX4_run_113 rfl (lv_at hl 2 rfl) ?_
    refine lv_iload_n hx hb dX4_run_114 rfl (lv_at hl 3 rfl) ?_
    obtain ⟨v_traces_1, v_traced_2, r_3, hc115, h⟩ := bd3_s h
    refine x_selfVi (As := [.int v_kind, .int 0, .int p1, .int p2]) (rest := []) (Sta_ok T) S (hrc _ _ _ _ _ _ _ _ _ _ _ _ hc115) yf_X4_begin wd34_11 ⟨by show fr + 1 ≤ (fr + 1); omega, by show 8 + (8 + 11) + lo ≤ (lo + 27); omega⟩ hK hSt hA hP hD hS 0 rfl rfl rfl hl.1 rfl (Nat.le_of_ble_eq_true rfl) dX4_run_115 (Nat.zero_le _) (Nat.zero_le _) (fun H locs hP hD hS => ?_)
    refine lv_iconst (v := 2) hx hb dX4_run_118 (by decide) ?_
    refine lv_imul hx hb dX4_run_119 ?_
    cases h
    exact x_iret hx hb hr hlocks hK hP hD hS rfl rfl dX4_run_120
  replace h := ite_f c1_1 h
  by_cases c1_2 : p0 = 12
  · replace h := ite_t c1_2 h
    refine lv_lookup (off := 120) (tgt := 121) hx hb dX4_run_1 (by decide +kernel) (by rw [c1_2]; decide +kernel) (by decide) ?_
    refine lv_iload_n hx hb dX4_run_121 rfl (lv_at hl 2 rfl) ?_
    refine lv_aload_n hx hb dX4_run_122 rfl (lv_at hl 0 rfl) ?_
    refine gt_X4_19 S hK hP 0 rfl rfl dX4_run_123 ?_
    refine lv_isub hx hb dX4_run_126 ?_
    cases h
    exact x_iret hx hb hr hlocks hK hP hD hS rfl rfl dX4_run_127
  replace h := ite_f c1_2 h
  by_cases c1_3 : p0 = 13
  · replace h := ite_t c1_3 h
    refine lv_lookup (off := 127) (tgt := 128) hx hb dX4_run_1 (by decide +kernel) (by rw [c1_3]; decide +kernel) (by decide) ?_
    refine lv_aload_n hx hb dX4_run_128 rfl (lv_at hl 0 rfl) ?_
    refine lv_aload_n hx hb dX4_run_129 rfl (lv_at hl 0 rfl) ?_
    refine gt_X4_15 S hK hP 0 rfl rfl dX4_run_130 ?_
    refine lv_iconst (v := 1) hx hb dX4_run_133 (by decide) ?_
    refine lv_iload_n hx hb dX4_run_134 rfl (lv_at hl 2 rfl) ?_
    refine lv_iload_n hx hb dX4_run_135 rfl (lv_at hl 3 rfl) ?_
    obtain ⟨v_traces_4, v_traced_5, r_6, hc136, h⟩ := bd3_s h
    refine x_selfVi (As := [.int v_kind, .int 1, .int p1, .int p2]) (rest := []) (Sta_ok T) S (hrc _ _ _ _ _ _ _ _ _ _ _ _ hc136) yf_X4_begin wd34_11 ⟨by show fr + 1 ≤ (fr + 1); omega, by show 8 + (8 + 11) + lo ≤ (lo + 27); omega⟩ hK hSt hA hP hD hS 0 rfl rfl rfl hl.1 rfl (Nat.le_of_ble_eq_true rfl) dX4_run_136 (Nat.zero_le _) (Nat.zero_le _) (fun H locs hP hD hS => ?_)
    refine lv_aload_n hx hb dX4_run_139 rfl (lv_at hl 0 rfl) ?_
    refine lv_aload_n hx hb dX4_run_140 rfl (lv_at hl 0 rfl) ?_
    refine gt_X4_15 S hK hP 0 rfl rfl dX4_run_141 ?_
    refine lv_iconst (v := 2) hx hb dX4_run_144 (by decide) ?_
    refine lv_iload_n hx hb dX4_run_145 rfl (lv_at hl 2 rfl) ?_
    refine lv_iload_n hx hb dX4_run_146 rfl (lv_at hl 3 rfl) ?_
    obtain ⟨v_traces_7, v_traced_8, r_9, hc147, h⟩ := bd3_s h
    refine x_selfVi (As := [.int v_kind, .int 2, .int p1, .int p2]) (rest := [.int r_6]) (Sta_ok T) S (hrc _ _ _ _ _ _ _ _ _ _ _ _ hc147) yf_X4_begin wd34_11 ⟨by show fr + 1 ≤ (fr + 1); omega, by show 8 + (8 + 11) + lo ≤ (lo + 27); omega⟩ hK hSt hA hP hD hS 0 rfl rfl rfl hl.1 rfl (Nat.le_of_ble_eq_true rfl) dX4_run_147 (Nat.zero_le _) (Nat.zero_le _) (fun H locs hP hD hS => ?_)
    refine lv_ixor hx hb dX4_run_150 ?_
    cases h
    exact x_iret hx hb hr hlocks hK hP hD hS rfl rfl dX4_run_151
  replace h := ite_f c1_3 h
  by_cases c1_4 : p0 = 20
  · replace h := ite_t c1_4 h
    refine lv_lookup (off := 151) (tgt := 152) hx hb dX4_run_1 (by decide +kernel) (by rw [c1_4]; decide +kernel) (by decide) ?_
    refine lv_aload_n hx hb dX4_run_152 rfl (lv_at hl 0 rfl) ?_
    refine va_getsN hx hb zZ0 hS hown (va_Nw.use rfl n4) (fun _ h => h) dX4_run_153 ?_
    refine lv_iconst (v := 1) hx hb dX4_run_156 (by decide) ?_
    refine x_sti hx hb zT0 hS h dX4_run_157 (fun x_10 ex_10 h => ?_)
    refine lv_iconst (v := 2) hx hb dX4_run_158 (by decide) ?_
    refine lv_iload_n hx hb dX4_run_159 rfl (lv_at hl 2 rfl) ?_
    refine lv_iload_n hx hb dX4_run_160 rfl (lv_at hl 3 rfl) ?_
    obtain ⟨v_traces_11, v_traced_12, r_13, hc161, h⟩ := bd3_s h
    refine x_selfVi (As := [.int x_10, .int 2, .int p1, .int p2]) (rest := []) (Sta_ok T) S (hrc _ _ _ _ _ _ _ _ _ _ _ _ hc161) yf_X4_begin wd34_11 ⟨by show fr + 1 ≤ (fr + 1); omega, by show 8 + (8 + 11) + lo ≤ (lo + 27); omega⟩ hK hSt hA hP hD hS 0 rfl rfl rfl hl.1 rfl (Nat.le_of_ble_eq_true rfl) dX4_run_161 (Nat.zero_le _) (Nat.zero_le _) (fun H locs hP hD hS => ?_)
    refine lv_ineg hx hb dX4_run_164 ?_
    cases h
    exact x_iret hx hb hr hlocks hK hP hD hS rfl rfl dX4_run_165
  replace h := ite_f c1_4 h
  by_cases c1_5 : p0 = 30
  · replace h := ite_t c1_5 h
    refine lv_lookup (off := 165) (tgt := 166) hx hb dX4_run_1 (by decide +kernel) (by rw [c1_5]; decide +kernel) (by decide) ?_
    refine lv_aload_n hx hb dX4_run_166 rfl (lv_at hl 0 rfl) ?_
    refine va_getsN hx hb zZ0 hS hown (va_Nw.use rfl n4) (fun _ h => h) dX4_run_167 ?_
    refine lv_iconst (v := 2) hx hb dX4_run_170 (by decide) ?_
    refine x_sti hx hb zT0 hS h dX4_run_171 (fun x_14 ex_14 h => ?_)
    refine lv_iconst (v := 0) hx hb dX4_run_172 (by decide) ?_
    refine lv_iload_n hx hb dX4_run_173 rfl (lv_at hl 2 rfl) ?_
    refine lv_iload_n hx hb dX4_run_174 rfl (lv_at hl 3 rfl) ?_
    obtain ⟨v_traces_15, v_traced_16, r_17, hc175, h⟩ := bd3_s h
    refine x_selfVi (As := [.int x_14, .int 0, .int p1, .int p2]) (rest := []) (Sta_ok T) S (hrc _ _ _ _ _ _ _ _ _ _ _ _ hc175) yf_X4_begin wd34_11 ⟨by show fr + 1 ≤ (fr + 1); omega, by show 8 + (8 + 11) + lo ≤ (lo + 27); omega⟩ hK hSt hA hP hD hS 0 rfl rfl rfl hl.1 rfl (Nat.le_of_ble_eq_true rfl) dX4_run_175 (Nat.zero_le _) (Nat.zero_le _) (fun H locs hP hD hS => ?_)
    refine lv_iconst (v := 3) hx hb dX4_run_178 (by decide) ?_
    refine lv_imul hx hb dX4_run_179 ?_
    cases h
    exact x_iret hx hb hr hlocks hK hP hD hS rfl rfl dX4_run_180
  replace h := ite_f c1_5 h
  by_cases c1_6 : p0 = 40
  · replace h := ite_t c1_6 h
    refine lv_lookup (off := 180) (tgt := 181) hx hb dX4_run_1 (by decide +kernel) (by rw [c1_6]; decide +kernel) (by decide) ?_
    refine lv_aload_n hx hb dX4_run_181 rfl (lv_at hl 0 rfl) ?_
    refine va_getsN hx hb zZ0 hS hown (va_Nw.use rfl n4) (fun _ h => h) dX4_run_182 ?_
    refine lv_iconst (v := 3) hx hb dX4_run_185 (by decide) ?_
    refine x_sti hx hb zT0 hS h dX4_run_186 (fun x_18 ex_18 h => ?_)
    refine lv_iconst (v := 1) hx hb dX4_run_187 (by decide) ?_
    refine lv_iload_n hx hb dX4_run_188 rfl (lv_at hl 2 rfl) ?_
    refine lv_iload_n hx hb dX4_run_189 rfl (lv_at hl 3 rfl) ?_
    obtain ⟨v_traces_19, v_traced_20, r_21, hc190, h⟩ := bd3_s h
    refine x_selfVi (As := [.int x_18, .int 1, .int p1, .int p2]) (rest := []) (Sta_ok T) S (hrc _ _ _ _ _ _ _ _ _ _ _ _ hc190) yf_X4_begin wd34_11 ⟨by show fr + 1 ≤ (fr + 1); omega, by show 8 + (8 + 11) + lo ≤ (lo + 27); omega⟩ hK hSt hA hP hD hS 0 rfl rfl rfl hl.1 rfl (Nat.le_of_ble_eq_true rfl) dX4_run_190 (Nat.zero_le _) (Nat.zero_le _) (fun H locs hP hD hS => ?_)
    refine lv_aload_n hx hb dX4_run_193 rfl (lv_at hl 0 rfl) ?_
    refine lv_aload_n hx hb dX4_run_194 rfl (lv_at hl 0 rfl) ?_
    refine gt_X4_15 S hK hP 0 rfl rfl dX4_run_195 ?_
    refine lv_iconst (v := 2) hx hb dX4_run_198 (by decide) ?_
    refine lv_iconst (v := 1) hx hb dX4_run_199 (by decide) ?_
    refine lv_iload_n hx hb dX4_run_200 rfl (lv_at hl 3 rfl) ?_
    obtain ⟨v_traces_22, v_traced_23, r_24, hc201, h⟩ := bd3_s h
    refine x_selfVi (As := [.int v_kind, .int 2, .int 1, .int p2]) (rest := [.int r_21]) (Sta_ok T) S (hrc _ _ _ _ _ _ _ _ _ _ _ _ hc201) yf_X4_begin wd34_11 ⟨by show fr + 1 ≤ (fr + 1); omega, by show 8 + (8 + 11) + lo ≤ (lo + 27); omega⟩ hK hSt hA hP hD hS 0 rfl rfl rfl hl.1 rfl (Nat.le_of_ble_eq_true rfl) dX4_run_201 (Nat.zero_le _) (Nat.zero_le _) (fun H locs hP hD hS => ?_)
    refine lv_isub hx hb dX4_run_204 ?_
    cases h
    exact x_iret hx hb hr hlocks hK hP hD hS rfl rfl dX4_run_205
  replace h := ite_f c1_6 h
  by_cases c1_7 : p0 = 50
  · replace h := ite_t c1_7 h
    refine lv_lookup (off := 205) (tgt := 206) hx hb dX4_run_1 (by decide +kernel) (by rw [c1_7]; decide +kernel) (by decide) ?_
    refine lv_aload_n hx hb dX4_run_206 rfl (lv_at hl 0 rfl) ?_
    refine va_getsN hx hb zZ0 hS hown (va_Nw.use rfl n4) (fun _ h => h) dX4_run_207 ?_
    refine lv_iconst (v := 4) hx hb dX4_run_210 (by decide) ?_
    refine x_sti hx hb zT0 hS h dX4_run_211 (fun x_25 ex_25 h => ?_)
    refine lv_iconst (v := 2) hx hb dX4_run_212 (by decide) ?_
    refine lv_iload_n hx hb dX4_run_213 rfl (lv_at hl 2 rfl) ?_
    refine lv_iload_n hx hb dX4_run_214 rfl (lv_at hl 3 rfl) ?_
    obtain ⟨v_traces_26, v_traced_27, r_28, hc215, h⟩ := bd3_s h
    refine x_selfVi (As := [.int x_25, .int 2, .int p1, .int p2]) (rest := []) (Sta_ok T) S (hrc _ _ _ _ _ _ _ _ _ _ _ _ hc215) yf_X4_begin wd34_11 ⟨by show fr + 1 ≤ (fr + 1); omega, by show 8 + (8 + 11) + lo ≤ (lo + 27); omega⟩ hK hSt hA hP hD hS 0 rfl rfl rfl hl.1 rfl (Nat.le_of_ble_eq_true rfl) dX4_run_215 (Nat.zero_le _) (Nat.zero_le _) (fun H locs hP hD hS => ?_)
    refine lv_aload_n hx hb dX4_run_218 rfl (lv_at hl 0 rfl) ?_
    refine gt_X4_22 S hK hP 0 rfl rfl dX4_run_219 ?_
    refine lv_ixor hx hb dX4_run_222 ?_
    cases h
    exact x_iret hx hb hr hlocks hK hP hD hS rfl rfl dX4_run_223
  replace h := ite_f c1_7 h
  by_cases c1_8 : p0 = 51
  · replace h := ite_t c1_8 h
    refine lv_lookup (off := 223) (tgt := 224) hx hb dX4_run_1 (by decide +kernel) (by rw [c1_8]; decide +kernel) (by decide) ?_
    refine lv_aload_n hx hb dX4_run_224 rfl (lv_at hl 0 rfl) ?_
    refine lv_aload_n hx hb dX4_run_225 rfl (lv_at hl 0 rfl) ?_
    refine gt_X4_15 S hK hP 0 rfl rfl dX4_run_226 ?_
    refine lv_iconst (v := 1) hx hb dX4_run_229 (by decide) ?_
    refine lv_iload_n hx hb dX4_run_230 rfl (lv_at hl 2 rfl) ?_
    refine lv_iload_n hx hb dX4_run_231 rfl (lv_at hl 3 rfl) ?_
    obtain ⟨v_traces_29, v_traced_30, r_31, hc232, h⟩ := bd3_s h
    refine x_selfVi (As := [.int v_kind, .int 1, .int p1, .int p2]) (rest := []) (Sta_ok T) S (hrc _ _ _ _ _ _ _ _ _ _ _ _ hc232) yf_X4_begin wd34_11 ⟨by show fr + 1 ≤ (fr + 1); omega, by show 8 + (8 + 11) + lo ≤ (lo + 27); omega⟩ hK hSt hA hP hD hS 0 rfl rfl rfl hl.1 rfl (Nat.le_of_ble_eq_true rfl) dX4_run_232 (Nat.zero_le _) (Nat.zero_le _) (fun H locs hP hD hS => ?_)
    refine lv_aload_n hx hb dX4_run_235 rfl (lv_at hl 0 rfl) ?_
    refine va_getsN hx hb zZ0 hS hown (va_Nw.use rfl n4) (fun _ h => h) dX4_run_236 ?_
    refine lv_iconst (v := 4) hx hb dX4_run_239 (by decide) ?_
    refine x_sti hx hb zT0 hS h dX4_run_240 (fun x_32 ex_32 h => ?_)
    refine lv_iconst (v := 3) hx hb dX4_run_241 (by decide) ?_
    refine lv_iload_n hx hb dX4_run_242 rfl (lv_at hl 2 rfl) ?_
    refine lv_iload_n hx hb dX4_run_243 rfl (lv_at hl 3 rfl) ?_
    obtain ⟨v_traces_33, v_traced_34, r_35, hc244, h⟩ := bd3_s h
    refine x_selfVi (As := [.int x_32, .int 3, .int p1, .int p2]) (rest := [.int r_31]) (Sta_ok T) S (hrc _ _ _ _ _ _ _ _ _ _ _ _ hc244) yf_X4_begin wd34_11 ⟨by show fr + 1 ≤ (fr + 1); omega, by show 8 + (8 + 11) + lo ≤ (lo + 27); omega⟩ hK hSt hA hP hD hS 0 rfl rfl rfl hl.1 rfl (Nat.le_of_ble_eq_true rfl) dX4_run_244 (Nat.zero_le _) (Nat.zero_le _) (fun H locs hP hD hS => ?_)
    refine lv_isub hx hb dX4_run_247 ?_
    cases h
    exact x_iret hx hb hr hlocks hK hP hD hS rfl rfl dX4_run_248
  replace h := ite_f c1_8 h
  by_cases c1_9 : p0 = 60
  · replace h := ite_t c1_9 h
    refine lv_lookup (off := 248) (tgt := 249) hx hb dX4_run_1 (by decide +kernel) (by rw [c1_9]; decide +kernel) (by decide) ?_
    refine lv_aload_n hx hb dX4_run_249 rfl (lv_at hl 0 rfl) ?_
    refine va_getsN hx hb zZ0 hS hown (va_Nw.use rfl n4) (fun _ h => h) dX4_run_250 ?_
    refine lv_iconst (v := 5) hx hb dX4_run_253 (by decide) ?_
    refine x_sti hx hb zT0 hS h dX4_run_254 (fun x_36 ex_36 h => ?_)
    refine lv_iconst (v := 3) hx hb dX4_run_255 (by decide) ?_
    refine lv_iload_n hx hb dX4_run_256 rfl (lv_at hl 2 rfl) ?_
    refine lv_iload_n hx hb dX4_run_257 rfl (lv_at hl 3 rfl) ?_
    obtain ⟨v_traces_37, v_traced_38, r_39, hc258, h⟩ := bd3_s h
    refine x_selfVi (As := [.int x_36, .int 3, .int p1, .int p2]) (rest := []) (Sta_ok T) S (hrc _ _ _ _ _ _ _ _ _ _ _ _ hc258) yf_X4_begin wd34_11 ⟨by show fr + 1 ≤ (fr + 1); omega, by show 8 + (8 + 11) + lo ≤ (lo + 27); omega⟩ hK hSt hA hP hD hS 0 rfl rfl rfl hl.1 rfl (Nat.le_of_ble_eq_true rfl) dX4_run_258 (Nat.zero_le _) (Nat.zero_le _) (fun H locs hP hD hS => ?_)
    refine lv_aload_n hx hb dX4_run_261 rfl (lv_at hl 0 rfl) ?_
    refine lv_aload_n hx hb dX4_run_262 rfl (lv_at hl 0 rfl) ?_
    refine gt_X4_15 S hK hP 0 rfl rfl dX4_run_263 ?_
    refine lv_iconst (v := 0) hx hb dX4_run_266 (by decide) ?_
    refine lv_iconst (v := 2) hx hb dX4_run_267 (by decide) ?_
    refine lv_iload_n hx hb dX4_run_268 rfl (lv_at hl 3 rfl) ?_
    obtain ⟨v_traces_40, v_traced_41, r_42, hc269, h⟩ := bd3_s h
    refine x_selfVi (As := [.int v_kind, .int 0, .int 2, .int p2]) (rest := [.int r_39]) (Sta_ok T) S (hrc _ _ _ _ _ _ _ _ _ _ _ _ hc269) yf_X4_begin wd34_11 ⟨by show fr + 1 ≤ (fr + 1); omega, by show 8 + (8 + 11) + lo ≤ (lo + 27); omega⟩ hK hSt hA hP hD hS 0 rfl rfl rfl hl.1 rfl (Nat.le_of_ble_eq_true rfl) dX4_run_269 (Nat.zero_le _) (Nat.zero_le _) (fun H locs hP hD hS => ?_)
    refine lv_isub hx hb dX4_run_272 ?_
    cases h
    exact x_iret hx hb hr hlocks hK hP hD hS rfl rfl dX4_run_273
  replace h := ite_f c1_9 h
  by_cases c1_10 : p0 = 70
  · replace h := ite_t c1_10 h
    refine lv_lookup (off := 273) (tgt := 274) hx hb dX4_run_1 (by decide +kernel) (by rw [c1_10]; decide +kernel) (by decide) ?_
    refine lv_aload_n hx hb dX4_run_274 rfl (lv_at hl 0 rfl) ?_
    refine va_getsN hx hb zZ0 hS hown (va_Nw.use rfl n4) (fun _ h => h) dX4_run_275 ?_
    refine lv_bipush (v := 6) hx hb dX4_run_278 (by decide) ?_
    refine x_sti hx hb zT0 hS h dX4_run_280 (fun x_43 ex_43 h => ?_)
    refine lv_iconst (v := 1) hx hb dX4_run_281 (by decide) ?_
    refine lv_iload_n hx hb dX4_run_282 rfl (lv_at hl 2 rfl) ?_
    refine lv_iconst (v := 1) hx hb dX4_run_283 (by decide) ?_
    refine lv_iadd hx hb dX4_run_284 ?_
    refine lv_iload_n hx hb dX4_run_285 rfl (lv_at hl 3 rfl) ?_
    obtain ⟨v_traces_44, v_traced_45, r_46, hc286, h⟩ := bd3_s h
    refine x_selfVi (As := [.int x_43, .int 1, .int (p1 + 1), .int p2]) (rest := []) (Sta_ok T) S (hrc _ _ _ _ _ _ _ _ _ _ _ _ hc286) yf_X4_begin wd34_11 ⟨by show fr + 1 ≤ (fr + 1); omega, by show 8 + (8 + 11) + lo ≤ (lo + 27); omega⟩ hK hSt hA hP hD hS 0 rfl rfl rfl hl.1 rfl (Nat.le_of_ble_eq_true rfl) dX4_run_286 (Nat.zero_le _) (Nat.zero_le _) (fun H locs hP hD hS => ?_)
    cases h
    exact x_iret hx hb hr hlocks hK hP hD hS rfl rfl dX4_run_289
  replace h := ite_f c1_10 h
  refine lv_lookup (off := 289) (tgt := 290) hx hb dX4_run_1 (by decide +kernel) (by show Op.lookupswitch.offset [(10, 99), (11, 106), (12, 120), (13, 127), (20, 151), (30, 165), (40, 180), (50, 205), (51, 223), (60, 248), (70, 273)] 289 (p0).toInt = 289; rw [lv_osw c1_0 (by decide), lv_osw c1_1 (by decide), lv_osw c1_2 (by decide), lv_osw c1_3 (by decide), lv_osw c1_4 (by decide), lv_osw c1_5 (by decide), lv_osw c1_6 (by decide), lv_osw c1_7 (by decide), lv_osw c1_8 (by decide), lv_osw c1_9 (by decide), lv_osw c1_10 (by decide)]; rfl) (by decide) ?_
  refine lv_iconst (v := 0) hx hb dX4_run_290 (by decide) ?_
  cases h
  exact x_iret hx hb hr hlocks hK hP hD hS rfl rfl dX4_run_291

def f_X4_beginB_L6 (v_traces : Nat → Int32) (v_traced : Int32) (p1 : Int32) (p3 : Int32) (J42 : Int32 → Option ((Nat → Int32) × (Int32) × (Int32))) : Nat → Int32 → Int32 → Option ((Nat → Int32) × (Int32) × (Int32))
  | 0, _, _ => none
  | k_n + 1, l5_7, l6_8 => (if 7 ≤ l6_8 then some (v_traces, v_traced, 0) else (if l5_7 < 0 then some (v_traces, v_traced, 0) else rdA 28 s_BODIES ((4 * l5_7) + p1) (fun x_9 => jnA (rdA 7 s_ABOVE l5_7 (fun x_10 => nmA (l6_8 + 1) (fun l6_11 => f_X4_beginB_L6 v_traces v_traced p1 p3 J42 k_n x_10 l6_11))) (fun J60 => (if x_9 = 0 then J60 else (if 20 ≤ p3 then J60 else J42 x_9))))))
def f_X4_beginB (rc : (Nat → Int32) → (Int32) → (Int32) → (Int32) → (Int32) → Int32 → Int32 → Int32 → Int32 → Option ((Nat → Int32) × (Int32) × (Int32))) (v_traces : Nat → Int32) (v_traced : Int32) (v_kind : Int32) (v_mark : Int32) (v_number : Int32) (p0 : Int32) (p1 : Int32) (p2 : Int32) (p3 : Int32) : Option ((Nat → Int32) × (Int32) × (Int32)) :=
  jnA (fun (l7_1 : Int32) => bd2 (f_X4_note v_traces v_traced l7_1) (fun v_traces_2 v_traced_3 => bd3 (f_X4_run rc v_traces_2 v_traced_3 v_kind v_mark v_number l7_1 p2 (p3 + 1)) (fun v_traces_4 v_traced_5 r_6 => some (v_traces_4, v_traced_5, r_6)))) (fun J42 => f_X4_beginB_L6 v_traces v_traced p1 p3 J42 300 p0 0)
set_option maxHeartbeats 600000 in
set_option maxRecDepth 100000 in
theorem c_X4_beginB (l : Launch) (D : va_G) (cI cS : ClassId) (T : Nat → Nat) (o : Nat → Nat) (rc : (Nat → Int32) → (Int32) → (Int32) → (Int32) → (Int32) → Int32 → Int32 → Int32 → Int32 → Option ((Nat → Int32) × (Int32) × (Int32))) (fr lo : Nat) (hrc : ∀ (v_traces : Nat → Int32) (v_traced : Int32) (v_kind : Int32) (v_mark : Int32) (v_number : Int32) (p0 : Int32) (p1 : Int32) (p2 : Int32) (p3 : Int32) (w_traces : Nat → Int32) (w_traced : Int32) (r_out : Int32), rc v_traces v_traced v_kind v_mark v_number p0 p1 p2 p3 = some (w_traces, w_traced, r_out) → MetI l D (tysX cI cS) (Sta T) yX4_begin cX4_begin 8 (some .int) fr lo [.ref (o 0), .int p0, .int p1, .int p2, .int p3] (pcX4 o cI v_traces v_traced v_kind v_mark v_number) r_out (pcX4 o cI w_traces w_traced v_kind v_mark v_number)) {v_traces : Nat → Int32} {v_traced : Int32} {v_kind : Int32} {v_mark : Int32} {v_number : Int32} {p0 : Int32} {p1 : Int32} {p2 : Int32} {p3 : Int32} {w_traces : Nat → Int32} {w_traced : Int32} {r_out : Int32} (h : f_X4_beginB rc v_traces v_traced v_kind v_mark v_number p0 p1 p2 p3 = some (w_traces, w_traced, r_out)) : MetI l D (tysX cI cS) (Sta T) yX4_begin cX4_begin 8 (some .int) (fr + 2) (lo + 50) [.ref (o 0), .int p0, .int p1, .int p2, .int p3] (pcX4 o cI v_traces v_traced v_kind v_mark v_number) r_out (pcX4 o cI w_traces w_traced v_kind v_mark v_number) := by
  refine Ent.metI (by decide +kernel) (Nat.le_of_ble_eq_true rfl) ?_
  intro p e s m args below meth c A ls hx hb hr hml hown hts hlocks hA hK hSt hP hD hS hl
  have hown : s.vm.findClass RX4 = some m.cls := hown
  have S : XFix p m c cX4_begin 8 s args RX4 := ⟨hx, hb, hml, hown, hts⟩
  have hl : lv_has ls 8 [(0, .ref (o 0)), (1, .int p0), (2, .int p1), (3, .int p2), (4, .int p3)] := hl
  unfold f_X4_beginB at h
  obtain ⟨⟨n1, n2, n3, n4, n5, n6⟩, ⟨zZ0, zT0⟩, ⟨zZ1, zT1⟩, ⟨zZ2, zT2⟩, ⟨zZ3, zT3⟩⟩ := id hSt
  refine lv_iload_n hx hb dX4_begin_0 rfl (lv_at hl 1 rfl) ?_
  refine lv_istore (lv' := [(5, .int p0), (0, .ref (o 0)), (1, .int p0), (2, .int p1), (3, .int p2), (4, .int p3)]) hx hb dX4_begin_1 hl (by decide) rfl (fun ls hl => ?_)
  refine lv_iconst (v := 0) hx hb dX4_begin_3 (by decide) ?_
  refine lv_istore (lv' := [(6, .int 0), (5, .int p0), (0, .ref (o 0)), (1, .int p0), (2, .int p1), (3, .int p2), (4, .int p3)]) hx hb dX4_begin_4 hl (by decide) rfl (fun ls hl => ?_)
  obtain ⟨J42, eJ42, h⟩ := jnA_s h
  have wJ42 : ∀ (l7_1 : Int32), J42 l7_1 = some (w_traces, w_traced, r_out) → ∀ (H : Heap) (locs : List Loc), va_P D vwCl (pcX4 o cI v_traces v_traced v_kind v_mark v_number) H → va_D A (pcX4 o cI v_traces v_traced v_kind v_mark v_number) → va_S A s.heap H locs → ∀ ls : Array Slot, lv_has ls 8 [(0, .ref (o 0)), (3, .int p2), (4, .int p3), (7, .int l7_1)] → WI p l e (fr + 2) (lo + 50) s m args below meth c D (tysX cI cS) A r_out (pcX4 o cI w_traces w_traced v_kind v_mark v_number) H locs (F0 m 42 ls []) := by
      intro l7_1 h H locs hP hD hS ls hl
      subst eJ42
      dsimp only at h
      refine lv_aload_n hx hb dX4_begin_42 rfl (lv_at hl 0 rfl) ?_
      refine lv_iload hx hb dX4_begin_43 (lv_at hl 3 rfl) ?_
      obtain ⟨v_traces_2, v_traced_3, hc45, h⟩ := bd2_s h
      refine x_selfVv (As := [.int l7_1]) (rest := []) (Sta_ok T) S (c_X4_note l D cI cS T o hc45) yf_X4_note wd34_15 ⟨by show 0 + 1 ≤ (fr + 2); omega, by show 8 + (2 + 11) + 0 ≤ (lo + 50); omega⟩ hK hSt hA hP hD hS 0 rfl rfl rfl hl.1 rfl (Nat.le_of_ble_eq_true rfl) dX4_begin_45 (Nat.zero_le _) (Nat.zero_le _) (fun H locs hP hD hS => ?_)
      refine lv_aload_n hx hb dX4_begin_48 rfl (lv_at hl 0 rfl) ?_
      refine lv_iload hx hb dX4_begin_49 (lv_at hl 3 rfl) ?_
      refine lv_iload_n hx hb dX4_begin_51 rfl (lv_at hl 1 rfl) ?_
      refine lv_iload hx hb dX4_begin_52 (lv_at hl 2 rfl) ?_
      refine lv_iconst (v := 1) hx hb dX4_begin_54 (by decide) ?_
      refine lv_iadd hx hb dX4_begin_55 ?_
      obtain ⟨v_traces_4, v_traced_5, r_6, hc56, h⟩ := bd3_s h
      refine x_selfVi (As := [.int l7_1, .int p2, .int (p3 + 1)]) (rest := []) (Sta_ok T) S (c_X4_run l D cI cS T o rc fr lo hrc hc56) yf_X4_run wd34_19 ⟨by show (fr + 1) + 1 ≤ (fr + 2); omega, by show 8 + (4 + 11) + (lo + 27) ≤ (lo + 50); omega⟩ hK hSt hA hP hD hS 0 rfl rfl rfl hl.1 rfl (Nat.le_of_ble_eq_true rfl) dX4_begin_56 (Nat.zero_le _) (Nat.zero_le _) (fun H locs hP hD hS => ?_)
      cases h
      exact x_iret hx hb hr hlocks hK hP hD hS rfl rfl dX4_begin_59
  have wf_X4_beginB_L6 : ∀ (k_n : Nat) (l5_7 : Int32) (l6_8 : Int32), f_X4_beginB_L6 v_traces v_traced p1 p3 J42 k_n l5_7 l6_8 = some (w_traces, w_traced, r_out) → ∀ (H : Heap) (locs : List Loc), va_P D vwCl (pcX4 o cI v_traces v_traced v_kind v_mark v_number) H → va_D A (pcX4 o cI v_traces v_traced v_kind v_mark v_number) → va_S A s.heap H locs → ∀ ls : Array Slot, lv_has ls 8 [(0, .ref (o 0)), (2, .int p1), (3, .int p2), (4, .int p3), (5, .int l5_7), (6, .int l6_8)] → WI p l e (fr + 2) (lo + 50) s m args below meth c D (tysX cI cS) A r_out (pcX4 o cI w_traces w_traced v_kind v_mark v_number) H locs (F0 m 6 ls []) := by
      intro k_n
      induction k_n with
      | zero => intro l5_7 l6_8 h; rw [f_X4_beginB_L6] at h; cases h
      | succ k_n ih =>
        intro l5_7 l6_8 h H locs hP hD hS ls hl
        rw [f_X4_beginB_L6] at h
        refine lv_iload hx hb dX4_begin_6 (lv_at hl 5 rfl) ?_
        refine lv_bipush (v := 7) hx hb dX4_begin_8 (by decide) ?_
        refine x_icmp_ge (tgt := 74) hx hb h dX4_begin_10 (by decide) (fun c10 h => ?_) (fun c10 h => ?_)
        · refine lv_iconst (v := 0) hx hb dX4_begin_74 (by decide) ?_
          cases h
          exact x_iret hx hb hr hlocks hK hP hD hS rfl rfl dX4_begin_75
        · refine lv_iload hx hb dX4_begin_13 (lv_at hl 4 rfl) ?_
          refine x_if_lt (tgt := 74) hx hb h dX4_begin_15 (by decide) (fun c15 h => ?_) (fun c15 h => ?_)
          · refine lv_iconst (v := 0) hx hb dX4_begin_74 (by decide) ?_
            cases h
            exact x_iret hx hb hr hlocks hK hP hD hS rfl rfl dX4_begin_75
          · refine va_getsN hx hb zZ3 hS hown (va_Nw.use rfl n3) (fun _ h => h) dX4_begin_18 ?_
            refine lv_iconst (v := 4) hx hb dX4_begin_21 (by decide) ?_
            refine lv_iload hx hb dX4_begin_22 (lv_at hl 4 rfl) ?_
            refine lv_imul hx hb dX4_begin_24 ?_
            refine lv_iload_n hx hb dX4_begin_25 rfl (lv_at hl 1 rfl) ?_
            refine lv_iadd hx hb dX4_begin_26 ?_
            refine x_sti hx hb zT3 hS h dX4_begin_27 (fun x_9 ex_9 h => ?_)
            refine lv_istore (lv' := [(7, .int x_9), (0, .ref (o 0)), (2, .int p1), (3, .int p2), (4, .int p3), (5, .int l5_7), (6, .int l6_8)]) hx hb dX4_begin_28 hl (by decide) rfl (fun ls hl => ?_)
            refine lv_iload hx hb dX4_begin_30 (lv_at hl 0 rfl) ?_
            obtain ⟨J60, eJ60, h⟩ := jnA_s h
            have wJ60 : J60  = some (w_traces, w_traced, r_out) → ∀ (H : Heap) (locs : List Loc), va_P D vwCl (pcX4 o cI v_traces v_traced v_kind v_mark v_number) H → va_D A (pcX4 o cI v_traces v_traced v_kind v_mark v_number) → va_S A s.heap H locs → ∀ ls : Array Slot, lv_has ls 8 [(0, .ref (o 0)), (2, .int p1), (3, .int p2), (4, .int p3), (5, .int l5_7), (6, .int l6_8)] → WI p l e (fr + 2) (lo + 50) s m args below meth c D (tysX cI cS) A r_out (pcX4 o cI w_traces w_traced v_kind v_mark v_number) H locs (F0 m 60 ls []) := by
                intro h H locs hP hD hS ls hl
                subst eJ60
                refine va_getsN hx hb zZ0 hS hown (va_Nw.use rfl n4) (fun _ h => h) dX4_begin_60 ?_
                refine lv_iload hx hb dX4_begin_63 (lv_at hl 4 rfl) ?_
                refine x_sti hx hb zT0 hS h dX4_begin_65 (fun x_10 ex_10 h => ?_)
                refine lv_istore (lv' := [(5, .int x_10), (0, .ref (o 0)), (2, .int p1), (3, .int p2), (4, .int p3), (6, .int l6_8)]) hx hb dX4_begin_66 hl (by decide) rfl (fun ls hl => ?_)
                obtain ⟨l6_11, el6_11, h⟩ := nmA_s h
                refine lv_iinc (v := l6_11) (lv' := [(6, .int l6_11), (5, .int x_10), (0, .ref (o 0)), (2, .int p1), (3, .int p2), (4, .int p3)]) hx hb dX4_begin_68 hl (k := 5) rfl (by rw [el6_11]; exact congrArg _ (by decide)) (by decide) rfl (fun ls hl => ?_)
                refine lv_goto (tgt := 6) hx hb dX4_begin_71 (by decide) ?_
                exact ih x_10 l6_11 h _ _ hP hD hS _ (lv_sub hl [2, 3, 4, 5, 1, 0] rfl)
            refine x_if_eq (tgt := 60) hx hb h dX4_begin_32 (by decide) (fun c32 h => ?_) (fun c32 h => ?_)
            · exact wJ60 h _ _ hP hD hS _ (lv_sub hl [1, 2, 3, 4, 5, 6] rfl)
            · refine lv_iload hx hb dX4_begin_35 (lv_at hl 4 rfl) ?_
              refine lv_bipush (v := 20) hx hb dX4_begin_37 (by decide) ?_
              refine x_icmp_ge (tgt := 60) hx hb h dX4_begin_39 (by decide) (fun c39 h => ?_) (fun c39 h => ?_)
              · exact wJ60 h _ _ hP hD hS _ (lv_sub hl [1, 2, 3, 4, 5, 6] rfl)
              · exact wJ42 x_9 h _ _ hP hD hS _ (lv_sub hl [1, 3, 4, 0] rfl)
  exact wf_X4_beginB_L6 300 p0 0 h _ _ hP hD hS _ (lv_sub hl [2, 4, 5, 6, 1, 0] rfl)

def g_X4_begin : Nat → ((Nat → Int32) → (Int32) → (Int32) → (Int32) → (Int32) → Int32 → Int32 → Int32 → Int32 → Option ((Nat → Int32) × (Int32) × (Int32)))
  | 0 => (fun _ _ _ _ _ _ _ _ _ => none)
  | k_n + 1 => f_X4_beginB (g_X4_begin k_n)
set_option maxHeartbeats 4000000 in
theorem cg_X4_begin (l : Launch) (D : va_G) (cI cS : ClassId) (T o : Nat → Nat) : ∀ (k_n : Nat), (∀ (v_traces : Nat → Int32) (v_traced : Int32) (v_kind : Int32) (v_mark : Int32) (v_number : Int32) (p0 : Int32) (p1 : Int32) (p2 : Int32) (p3 : Int32) (w_traces : Nat → Int32) (w_traced : Int32) (r_out : Int32), (g_X4_begin k_n) v_traces v_traced v_kind v_mark v_number p0 p1 p2 p3 = some (w_traces, w_traced, r_out) → MetI l D (tysX cI cS) (Sta T) yX4_begin cX4_begin 8 (some .int) (2 * k_n) (50 * k_n) [.ref (o 0), .int p0, .int p1, .int p2, .int p3] (pcX4 o cI v_traces v_traced v_kind v_mark v_number) r_out (pcX4 o cI w_traces w_traced v_kind v_mark v_number)) := by
  intro k_n
  induction k_n with
  | zero => exact (fun v_traces v_traced v_kind v_mark v_number p0 p1 p2 p3 w_traces w_traced r_out h => (by cases h))
  | succ k_n ih => exact (fun v_traces v_traced v_kind v_mark v_number p0 p1 p2 p3 w_traces w_traced r_out h => c_X4_beginB l D cI cS T o (g_X4_begin k_n) (2 * k_n) (50 * k_n) ih h)
def f_X4_speak  (v_traces : Nat → Int32) (v_traced : Int32) (v_kind : Int32) (v_mark : Int32) (v_number : Int32) (p0 : Int32) (p1 : Int32) (p2 : Int32) (p3 : Int32) (p4 : Int32) : Option ((Nat → Int32) × (Int32) × (Int32) × (Int32) × (Int32) × (Int32)) :=
  bd3 ((g_X4_begin 8) v_traces 0 p0 p1 p2 p0 p3 p4 0) (fun v_traces_1 v_traced_2 r_3 => some (v_traces_1, v_traced_2, p0, p1, p2, r_3))
set_option maxHeartbeats 600000 in
set_option maxRecDepth 100000 in
theorem c_X4_speak (l : Launch) (D : va_G) (cI cS : ClassId) (T : Nat → Nat) (o : Nat → Nat) {v_traces : Nat → Int32} {v_traced : Int32} {v_kind : Int32} {v_mark : Int32} {v_number : Int32} {p0 : Int32} {p1 : Int32} {p2 : Int32} {p3 : Int32} {p4 : Int32} {w_traces : Nat → Int32} {w_traced : Int32} {w_kind : Int32} {w_mark : Int32} {w_number : Int32} {r_out : Int32} (h : f_X4_speak  v_traces v_traced v_kind v_mark v_number p0 p1 p2 p3 p4 = some (w_traces, w_traced, w_kind, w_mark, w_number, r_out)) : MetI l D (tysX cI cS) (Sta T) yX4_speak cX4_speak 6 (some .int) 17 427 [.ref (o 0), .int p0, .int p1, .int p2, .int p3, .int p4] (pcX4 o cI v_traces v_traced v_kind v_mark v_number) r_out (pcX4 o cI w_traces w_traced w_kind w_mark w_number) := by
  refine Ent.metI (by decide +kernel) (Nat.le_of_ble_eq_true rfl) ?_
  intro p e s m args below meth c A ls hx hb hr hml hown hts hlocks hA hK hSt hP hD hS hl
  have hown : s.vm.findClass RX4 = some m.cls := hown
  have S : XFix p m c cX4_speak 6 s args RX4 := ⟨hx, hb, hml, hown, hts⟩
  have hl : lv_has ls 6 [(0, .ref (o 0)), (1, .int p0), (2, .int p1), (3, .int p2), (4, .int p3), (5, .int p4)] := hl
  unfold f_X4_speak at h
  refine lv_aload_n hx hb dX4_speak_0 rfl (lv_at hl 0 rfl) ?_
  refine lv_iload_n hx hb dX4_speak_1 rfl (lv_at hl 1 rfl) ?_
  refine pt_X4_15 S hK hP hD hS 0 rfl (Nat.le_of_ble_eq_true rfl) dX4_speak_2 (fun H locs hP hD hS => ?_)
  have hP : va_P D vwCl (pcX4 o cI v_traces v_traced p0 v_mark v_number) H := hP
  have hD : va_D A (pcX4 o cI v_traces v_traced p0 v_mark v_number) := hD
  refine lv_aload_n hx hb dX4_speak_5 rfl (lv_at hl 0 rfl) ?_
  refine lv_iload_n hx hb dX4_speak_6 rfl (lv_at hl 2 rfl) ?_
  refine pt_X4_19 S hK hP hD hS 0 rfl (Nat.le_of_ble_eq_true rfl) dX4_speak_7 (fun H locs hP hD hS => ?_)
  have hP : va_P D vwCl (pcX4 o cI v_traces v_traced p0 p1 v_number) H := hP
  have hD : va_D A (pcX4 o cI v_traces v_traced p0 p1 v_number) := hD
  refine lv_aload_n hx hb dX4_speak_10 rfl (lv_at hl 0 rfl) ?_
  refine lv_iload_n hx hb dX4_speak_11 rfl (lv_at hl 3 rfl) ?_
  refine pt_X4_22 S hK hP hD hS 0 rfl (Nat.le_of_ble_eq_true rfl) dX4_speak_12 (fun H locs hP hD hS => ?_)
  have hP : va_P D vwCl (pcX4 o cI v_traces v_traced p0 p1 p2) H := hP
  have hD : va_D A (pcX4 o cI v_traces v_traced p0 p1 p2) := hD
  refine lv_aload_n hx hb dX4_speak_15 rfl (lv_at hl 0 rfl) ?_
  refine lv_iconst (v := 0) hx hb dX4_speak_16 (by decide) ?_
  refine pt_X4_25 S hK hP hD hS 0 rfl (Nat.le_of_ble_eq_true rfl) dX4_speak_17 (fun H locs hP hD hS => ?_)
  have hP : va_P D vwCl (pcX4 o cI v_traces 0 p0 p1 p2) H := hP
  have hD : va_D A (pcX4 o cI v_traces 0 p0 p1 p2) := hD
  refine lv_aload_n hx hb dX4_speak_20 rfl (lv_at hl 0 rfl) ?_
  refine lv_aload_n hx hb dX4_speak_21 rfl (lv_at hl 0 rfl) ?_
  refine gt_X4_15 S hK hP 0 rfl rfl dX4_speak_22 ?_
  refine lv_iload hx hb dX4_speak_25 (lv_at hl 4 rfl) ?_
  refine lv_iload hx hb dX4_speak_27 (lv_at hl 5 rfl) ?_
  refine lv_iconst (v := 0) hx hb dX4_speak_29 (by decide) ?_
  obtain ⟨v_traces_1, v_traced_2, r_3, hc30, h⟩ := bd3_s h
  refine x_selfVi (As := [.int p0, .int p3, .int p4, .int 0]) (rest := []) (Sta_ok T) S ((cg_X4_begin l D cI cS T o 8) _ _ _ _ _ _ _ _ _ _ _ _ hc30) yf_X4_begin wd34_11 ⟨Nat.le_of_ble_eq_true rfl, Nat.le_of_ble_eq_true rfl⟩ hK hSt hA hP hD hS 0 rfl rfl rfl hl.1 rfl (Nat.le_of_ble_eq_true rfl) dX4_speak_30 (Nat.zero_le _) (Nat.zero_le _) (fun H locs hP hD hS => ?_)
  cases h
  exact x_iret hx hb hr hlocks hK hP hD hS rfl rfl dX4_speak_33

