def f_X5_hasMotion  (v_motions : Int32) (p0 : Int32) : Option ((Int32)) :=
  (if p0 < 0 then some (0) else (if v_motions ≤ p0 then some (0) else some (1)))
set_option maxHeartbeats 600000 in
set_option maxRecDepth 100000 in
theorem c_X5_hasMotion (l : Launch) (D : va_G) (cI cS : ClassId) (T : Nat → Nat) (o : Nat → Nat) {v_folk_size : Int32} {v_folk_kind : Nat → Int32} {v_folk_mark : Nat → Int32} {v_folk_horn : Nat → Int32} {v_folk_brass : Nat → Int32} {v_folk_open : Nat → Int32} {v_folk_health : Nat → Int32} {v_motions : Int32} {v_quorum : Nat → Int32} {v_favour : Nat → Int32} {v_laws : Int32} {v_urnHorn : Int32} {v_urnBrass : Int32} {v_thread : Int32} {v_winter : Int32} {v_day : Int32} {v_chill_use : Int32} {v_chill_codes : Nat → Int32} {v_chill_size : Int32} {v_chill_stack : Nat → Int32} {v_cold_use : Int32} {v_cold_codes : Nat → Int32} {v_cold_size : Int32} {v_cold_stack : Nat → Int32} {v_tape : Nat → Int32} {v_taped : Int32} {v_z : Int32} {v_waiting : Nat → Int32} {v_waits : Int32} {p0 : Int32}  {r_out : Int32} (h : f_X5_hasMotion  v_motions p0 = some (r_out)) : MetI l D (tysX cI cS) (Sta T) yX5_hasMotion cX5_hasMotion 2 (some .boolean) 0 0 [.ref (o 0), .int p0] (pcX5 o cI v_folk_size v_folk_kind v_folk_mark v_folk_horn v_folk_brass v_folk_open v_folk_health v_motions v_quorum v_favour v_laws v_urnHorn v_urnBrass v_thread v_winter v_day v_chill_use v_chill_codes v_chill_size v_chill_stack v_cold_use v_cold_codes v_cold_size v_cold_stack v_tape v_taped v_z v_waiting v_waits) r_out (pcX5 o cI v_folk_size v_folk_kind v_folk_mark v_folk_horn v_folk_brass v_folk_open v_folk_health v_motions v_quorum v_favour v_laws v_urnHorn v_urnBrass v_thread v_winter v_day v_chill_use v_chill_codes v_chill_size v_chill_stack v_cold_use v_cold_codes v_cold_size v_cold_stack v_tape v_taped v_z v_waiting v_waits) := by
  refine Ent.metI (by decide +kernel) (Nat.le_of_ble_eq_true rfl) ?_
  intro p e s m args below meth c A ls hx hb hr hml hown hts hlocks hA hK hSt hP hD hS hl
  have hown : s.vm.findClass RX5 = some m.cls := hown
  have S : XFix p m c cX5_hasMotion 2 s args RX5 := ⟨hx, hb, hml, hown, hts⟩
  have hl : lv_has ls 2 [(0, .ref (o 0)), (1, .int p0)] := hl
  unfold f_X5_hasMotion at h
  refine lv_iload_n hx hb dX5_hasMotion_0 rfl (lv_at hl 1 rfl) ?_
  refine x_if_lt (tgt := 16) hx hb h dX5_hasMotion_1 (by decide) (fun c1 h => ?_) (fun c1 h => ?_)
  · refine lv_iconst (v := 0) hx hb dX5_hasMotion_16 (by decide) ?_
    cases h
    exact x_zret hx hb hr hlocks hK hP hD hS rfl rfl (Or.inl rfl) dX5_hasMotion_17
  · refine lv_iload_n hx hb dX5_hasMotion_4 rfl (lv_at hl 1 rfl) ?_
    refine lv_aload_n hx hb dX5_hasMotion_5 rfl (lv_at hl 0 rfl) ?_
    refine gt_X5_57 S hK hP 0 rfl rfl dX5_hasMotion_6 ?_
    refine x_icmp_ge (tgt := 16) hx hb h dX5_hasMotion_9 (by decide) (fun c9 h => ?_) (fun c9 h => ?_)
    · refine lv_iconst (v := 0) hx hb dX5_hasMotion_16 (by decide) ?_
      cases h
      exact x_zret hx hb hr hlocks hK hP hD hS rfl rfl (Or.inl rfl) dX5_hasMotion_17
    · refine lv_iconst (v := 1) hx hb dX5_hasMotion_12 (by decide) ?_
      refine lv_goto (tgt := 17) hx hb dX5_hasMotion_13 (by decide) ?_
      cases h
      exact x_zret hx hb hr hlocks hK hP hD hS rfl rfl (Or.inr rfl) dX5_hasMotion_17

def f_X5_textOf   (p0 : Int32) : Option ((Nat)) :=
  (if p0 = 0 then some 10 else some 13)
set_option maxHeartbeats 600000 in
set_option maxRecDepth 100000 in
theorem c_X5_textOf (l : Launch) (D : va_G) (cI cS : ClassId) (T : Nat → Nat) (o : Nat → Nat) {v_folk_size : Int32} {v_folk_kind : Nat → Int32} {v_folk_mark : Nat → Int32} {v_folk_horn : Nat → Int32} {v_folk_brass : Nat → Int32} {v_folk_open : Nat → Int32} {v_folk_health : Nat → Int32} {v_motions : Int32} {v_quorum : Nat → Int32} {v_favour : Nat → Int32} {v_laws : Int32} {v_urnHorn : Int32} {v_urnBrass : Int32} {v_thread : Int32} {v_winter : Int32} {v_day : Int32} {v_chill_use : Int32} {v_chill_codes : Nat → Int32} {v_chill_size : Int32} {v_chill_stack : Nat → Int32} {v_cold_use : Int32} {v_cold_codes : Nat → Int32} {v_cold_size : Int32} {v_cold_stack : Nat → Int32} {v_tape : Nat → Int32} {v_taped : Int32} {v_z : Int32} {v_waiting : Nat → Int32} {v_waits : Int32} {p0 : Int32}  {r_out : Nat} (h : f_X5_textOf   p0 = some (r_out)) : MetR l D (tysX cI cS) (Sta T) yX5_textOf cX5_textOf 2 (some (.object "CoatVotes$Text")) 0 0 [.ref (o 0), .int p0] (pcX5 o cI v_folk_size v_folk_kind v_folk_mark v_folk_horn v_folk_brass v_folk_open v_folk_health v_motions v_quorum v_favour v_laws v_urnHorn v_urnBrass v_thread v_winter v_day v_chill_use v_chill_codes v_chill_size v_chill_stack v_cold_use v_cold_codes v_cold_size v_cold_stack v_tape v_taped v_z v_waiting v_waits) (o r_out) (pcX5 o cI v_folk_size v_folk_kind v_folk_mark v_folk_horn v_folk_brass v_folk_open v_folk_health v_motions v_quorum v_favour v_laws v_urnHorn v_urnBrass v_thread v_winter v_day v_chill_use v_chill_codes v_chill_size v_chill_stack v_cold_use v_cold_codes v_cold_size v_cold_stack v_tape v_taped v_z v_waiting v_waits) := by
  refine Ent.metR (by decide +kernel) (Nat.le_of_ble_eq_true rfl) ?_
  intro p e s m args below meth c A ls hx hb hr hml hown hts hlocks hA hK hSt hP hD hS hl
  have hown : s.vm.findClass RX5 = some m.cls := hown
  have S : XFix p m c cX5_textOf 2 s args RX5 := ⟨hx, hb, hml, hown, hts⟩
  have hl : lv_has ls 2 [(0, .ref (o 0)), (1, .int p0)] := hl
  unfold f_X5_textOf at h
  refine lv_iload_n hx hb dX5_textOf_0 rfl (lv_at hl 1 rfl) ?_
  refine x_if_ne (tgt := 11) hx hb h dX5_textOf_1 (by decide) (fun c1 h => ?_) (fun c1 h => ?_)
  · refine lv_aload_n hx hb dX5_textOf_11 rfl (lv_at hl 0 rfl) ?_
    refine gt_X5_41 S hK hP 0 rfl rfl dX5_textOf_12 ?_
    cases h
    exact x_aret hx hb hr (Or.inl ⟨_, rfl⟩) hlocks hK hP hD hS rfl rfl dX5_textOf_15
  · refine lv_aload_n hx hb dX5_textOf_4 rfl (lv_at hl 0 rfl) ?_
    refine gt_X5_37 S hK hP 0 rfl rfl dX5_textOf_5 ?_
    refine lv_goto (tgt := 15) hx hb dX5_textOf_8 (by decide) ?_
    cases h
    exact x_aret hx hb hr (Or.inl ⟨_, rfl⟩) hlocks hK hP hD hS rfl rfl dX5_textOf_15

def f_X5_coldOf  (v_cold_use : Int32) (v_cold_codes : Nat → Int32) (v_cold_size : Int32) (v_cold_stack : Nat → Int32) (p0 : Int32) (p1 : Int32) (p2 : Int32) : Option ((Nat → Int32) × (Int32)) :=
  bd1 (f_J6_bitCount_0f7a4 p2) (fun r_1 => bd2 (f_X3_gives v_cold_use v_cold_codes v_cold_size v_cold_stack p0 p1 r_1) (fun v_cold_stack_2 r_3 => some (v_cold_stack_2, r_3)))
set_option maxHeartbeats 600000 in
set_option maxRecDepth 100000 in
theorem c_X5_coldOf (l : Launch) (D : va_G) (cI cS : ClassId) (T : Nat → Nat) (o : Nat → Nat) {v_folk_size : Int32} {v_folk_kind : Nat → Int32} {v_folk_mark : Nat → Int32} {v_folk_horn : Nat → Int32} {v_folk_brass : Nat → Int32} {v_folk_open : Nat → Int32} {v_folk_health : Nat → Int32} {v_motions : Int32} {v_quorum : Nat → Int32} {v_favour : Nat → Int32} {v_laws : Int32} {v_urnHorn : Int32} {v_urnBrass : Int32} {v_thread : Int32} {v_winter : Int32} {v_day : Int32} {v_chill_use : Int32} {v_chill_codes : Nat → Int32} {v_chill_size : Int32} {v_chill_stack : Nat → Int32} {v_cold_use : Int32} {v_cold_codes : Nat → Int32} {v_cold_size : Int32} {v_cold_stack : Nat → Int32} {v_tape : Nat → Int32} {v_taped : Int32} {v_z : Int32} {v_waiting : Nat → Int32} {v_waits : Int32} {p0 : Int32} {p1 : Int32} {p2 : Int32} {w_cold_stack : Nat → Int32} {r_out : Int32} (h : f_X5_coldOf  v_cold_use v_cold_codes v_cold_size v_cold_stack p0 p1 p2 = some (w_cold_stack, r_out)) : MetI l D (tysX cI cS) (Sta T) yX5_coldOf cX5_coldOf 4 (some .int) 3 72 [.ref (o 0), .int p0, .int p1, .int p2] (pcX5 o cI v_folk_size v_folk_kind v_folk_mark v_folk_horn v_folk_brass v_folk_open v_folk_health v_motions v_quorum v_favour v_laws v_urnHorn v_urnBrass v_thread v_winter v_day v_chill_use v_chill_codes v_chill_size v_chill_stack v_cold_use v_cold_codes v_cold_size v_cold_stack v_tape v_taped v_z v_waiting v_waits) r_out (pcX5 o cI v_folk_size v_folk_kind v_folk_mark v_folk_horn v_folk_brass v_folk_open v_folk_health v_motions v_quorum v_favour v_laws v_urnHorn v_urnBrass v_thread v_winter v_day v_chill_use v_chill_codes v_chill_size v_chill_stack v_cold_use v_cold_codes v_cold_size w_cold_stack v_tape v_taped v_z v_waiting v_waits) := by
  refine Ent.metI (by decide +kernel) (Nat.le_of_ble_eq_true rfl) ?_
  intro p e s m args below meth c A ls hx hb hr hml hown hts hlocks hA hK hSt hP hD hS hl
  have hown : s.vm.findClass RX5 = some m.cls := hown
  have S : XFix p m c cX5_coldOf 4 s args RX5 := ⟨hx, hb, hml, hown, hts⟩
  have hl : lv_has ls 4 [(0, .ref (o 0)), (1, .int p0), (2, .int p1), (3, .int p2)] := hl
  unfold f_X5_coldOf at h
  refine lv_aload_n hx hb dX5_coldOf_0 rfl (lv_at hl 0 rfl) ?_
  refine gt_X5_41 S hK hP 0 rfl rfl dX5_coldOf_1 ?_
  refine lv_iload_n hx hb dX5_coldOf_4 rfl (lv_at hl 1 rfl) ?_
  refine lv_iload_n hx hb dX5_coldOf_5 rfl (lv_at hl 2 rfl) ?_
  refine lv_iload_n hx hb dX5_coldOf_6 rfl (lv_at hl 3 rfl) ?_
  obtain ⟨r_1, hc7, h⟩ := bd1_s h
  refine x_statI (As := [.int p2]) (rest := [.int p1, .int p0, .ref (o 13)]) (Sta_ok T) S (c_J6_bitCount_0f7a4 l D cI cS T o hc7) ys_J6_bitCount_0f7a4 wd8_15 ⟨Nat.le_of_ble_eq_true rfl, Nat.le_of_ble_eq_true rfl⟩ hK hSt hA hP hD hS rfl hl.1 rfl (Nat.le_of_ble_eq_true rfl) dX5_coldOf_7 (Nat.zero_le _) (Nat.zero_le _) (fun H locs hP hD hS => ?_)
  obtain ⟨v_cold_stack_2, r_3, hc10, h⟩ := bd2_s h
  refine x_callVi (ws' := (pcX5 o cI v_folk_size v_folk_kind v_folk_mark v_folk_horn v_folk_brass v_folk_open v_folk_health v_motions v_quorum v_favour v_laws v_urnHorn v_urnBrass v_thread v_winter v_day v_chill_use v_chill_codes v_chill_size v_chill_stack v_cold_use v_cold_codes v_cold_size v_cold_stack_2 v_tape v_taped v_z v_waiting v_waits)) (isC := [13, 14, 15]) (isR := [0, 1, 2, 3, 4, 5, 6, 7, 8, 9, 10, 11, 12, 16, 17]) (As := [.int p0, .int p1, .int r_1]) (rest := []) (Sta_ok T) S (c_X3_gives l D cI cS T (fun k => o (k + 13)) hc10) yf_X3_gives wd8_22 ⟨Nat.le_of_ble_eq_true rfl, Nat.le_of_ble_eq_true rfl⟩ hK hSt hA hP hD hS ⟨rfl, rfl, rfl, rfl, (show va_nd [13, 14, 15] = true by decide +kernel), (show ∀ i, i < 18 → i ∈ ([13, 14, 15] : List Nat) ∨ i ∈ ([0, 1, 2, 3, 4, 5, 6, 7, 8, 9, 10, 11, 12, 16, 17] : List Nat) by decide +kernel), (show ∀ i ∈ ([0, 1, 2, 3, 4, 5, 6, 7, 8, 9, 10, 11, 12, 16, 17] : List Nat), i ∉ ([13, 14, 15] : List Nat) by decide +kernel)⟩ 0 rfl rfl rfl hl.1 rfl (Nat.le_of_ble_eq_true rfl) dX5_coldOf_10 (Nat.zero_le _) (Nat.zero_le _) (fun H locs hP hD hS => ?_)
  cases h
  exact x_iret hx hb hr hlocks hK hP hD hS rfl rfl dX5_coldOf_13

def f_X5_holdVote  (v_folk_size : Int32) (v_folk_kind : Nat → Int32) (v_folk_mark : Nat → Int32) (v_folk_horn : Nat → Int32) (v_folk_brass : Nat → Int32) (v_folk_open : Nat → Int32) (v_folk_health : Nat → Int32) (v_quorum : Nat → Int32) (v_favour : Nat → Int32) (v_laws : Int32) (v_urnHorn : Int32) (v_urnBrass : Int32) (p0 : Int32) : Option ((Nat → Int32) × (Nat → Int32) × (Nat → Int32) × (Int32) × (Int32) × (Int32) × (Int32)) :=
  rdA 6 v_favour p0 (fun x_1 => rdA 6 v_quorum p0 (fun x_2 => bd1 (f_X0_wouldPass v_folk_size v_folk_kind v_folk_mark v_folk_horn v_folk_brass v_folk_health x_1 x_2) (fun r_3 => jnA (fun (v_laws_4 : Int32) => bd1 (f_X0_hornOf v_folk_size v_folk_kind v_folk_horn v_folk_brass v_folk_health 255) (fun r_5 => nmA (minI 999 (v_urnHorn + r_5)) (fun v_urnHorn_6 => bd1 (f_X0_brassOf v_folk_size v_folk_kind v_folk_horn v_folk_brass v_folk_health 255) (fun r_7 => nmA (minI 999 (v_urnBrass + r_7)) (fun v_urnBrass_8 => bd3 (f_X0_cutAll v_folk_size v_folk_kind v_folk_horn v_folk_brass v_folk_open v_folk_health) (fun v_folk_horn_9 v_folk_brass_10 v_folk_open_11 => bzA r_3 (some (v_folk_horn_9, v_folk_brass_10, v_folk_open_11, v_laws_4, v_urnHorn_6, v_urnBrass_8, r_3)))))))) (fun J36 => (if r_3 = 0 then J36 v_laws else nmA (v_laws ||| (1 <<< (p0 &&& 31))) (fun v_laws_12 => J36 v_laws_12))))))
set_option maxHeartbeats 600000 in
set_option maxRecDepth 100000 in
theorem c_X5_holdVote (l : Launch) (D : va_G) (cI cS : ClassId) (T : Nat → Nat) (o : Nat → Nat) {v_folk_size : Int32} {v_folk_kind : Nat → Int32} {v_folk_mark : Nat → Int32} {v_folk_horn : Nat → Int32} {v_folk_brass : Nat → Int32} {v_folk_open : Nat → Int32} {v_folk_health : Nat → Int32} {v_motions : Int32} {v_quorum : Nat → Int32} {v_favour : Nat → Int32} {v_laws : Int32} {v_urnHorn : Int32} {v_urnBrass : Int32} {v_thread : Int32} {v_winter : Int32} {v_day : Int32} {v_chill_use : Int32} {v_chill_codes : Nat → Int32} {v_chill_size : Int32} {v_chill_stack : Nat → Int32} {v_cold_use : Int32} {v_cold_codes : Nat → Int32} {v_cold_size : Int32} {v_cold_stack : Nat → Int32} {v_tape : Nat → Int32} {v_taped : Int32} {v_z : Int32} {v_waiting : Nat → Int32} {v_waits : Int32} {p0 : Int32} {w_folk_horn : Nat → Int32} {w_folk_brass : Nat → Int32} {w_folk_open : Nat → Int32} {w_laws : Int32} {w_urnHorn : Int32} {w_urnBrass : Int32} {r_out : Int32} (h : f_X5_holdVote  v_folk_size v_folk_kind v_folk_mark v_folk_horn v_folk_brass v_folk_open v_folk_health v_quorum v_favour v_laws v_urnHorn v_urnBrass p0 = some (w_folk_horn, w_folk_brass, w_folk_open, w_laws, w_urnHorn, w_urnBrass, r_out)) : MetI l D (tysX cI cS) (Sta T) yX5_holdVote cX5_holdVote 4 (some .boolean) 5 114 [.ref (o 0), .int p0] (pcX5 o cI v_folk_size v_folk_kind v_folk_mark v_folk_horn v_folk_brass v_folk_open v_folk_health v_motions v_quorum v_favour v_laws v_urnHorn v_urnBrass v_thread v_winter v_day v_chill_use v_chill_codes v_chill_size v_chill_stack v_cold_use v_cold_codes v_cold_size v_cold_stack v_tape v_taped v_z v_waiting v_waits) r_out (pcX5 o cI v_folk_size v_folk_kind v_folk_mark w_folk_horn w_folk_brass w_folk_open v_folk_health v_motions v_quorum v_favour w_laws w_urnHorn w_urnBrass v_thread v_winter v_day v_chill_use v_chill_codes v_chill_size v_chill_stack v_cold_use v_cold_codes v_cold_size v_cold_stack v_tape v_taped v_z v_waiting v_waits) := by
  refine Ent.metI (by decide +kernel) (Nat.le_of_ble_eq_true rfl) ?_
  intro p e s m args below meth c A ls hx hb hr hml hown hts hlocks hA hK hSt hP hD hS hl
  have hown : s.vm.findClass RX5 = some m.cls := hown
  have S : XFix p m c cX5_holdVote 4 s args RX5 := ⟨hx, hb, hml, hown, hts⟩
  have hl : lv_has ls 4 [(0, .ref (o 0)), (1, .int p0)] := hl
  unfold f_X5_holdVote at h
  refine lv_aload_n hx hb dX5_holdVote_0 rfl (lv_at hl 0 rfl) ?_
  refine gt_X5_12 S hK hP 0 rfl rfl dX5_holdVote_1 ?_
  refine lv_aload_n hx hb dX5_holdVote_4 rfl (lv_at hl 0 rfl) ?_
  refine gt_X5_22 S hK hP 0 rfl rfl dX5_holdVote_5 ?_
  refine lv_iload_n hx hb dX5_holdVote_8 rfl (lv_at hl 1 rfl) ?_
  refine x_ald hx hb hK hP 9 h rfl rfl dX5_holdVote_9 (fun x_1 ex_1 h => ?_)
  refine lv_aload_n hx hb dX5_holdVote_10 rfl (lv_at hl 0 rfl) ?_
  refine gt_X5_18 S hK hP 0 rfl rfl dX5_holdVote_11 ?_
  refine lv_iload_n hx hb dX5_holdVote_14 rfl (lv_at hl 1 rfl) ?_
  refine x_ald hx hb hK hP 8 h rfl rfl dX5_holdVote_15 (fun x_2 ex_2 h => ?_)
  obtain ⟨r_3, hc16, h⟩ := bd1_s h
  refine x_callVi (ws' := (pcX5 o cI v_folk_size v_folk_kind v_folk_mark v_folk_horn v_folk_brass v_folk_open v_folk_health v_motions v_quorum v_favour v_laws v_urnHorn v_urnBrass v_thread v_winter v_day v_chill_use v_chill_codes v_chill_size v_chill_stack v_cold_use v_cold_codes v_cold_size v_cold_stack v_tape v_taped v_z v_waiting v_waits)) (isC := [1, 2, 3, 4, 5, 6, 7]) (isR := [0, 8, 9, 10, 11, 12, 13, 14, 15, 16, 17]) (As := [.int x_1, .int x_2]) (rest := []) (Sta_ok T) S (c_X0_wouldPass l D cI cS T (fun k => o (k + 1)) hc16) yf_X0_wouldPass wd23_16 ⟨Nat.le_of_ble_eq_true rfl, Nat.le_of_ble_eq_true rfl⟩ hK hSt hA hP hD hS ⟨rfl, rfl, rfl, rfl, (show va_nd [1, 2, 3, 4, 5, 6, 7] = true by decide +kernel), (show ∀ i, i < 18 → i ∈ ([1, 2, 3, 4, 5, 6, 7] : List Nat) ∨ i ∈ ([0, 8, 9, 10, 11, 12, 13, 14, 15, 16, 17] : List Nat) by decide +kernel), (show ∀ i ∈ ([0, 8, 9, 10, 11, 12, 13, 14, 15, 16, 17] : List Nat), i ∉ ([1, 2, 3, 4, 5, 6, 7] : List Nat) by decide +kernel)⟩ 0 rfl rfl rfl hl.1 rfl (Nat.le_of_ble_eq_true rfl) dX5_holdVote_16 (Nat.zero_le _) (Nat.zero_le _) (fun H locs hP hD hS => ?_)
  refine lv_istore_n (lv' := [(2, .int r_3), (0, .ref (o 0)), (1, .int p0)]) hx hb dX5_holdVote_19 rfl hl (by decide) rfl (fun ls hl => ?_)
  refine lv_iload_n hx hb dX5_holdVote_20 rfl (lv_at hl 0 rfl) ?_
  obtain ⟨J36, eJ36, h⟩ := jnA_s h
  have wJ36 : ∀ (v_laws_4 : Int32), J36 v_laws_4 = some (w_folk_horn, w_folk_brass, w_folk_open, w_laws, w_urnHorn, w_urnBrass, r_out) → ∀ (H : Heap) (locs : List Loc), va_P D vwCl (pcX5 o cI v_folk_size v_folk_kind v_folk_mark v_folk_horn v_folk_brass v_folk_open v_folk_health v_motions v_quorum v_favour v_laws_4 v_urnHorn v_urnBrass v_thread v_winter v_day v_chill_use v_chill_codes v_chill_size v_chill_stack v_cold_use v_cold_codes v_cold_size v_cold_stack v_tape v_taped v_z v_waiting v_waits) H → va_D A (pcX5 o cI v_folk_size v_folk_kind v_folk_mark v_folk_horn v_folk_brass v_folk_open v_folk_health v_motions v_quorum v_favour v_laws_4 v_urnHorn v_urnBrass v_thread v_winter v_day v_chill_use v_chill_codes v_chill_size v_chill_stack v_cold_use v_cold_codes v_cold_size v_cold_stack v_tape v_taped v_z v_waiting v_waits) → va_S A s.heap H locs → ∀ ls : Array Slot, lv_has ls 4 [(0, .ref (o 0)), (2, .int r_3)] → WI p l e 5 114 s m args below meth c D (tysX cI cS) A r_out (pcX5 o cI v_folk_size v_folk_kind v_folk_mark w_folk_horn w_folk_brass w_folk_open v_folk_health v_motions v_quorum v_favour w_laws w_urnHorn w_urnBrass v_thread v_winter v_day v_chill_use v_chill_codes v_chill_size v_chill_stack v_cold_use v_cold_codes v_cold_size v_cold_stack v_tape v_taped v_z v_waiting v_waits) H locs (F0 m 36 ls []) := by
      intro v_laws_4 h H locs hP hD hS ls hl
      subst eJ36
      dsimp only at h
      refine lv_sipush (v := 255) hx hb dX5_holdVote_36 (by decide) ?_
      refine lv_istore_n (lv' := [(3, .int 255), (0, .ref (o 0)), (2, .int r_3)]) hx hb dX5_holdVote_39 rfl hl (by decide) rfl (fun ls hl => ?_)
      refine lv_aload_n hx hb dX5_holdVote_40 rfl (lv_at hl 1 rfl) ?_
      refine lv_sipush (v := 999) hx hb dX5_holdVote_41 (by decide) ?_
      refine lv_aload_n hx hb dX5_holdVote_44 rfl (lv_at hl 1 rfl) ?_
      refine gt_X5_69 S hK hP 0 rfl rfl dX5_holdVote_45 ?_
      refine lv_aload_n hx hb dX5_holdVote_48 rfl (lv_at hl 1 rfl) ?_
      refine gt_X5_12 S hK hP 0 rfl rfl dX5_holdVote_49 ?_
      refine lv_iload_n hx hb dX5_holdVote_52 rfl (lv_at hl 0 rfl) ?_
      obtain ⟨r_5, hc53, h⟩ := bd1_s h
      refine x_callVi (ws' := (pcX5 o cI v_folk_size v_folk_kind v_folk_mark v_folk_horn v_folk_brass v_folk_open v_folk_health v_motions v_quorum v_favour v_laws_4 v_urnHorn v_urnBrass v_thread v_winter v_day v_chill_use v_chill_codes v_chill_size v_chill_stack v_cold_use v_cold_codes v_cold_size v_cold_stack v_tape v_taped v_z v_waiting v_waits)) (isC := [1, 2, 3, 4, 5, 6, 7]) (isR := [0, 8, 9, 10, 11, 12, 13, 14, 15, 16, 17]) (As := [.int 255]) (rest := [.int v_urnHorn, .int 999, .ref (o 0)]) (Sta_ok T) S (c_X0_hornOf l D cI cS T (fun k => o (k + 1)) hc53) yf_X0_hornOf wd23_17 ⟨Nat.le_of_ble_eq_true rfl, Nat.le_of_ble_eq_true rfl⟩ hK hSt hA hP hD hS ⟨rfl, rfl, rfl, rfl, (show va_nd [1, 2, 3, 4, 5, 6, 7] = true by decide +kernel), (show ∀ i, i < 18 → i ∈ ([1, 2, 3, 4, 5, 6, 7] : List Nat) ∨ i ∈ ([0, 8, 9, 10, 11, 12, 13, 14, 15, 16, 17] : List Nat) by decide +kernel), (show ∀ i ∈ ([0, 8, 9, 10, 11, 12, 13, 14, 15, 16, 17] : List Nat), i ∉ ([1, 2, 3, 4, 5, 6, 7] : List Nat) by decide +kernel)⟩ 0 rfl rfl rfl hl.1 rfl (Nat.le_of_ble_eq_true rfl) dX5_holdVote_53 (Nat.zero_le _) (Nat.zero_le _) (fun H locs hP hD hS => ?_)
      refine lv_iadd hx hb dX5_holdVote_56 ?_
      refine va_mmin hx hb (hml.trans hl.1.symm) hown (hts _ wd23_14) (hts _ wd7_13) (hts _ wd7_14) (hts _ wd7_15) (Nat.le_of_ble_eq_true rfl) (Nat.le_of_ble_eq_true rfl) (Nat.zero_le _) (Nat.zero_le _) dX5_holdVote_57 ?_
      refine x_topE (y := (minI 999 (v_urnHorn + r_5))) rfl ?_
      refine x_nm h (fun v_urnHorn_6 ev_urnHorn_6 h => ?_)
      refine pt_X5_69 S hK hP hD hS 0 rfl (Nat.le_of_ble_eq_true rfl) dX5_holdVote_60 (fun H locs hP hD hS => ?_)
      have hP : va_P D vwCl (pcX5 o cI v_folk_size v_folk_kind v_folk_mark v_folk_horn v_folk_brass v_folk_open v_folk_health v_motions v_quorum v_favour v_laws_4 v_urnHorn_6 v_urnBrass v_thread v_winter v_day v_chill_use v_chill_codes v_chill_size v_chill_stack v_cold_use v_cold_codes v_cold_size v_cold_stack v_tape v_taped v_z v_waiting v_waits) H := hP
      have hD : va_D A (pcX5 o cI v_folk_size v_folk_kind v_folk_mark v_folk_horn v_folk_brass v_folk_open v_folk_health v_motions v_quorum v_favour v_laws_4 v_urnHorn_6 v_urnBrass v_thread v_winter v_day v_chill_use v_chill_codes v_chill_size v_chill_stack v_cold_use v_cold_codes v_cold_size v_cold_stack v_tape v_taped v_z v_waiting v_waits) := hD
      refine lv_aload_n hx hb dX5_holdVote_63 rfl (lv_at hl 1 rfl) ?_
      refine lv_sipush (v := 999) hx hb dX5_holdVote_64 (by decide) ?_
      refine lv_aload_n hx hb dX5_holdVote_67 rfl (lv_at hl 1 rfl) ?_
      refine gt_X5_72 S hK hP 0 rfl rfl dX5_holdVote_68 ?_
      refine lv_aload_n hx hb dX5_holdVote_71 rfl (lv_at hl 1 rfl) ?_
      refine gt_X5_12 S hK hP 0 rfl rfl dX5_holdVote_72 ?_
      refine lv_iload_n hx hb dX5_holdVote_75 rfl (lv_at hl 0 rfl) ?_
      obtain ⟨r_7, hc76, h⟩ := bd1_s h
      refine x_callVi (ws' := (pcX5 o cI v_folk_size v_folk_kind v_folk_mark v_folk_horn v_folk_brass v_folk_open v_folk_health v_motions v_quorum v_favour v_laws_4 v_urnHorn_6 v_urnBrass v_thread v_winter v_day v_chill_use v_chill_codes v_chill_size v_chill_stack v_cold_use v_cold_codes v_cold_size v_cold_stack v_tape v_taped v_z v_waiting v_waits)) (isC := [1, 2, 3, 4, 5, 6, 7]) (isR := [0, 8, 9, 10, 11, 12, 13, 14, 15, 16, 17]) (As := [.int 255]) (rest := [.int v_urnBrass, .int 999, .ref (o 0)]) (Sta_ok T) S (c_X0_brassOf l D cI cS T (fun k => o (k + 1)) hc76) yf_X0_brassOf wd23_21 ⟨Nat.le_of_ble_eq_true rfl, Nat.le_of_ble_eq_true rfl⟩ hK hSt hA hP hD hS ⟨rfl, rfl, rfl, rfl, (show va_nd [1, 2, 3, 4, 5, 6, 7] = true by decide +kernel), (show ∀ i, i < 18 → i ∈ ([1, 2, 3, 4, 5, 6, 7] : List Nat) ∨ i ∈ ([0, 8, 9, 10, 11, 12, 13, 14, 15, 16, 17] : List Nat) by decide +kernel), (show ∀ i ∈ ([0, 8, 9, 10, 11, 12, 13, 14, 15, 16, 17] : List Nat), i ∉ ([1, 2, 3, 4, 5, 6, 7] : List Nat) by decide +kernel)⟩ 0 rfl rfl rfl hl.1 rfl (Nat.le_of_ble_eq_true rfl) dX5_holdVote_76 (Nat.zero_le _) (Nat.zero_le _) (fun H locs hP hD hS => ?_)
      refine lv_iadd hx hb dX5_holdVote_79 ?_
      refine va_mmin hx hb (hml.trans hl.1.symm) hown (hts _ wd23_14) (hts _ wd7_13) (hts _ wd7_14) (hts _ wd7_15) (Nat.le_of_ble_eq_true rfl) (Nat.le_of_ble_eq_true rfl) (Nat.zero_le _) (Nat.zero_le _) dX5_holdVote_80 ?_
      refine x_topE (y := (minI 999 (v_urnBrass + r_7))) rfl ?_
      refine x_nm h (fun v_urnBrass_8 ev_urnBrass_8 h => ?_)
      refine pt_X5_72 S hK hP hD hS 0 rfl (Nat.le_of_ble_eq_true rfl) dX5_holdVote_83 (fun H locs hP hD hS => ?_)
      have hP : va_P D vwCl (pcX5 o cI v_folk_size v_folk_kind v_folk_mark v_folk_horn v_folk_brass v_folk_open v_folk_health v_motions v_quorum v_favour v_laws_4 v_urnHorn_6 v_urnBrass_8 v_thread v_winter v_day v_chill_use v_chill_codes v_chill_size v_chill_stack v_cold_use v_cold_codes v_cold_size v_cold_stack v_tape v_taped v_z v_waiting v_waits) H := hP
      have hD : va_D A (pcX5 o cI v_folk_size v_folk_kind v_folk_mark v_folk_horn v_folk_brass v_folk_open v_folk_health v_motions v_quorum v_favour v_laws_4 v_urnHorn_6 v_urnBrass_8 v_thread v_winter v_day v_chill_use v_chill_codes v_chill_size v_chill_stack v_cold_use v_cold_codes v_cold_size v_cold_stack v_tape v_taped v_z v_waiting v_waits) := hD
      refine lv_aload_n hx hb dX5_holdVote_86 rfl (lv_at hl 1 rfl) ?_
      refine gt_X5_12 S hK hP 0 rfl rfl dX5_holdVote_87 ?_
      obtain ⟨v_folk_horn_9, v_folk_brass_10, v_folk_open_11, hc90, h⟩ := bd3_s h
      refine x_callVv (ws' := (pcX5 o cI v_folk_size v_folk_kind v_folk_mark v_folk_horn_9 v_folk_brass_10 v_folk_open_11 v_folk_health v_motions v_quorum v_favour v_laws_4 v_urnHorn_6 v_urnBrass_8 v_thread v_winter v_day v_chill_use v_chill_codes v_chill_size v_chill_stack v_cold_use v_cold_codes v_cold_size v_cold_stack v_tape v_taped v_z v_waiting v_waits)) (isC := [1, 2, 3, 4, 5, 6, 7]) (isR := [0, 8, 9, 10, 11, 12, 13, 14, 15, 16, 17]) (As := []) (rest := []) (Sta_ok T) S (c_X0_cutAll l D cI cS T (fun k => o (k + 1)) hc90) yf_X0_cutAll wd24_1 ⟨Nat.le_of_ble_eq_true rfl, Nat.le_of_ble_eq_true rfl⟩ hK hSt hA hP hD hS ⟨rfl, rfl, rfl, rfl, (show va_nd [1, 2, 3, 4, 5, 6, 7] = true by decide +kernel), (show ∀ i, i < 18 → i ∈ ([1, 2, 3, 4, 5, 6, 7] : List Nat) ∨ i ∈ ([0, 8, 9, 10, 11, 12, 13, 14, 15, 16, 17] : List Nat) by decide +kernel), (show ∀ i ∈ ([0, 8, 9, 10, 11, 12, 13, 14, 15, 16, 17] : List Nat), i ∉ ([1, 2, 3, 4, 5, 6, 7] : List Nat) by decide +kernel)⟩ 0 rfl rfl rfl hl.1 rfl (Nat.le_of_ble_eq_true rfl) dX5_holdVote_90 (Nat.zero_le _) (Nat.zero_le _) (fun H locs hP hD hS => ?_)
      refine lv_iload_n hx hb dX5_holdVote_93 rfl (lv_at hl 2 rfl) ?_
      obtain ⟨hz94, h⟩ := bzA_s h
      cases h
      exact x_zret hx hb hr hlocks hK hP hD hS rfl rfl hz94 dX5_holdVote_94
  refine x_if_eq (tgt := 36) hx hb h dX5_holdVote_21 (by decide) (fun c21 h => ?_) (fun c21 h => ?_)
  · exact wJ36 v_laws h _ _ hP hD hS _ (lv_sub hl [1, 0] rfl)
  · refine lv_aload_n hx hb dX5_holdVote_24 rfl (lv_at hl 1 rfl) ?_
    refine lv_dup hx hb dX5_holdVote_25 rfl ?_
    refine gt_X5_66 S hK hP 0 rfl rfl dX5_holdVote_26 ?_
    refine lv_iconst (v := 1) hx hb dX5_holdVote_29 (by decide) ?_
    refine lv_iload_n hx hb dX5_holdVote_30 rfl (lv_at hl 2 rfl) ?_
    refine lv_ishl hx hb dX5_holdVote_31 ?_
    refine lv_ior hx hb dX5_holdVote_32 ?_
    refine x_nm h (fun v_laws_12 ev_laws_12 h => ?_)
    refine pt_X5_66 S hK hP hD hS 0 rfl (Nat.le_of_ble_eq_true rfl) dX5_holdVote_33 (fun H locs hP hD hS => ?_)
    have hP : va_P D vwCl (pcX5 o cI v_folk_size v_folk_kind v_folk_mark v_folk_horn v_folk_brass v_folk_open v_folk_health v_motions v_quorum v_favour v_laws_12 v_urnHorn v_urnBrass v_thread v_winter v_day v_chill_use v_chill_codes v_chill_size v_chill_stack v_cold_use v_cold_codes v_cold_size v_cold_stack v_tape v_taped v_z v_waiting v_waits) H := hP
    have hD : va_D A (pcX5 o cI v_folk_size v_folk_kind v_folk_mark v_folk_horn v_folk_brass v_folk_open v_folk_health v_motions v_quorum v_favour v_laws_12 v_urnHorn v_urnBrass v_thread v_winter v_day v_chill_use v_chill_codes v_chill_size v_chill_stack v_cold_use v_cold_codes v_cold_size v_cold_stack v_tape v_taped v_z v_waiting v_waits) := hD
    exact wJ36 v_laws_12 h _ _ hP hD hS _ (lv_sub hl [1, 0] rfl)

def f_X5_passDay  (v_folk_size : Int32) (v_folk_kind : Nat → Int32) (v_folk_mark : Nat → Int32) (v_folk_open : Nat → Int32) (v_folk_health : Nat → Int32) (v_laws : Int32) (v_winter : Int32) (v_day : Int32) (v_chill_use : Int32) (v_chill_codes : Nat → Int32) (v_chill_size : Int32) (v_chill_stack : Nat → Int32) (v_cold_use : Int32) (v_cold_codes : Nat → Int32) (v_cold_size : Int32) (v_cold_stack : Nat → Int32)  : Option ((Nat → Int32) × (Int32) × (Nat → Int32) × (Nat → Int32)) :=
  bd2 (f_X5_coldOf v_cold_use v_cold_codes v_cold_size v_cold_stack v_day v_winter v_laws) (fun v_cold_stack_1 r_2 => bd2 (f_X0_passDay v_folk_size v_folk_kind v_folk_mark v_folk_open v_folk_health v_chill_use v_chill_codes v_chill_size v_chill_stack r_2) (fun v_folk_health_3 v_chill_stack_4 => nmA (v_day + 1) (fun v_day_5 => some (v_folk_health_3, v_day_5, v_chill_stack_4, v_cold_stack_1))))
set_option maxHeartbeats 600000 in
set_option maxRecDepth 100000 in
theorem c_X5_passDay (l : Launch) (D : va_G) (cI cS : ClassId) (T : Nat → Nat) (o : Nat → Nat) {v_folk_size : Int32} {v_folk_kind : Nat → Int32} {v_folk_mark : Nat → Int32} {v_folk_horn : Nat → Int32} {v_folk_brass : Nat → Int32} {v_folk_open : Nat → Int32} {v_folk_health : Nat → Int32} {v_motions : Int32} {v_quorum : Nat → Int32} {v_favour : Nat → Int32} {v_laws : Int32} {v_urnHorn : Int32} {v_urnBrass : Int32} {v_thread : Int32} {v_winter : Int32} {v_day : Int32} {v_chill_use : Int32} {v_chill_codes : Nat → Int32} {v_chill_size : Int32} {v_chill_stack : Nat → Int32} {v_cold_use : Int32} {v_cold_codes : Nat → Int32} {v_cold_size : Int32} {v_cold_stack : Nat → Int32} {v_tape : Nat → Int32} {v_taped : Int32} {v_z : Int32} {v_waiting : Nat → Int32} {v_waits : Int32}  {w_folk_health : Nat → Int32} {w_day : Int32} {w_chill_stack : Nat → Int32} {w_cold_stack : Nat → Int32} (h : f_X5_passDay  v_folk_size v_folk_kind v_folk_mark v_folk_open v_folk_health v_laws v_winter v_day v_chill_use v_chill_codes v_chill_size v_chill_stack v_cold_use v_cold_codes v_cold_size v_cold_stack  = some (w_folk_health, w_day, w_chill_stack, w_cold_stack)) : MetV l D (tysX cI cS) (Sta T) yX5_passDay cX5_passDay 1 none 5 120 [.ref (o 0)] (pcX5 o cI v_folk_size v_folk_kind v_folk_mark v_folk_horn v_folk_brass v_folk_open v_folk_health v_motions v_quorum v_favour v_laws v_urnHorn v_urnBrass v_thread v_winter v_day v_chill_use v_chill_codes v_chill_size v_chill_stack v_cold_use v_cold_codes v_cold_size v_cold_stack v_tape v_taped v_z v_waiting v_waits) (pcX5 o cI v_folk_size v_folk_kind v_folk_mark v_folk_horn v_folk_brass v_folk_open w_folk_health v_motions v_quorum v_favour v_laws v_urnHorn v_urnBrass v_thread v_winter w_day v_chill_use v_chill_codes v_chill_size w_chill_stack v_cold_use v_cold_codes v_cold_size w_cold_stack v_tape v_taped v_z v_waiting v_waits) := by
  refine Ent.metV (by decide +kernel) (Nat.le_of_ble_eq_true rfl) ?_
  intro p e s m args below meth c A ls hx hb hr hml hown hts hlocks hA hK hSt hP hD hS hl
  have hown : s.vm.findClass RX5 = some m.cls := hown
  have S : XFix p m c cX5_passDay 1 s args RX5 := ⟨hx, hb, hml, hown, hts⟩
  have hl : lv_has ls 1 [(0, .ref (o 0))] := hl
  unfold f_X5_passDay at h
  refine lv_aload_n hx hb dX5_passDay_0 rfl (lv_at hl 0 rfl) ?_
  refine gt_X5_12 S hK hP 0 rfl rfl dX5_passDay_1 ?_
  refine lv_aload_n hx hb dX5_passDay_4 rfl (lv_at hl 0 rfl) ?_
  refine lv_aload_n hx hb dX5_passDay_5 rfl (lv_at hl 0 rfl) ?_
  refine gt_X5_75 S hK hP 0 rfl rfl dX5_passDay_6 ?_
  refine lv_aload_n hx hb dX5_passDay_9 rfl (lv_at hl 0 rfl) ?_
  refine gt_X5_29 S hK hP 0 rfl rfl dX5_passDay_10 ?_
  refine lv_aload_n hx hb dX5_passDay_13 rfl (lv_at hl 0 rfl) ?_
  refine gt_X5_66 S hK hP 0 rfl rfl dX5_passDay_14 ?_
  obtain ⟨v_cold_stack_1, r_2, hc17, h⟩ := bd2_s h
  refine x_selfVi (As := [.int v_day, .int v_winter, .int v_laws]) (rest := [.ref (o 1)]) (Sta_ok T) S (c_X5_coldOf l D cI cS T o hc17) yf_X5_coldOf wd25_8 ⟨Nat.le_of_ble_eq_true rfl, Nat.le_of_ble_eq_true rfl⟩ hK hSt hA hP hD hS 0 rfl rfl rfl hl.1 rfl (Nat.le_of_ble_eq_true rfl) dX5_passDay_17 (Nat.zero_le _) (Nat.zero_le _) (fun H locs hP hD hS => ?_)
  refine lv_aload_n hx hb dX5_passDay_20 rfl (lv_at hl 0 rfl) ?_
  refine gt_X5_37 S hK hP 0 rfl rfl dX5_passDay_21 ?_
  obtain ⟨v_folk_health_3, v_chill_stack_4, hc24, h⟩ := bd2_s h
  refine x_callVv (ws' := (pcX5 o cI v_folk_size v_folk_kind v_folk_mark v_folk_horn v_folk_brass v_folk_open v_folk_health_3 v_motions v_quorum v_favour v_laws v_urnHorn v_urnBrass v_thread v_winter v_day v_chill_use v_chill_codes v_chill_size v_chill_stack_4 v_cold_use v_cold_codes v_cold_size v_cold_stack_1 v_tape v_taped v_z v_waiting v_waits)) (isC := [1, 2, 3, 4, 5, 6, 7, 10, 11, 12]) (isR := [0, 8, 9, 13, 14, 15, 16, 17]) (As := [.int r_2, .ref (o 10)]) (rest := []) (Sta_ok T) S (c_X0_passDay l D cI cS T (fun k => if k < 7 then o (k + 1) else o (k + 3)) hc24) yf_X0_passDay wd25_9 ⟨Nat.le_of_ble_eq_true rfl, Nat.le_of_ble_eq_true rfl⟩ hK hSt hA hP hD hS ⟨rfl, rfl, rfl, rfl, (show va_nd [1, 2, 3, 4, 5, 6, 7, 10, 11, 12] = true by decide +kernel), (show ∀ i, i < 18 → i ∈ ([1, 2, 3, 4, 5, 6, 7, 10, 11, 12] : List Nat) ∨ i ∈ ([0, 8, 9, 13, 14, 15, 16, 17] : List Nat) by decide +kernel), (show ∀ i ∈ ([0, 8, 9, 13, 14, 15, 16, 17] : List Nat), i ∉ ([1, 2, 3, 4, 5, 6, 7, 10, 11, 12] : List Nat) by decide +kernel)⟩ 0 rfl rfl rfl hl.1 rfl (Nat.le_of_ble_eq_true rfl) dX5_passDay_24 (Nat.zero_le _) (Nat.zero_le _) (fun H locs hP hD hS => ?_)
  refine lv_aload_n hx hb dX5_passDay_27 rfl (lv_at hl 0 rfl) ?_
  refine lv_dup hx hb dX5_passDay_28 rfl ?_
  refine gt_X5_75 S hK hP 0 rfl rfl dX5_passDay_29 ?_
  refine lv_iconst (v := 1) hx hb dX5_passDay_32 (by decide) ?_
  refine lv_iadd hx hb dX5_passDay_33 ?_
  refine x_nm h (fun v_day_5 ev_day_5 h => ?_)
  refine pt_X5_75 S hK hP hD hS 0 rfl (Nat.le_of_ble_eq_true rfl) dX5_passDay_34 (fun H locs hP hD hS => ?_)
  have hP : va_P D vwCl (pcX5 o cI v_folk_size v_folk_kind v_folk_mark v_folk_horn v_folk_brass v_folk_open v_folk_health_3 v_motions v_quorum v_favour v_laws v_urnHorn v_urnBrass v_thread v_winter v_day_5 v_chill_use v_chill_codes v_chill_size v_chill_stack_4 v_cold_use v_cold_codes v_cold_size v_cold_stack_1 v_tape v_taped v_z v_waiting v_waits) H := hP
  have hD : va_D A (pcX5 o cI v_folk_size v_folk_kind v_folk_mark v_folk_horn v_folk_brass v_folk_open v_folk_health_3 v_motions v_quorum v_favour v_laws v_urnHorn v_urnBrass v_thread v_winter v_day_5 v_chill_use v_chill_codes v_chill_size v_chill_stack_4 v_cold_use v_cold_codes v_cold_size v_cold_stack_1 v_tape v_taped v_z v_waiting v_waits) := hD
  cases h
  exact x_vret hx hb hr hlocks hK hP hD hS rfl dX5_passDay_37

def f_X5_draw  (v_z : Int32)  : Option ((Int32) × (Int32)) :=
  nmA ((v_z * 1103515245) + 12345) (fun v_z_1 => some (v_z_1, (ushI v_z_1 8)))
set_option maxHeartbeats 600000 in
set_option maxRecDepth 100000 in
theorem c_X5_draw (l : Launch) (D : va_G) (cI cS : ClassId) (T : Nat → Nat) (o : Nat → Nat) {v_folk_size : Int32} {v_folk_kind : Nat → Int32} {v_folk_mark : Nat → Int32} {v_folk_horn : Nat → Int32} {v_folk_brass : Nat → Int32} {v_folk_open : Nat → Int32} {v_folk_health : Nat → Int32} {v_motions : Int32} {v_quorum : Nat → Int32} {v_favour : Nat → Int32} {v_laws : Int32} {v_urnHorn : Int32} {v_urnBrass : Int32} {v_thread : Int32} {v_winter : Int32} {v_day : Int32} {v_chill_use : Int32} {v_chill_codes : Nat → Int32} {v_chill_size : Int32} {v_chill_stack : Nat → Int32} {v_cold_use : Int32} {v_cold_codes : Nat → Int32} {v_cold_size : Int32} {v_cold_stack : Nat → Int32} {v_tape : Nat → Int32} {v_taped : Int32} {v_z : Int32} {v_waiting : Nat → Int32} {v_waits : Int32}  {w_z : Int32} {r_out : Int32} (h : f_X5_draw  v_z  = some (w_z, r_out)) : MetI l D (tysX cI cS) (Sta T) yX5_draw cX5_draw 1 (some .int) 0 0 [.ref (o 0)] (pcX5 o cI v_folk_size v_folk_kind v_folk_mark v_folk_horn v_folk_brass v_folk_open v_folk_health v_motions v_quorum v_favour v_laws v_urnHorn v_urnBrass v_thread v_winter v_day v_chill_use v_chill_codes v_chill_size v_chill_stack v_cold_use v_cold_codes v_cold_size v_cold_stack v_tape v_taped v_z v_waiting v_waits) r_out (pcX5 o cI v_folk_size v_folk_kind v_folk_mark v_folk_horn v_folk_brass v_folk_open v_folk_health v_motions v_quorum v_favour v_laws v_urnHorn v_urnBrass v_thread v_winter v_day v_chill_use v_chill_codes v_chill_size v_chill_stack v_cold_use v_cold_codes v_cold_size v_cold_stack v_tape v_taped w_z v_waiting v_waits) := by
  refine Ent.metI (by decide +kernel) (Nat.le_of_ble_eq_true rfl) ?_
  intro p e s m args below meth c A ls hx hb hr hml hown hts hlocks hA hK hSt hP hD hS hl
  have hown : s.vm.findClass RX5 = some m.cls := hown
  have S : XFix p m c cX5_draw 1 s args RX5 := ⟨hx, hb, hml, hown, hts⟩
  have hl : lv_has ls 1 [(0, .ref (o 0))] := hl
  unfold f_X5_draw at h
  refine lv_aload_n hx hb dX5_draw_0 rfl (lv_at hl 0 rfl) ?_
  refine lv_aload_n hx hb dX5_draw_1 rfl (lv_at hl 0 rfl) ?_
  refine gt_X5_47 S hK hP 0 rfl rfl dX5_draw_2 ?_
  refine lv_ldc (v := 1103515245) hx hb hown (hts _ wd27_1) dX5_draw_5 ?_
  refine lv_imul hx hb dX5_draw_7 ?_
  refine lv_sipush (v := 12345) hx hb dX5_draw_8 (by decide) ?_
  refine lv_iadd hx hb dX5_draw_11 ?_
  refine x_nm h (fun v_z_1 ev_z_1 h => ?_)
  refine pt_X5_47 S hK hP hD hS 0 rfl (Nat.le_of_ble_eq_true rfl) dX5_draw_12 (fun H locs hP hD hS => ?_)
  have hP : va_P D vwCl (pcX5 o cI v_folk_size v_folk_kind v_folk_mark v_folk_horn v_folk_brass v_folk_open v_folk_health v_motions v_quorum v_favour v_laws v_urnHorn v_urnBrass v_thread v_winter v_day v_chill_use v_chill_codes v_chill_size v_chill_stack v_cold_use v_cold_codes v_cold_size v_cold_stack v_tape v_taped v_z_1 v_waiting v_waits) H := hP
  have hD : va_D A (pcX5 o cI v_folk_size v_folk_kind v_folk_mark v_folk_horn v_folk_brass v_folk_open v_folk_health v_motions v_quorum v_favour v_laws v_urnHorn v_urnBrass v_thread v_winter v_day v_chill_use v_chill_codes v_chill_size v_chill_stack v_cold_use v_cold_codes v_cold_size v_cold_stack v_tape v_taped v_z_1 v_waiting v_waits) := hD
  refine lv_aload_n hx hb dX5_draw_15 rfl (lv_at hl 0 rfl) ?_
  refine gt_X5_47 S hK hP 0 rfl rfl dX5_draw_16 ?_
  refine lv_bipush (v := 8) hx hb dX5_draw_19 (by decide) ?_
  refine lv_iushr (v := (ushI v_z_1 8)) hx hb dX5_draw_21 rfl ?_
  cases h
  exact x_iret hx hb hr hlocks hK hP hD hS rfl rfl dX5_draw_22

