/-! steps that go by a number -/
theorem nin {x : Int32} {n k : Nat} (h : ¬ inb x n = true) (hk : k < n) (hn : n < 2 ^ 31) : ¬ x = nI k := fun e => h (by rw [e]; exact nI_bd hk hn)
theorem b01b {c : Prop} {_ : Decidable c} {β : Type} {a b : β} : (if (if c then (0 : Int32) else 1) = 0 then a else b) = if c then a else b := by
  by_cases h : c
  · rw [if_pos h, if_pos h]; rfl
  · rw [if_neg h, if_neg h]; rfl
theorem bt_w {w m : Nat} (hw : w < 64) (hm : m < 6) {β : Type} {f : Int32 → β} : (if btI (nI w) (nI m) = 0 then f 0 else f 1) = f (nI (w / 2 ^ m % 2)) := by
  have : ∀ m, m < 6 → ∀ w, w < 64 → btI (nI w) (nI m) = nI (w / 2 ^ m % 2) := by decide +kernel
  rw [this m hm w hw]
  rcases (show w / 2 ^ m % 2 = 0 ∨ w / 2 ^ m % 2 = 1 by omega) with e | e <;> rw [e]
  · exact if_pos rfl
  · exact if_neg (by decide)
theorem ei0x {d : Nat → Int32} {p : Nat} (hp : p < 6) : f_X7_its d (nI p) (nI 0) = some (d (58 + 3 * p)) := ei0 hp
theorem ei1x {d : Nat → Int32} {p : Nat} (hp : p < 6) : f_X7_its d (nI p) (nI 1) = some (d (59 + 3 * p)) := ei1 hp
theorem ei2x {d : Nat → Int32} {p : Nat} (hp : p < 6) : f_X7_its d (nI p) (nI 2) = some (d (60 + 3 * p)) := ei2 hp
def orN (w : Nat) : Nat → Nat
  | 0 => 0
  | n + 1 => orN w n + w / 2 ^ n % 2 * 2 ^ n
theorem e7_laws {d found names pile : Nat → Int32} {mo w : Nat} (h : LD mo w d) : f_X7_count_L101 d found names pile 300 0 0 = some (found, names, pile, nI w) := by
  obtain ⟨h1, h2, h3, h4⟩ := h
  have B : ∀ k, k < 6 → ∀ w, w < 64 → nI (orN w k) ||| (nI (w / 2 ^ k % 2) <<< (nI k &&& 31)) = nI (orN w (k + 1)) := by decide +kernel
  have C : ∀ mo, mo ≤ 6 → ∀ w, w < 64 → w < 2 ^ mo → orN w mo = w := by decide +kernel
  have L : ∀ (m k fu : Nat), k + m = mo → m < fu → f_X7_count_L101 d found names pile fu (nI (orN w k)) (nI k) = some (found, names, pile, nI (orN w mo)) := by
    intro m
    induction m with
    | zero =>
      intro k fu hk hf
      obtain ⟨fu, rfl⟩ : ∃ q, fu = q + 1 := ⟨fu - 1, by omega⟩
      obtain rfl : k = mo := by omega
      simp only [f_X7_count_L101]
      rw [rdA_i (i := 1) (k := 1) rfl (by decide), h3, if_pos (nI_le (Nat.le_refl _) (by omega))]
    | succ m ih =>
      intro k fu hk hf
      obtain ⟨fu, rfl⟩ : ∃ q, fu = q + 1 := ⟨fu - 1, by omega⟩
      simp only [f_X7_count_L101]
      rw [rdA_i (i := 1) (k := 1) rfl (by decide), h3, if_neg (nI_ge (by omega) (by omega)), ei2 (by omega), h4 k (by omega)]
      simp only [bdE1, nmE, nI_1]
      rw [B k (by omega) w (w64 h1 h2)]
      exact ih (k + 1) fu (by omega) (by omega)
  have R := L mo 0 300 (by omega) (by omega)
  rw [C mo h1 w (w64 h1 h2) h2] at R
  exact R
set_option maxHeartbeats 1000000 in
set_option maxRecDepth 10000 in
theorem st_ofMotion {c_now_folk_size : Int32} {c_now_folk_kind : Nat → Int32} {c_now_folk_mark : Nat → Int32} {c_now_folk_horn : Nat → Int32} {c_now_folk_brass : Nat → Int32} {c_now_folk_open : Nat → Int32} {c_now_folk_health : Nat → Int32} {c_now_motions : Int32} {c_now_quorum : Nat → Int32} {c_now_favour : Nat → Int32} {c_now_laws : Int32} {c_now_urnHorn : Int32} {c_now_urnBrass : Int32} {c_now_thread : Int32} {c_now_winter : Int32} {c_now_day : Int32} {c_now_chill_use : Int32} {c_now_chill_codes : Nat → Int32} {c_now_chill_size : Int32} {c_now_cold_use : Int32} {c_now_cold_codes : Nat → Int32} {c_now_cold_size : Int32} {c_now_tape : Nat → Int32} {c_now_taped : Int32} {c_now_z : Int32} {c_now_waiting : Nat → Int32} {c_now_waits : Int32} {c_kept_folk_size : Int32} {c_kept_folk_kind : Nat → Int32} {c_kept_folk_mark : Nat → Int32} {c_kept_folk_horn : Nat → Int32} {c_kept_folk_brass : Nat → Int32} {c_kept_folk_open : Nat → Int32} {c_kept_folk_health : Nat → Int32} {c_kept_motions : Int32} {c_kept_quorum : Nat → Int32} {c_kept_favour : Nat → Int32} {c_kept_laws : Int32} {c_kept_urnHorn : Int32} {c_kept_urnBrass : Int32} {c_kept_thread : Int32} {c_kept_winter : Int32} {c_kept_day : Int32} {c_kept_chill_use : Int32} {c_kept_chill_codes : Nat → Int32} {c_kept_chill_size : Int32} {c_kept_cold_use : Int32} {c_kept_cold_codes : Nat → Int32} {c_kept_cold_size : Int32} {c_kept_tape : Nat → Int32} {c_kept_taped : Int32} {c_kept_z : Int32} {c_kept_waiting : Nat → Int32} {c_kept_waits : Int32} {c_voices_traces : Nat → Int32} {c_voices_traced : Int32} {c_sh_bits : Nat → Int32} {c_sh_size : Nat → Int32} {c_sh_numbers : Nat → Nat → Int32} {c_errors : Nat → Int32} {c_images : Int32} {m_d : Nat → Int32} {m_kept : Nat → Int32} {m_images : Int32} {m_found : Nat → Int32} {m_horn : Int32} {m_brass : Int32} {m_traced : Nat → Int32} {m_traceMany : Int32} {m_bitsOf : Nat → Int32} {m_sizeOf : Nat → Int32} {m_number : Nat → Int32} (R : Rel c_now_folk_size c_now_folk_kind c_now_folk_mark c_now_folk_horn c_now_folk_brass c_now_folk_open c_now_folk_health c_now_motions c_now_quorum c_now_favour c_now_laws c_now_urnHorn c_now_urnBrass c_now_thread c_now_winter c_now_day c_now_chill_use c_now_chill_codes c_now_chill_size c_now_cold_use c_now_cold_codes c_now_cold_size c_now_tape c_now_taped c_now_z c_now_waiting c_now_waits c_kept_folk_size c_kept_folk_kind c_kept_folk_mark c_kept_folk_horn c_kept_folk_brass c_kept_folk_open c_kept_folk_health c_kept_motions c_kept_quorum c_kept_favour c_kept_laws c_kept_urnHorn c_kept_urnBrass c_kept_thread c_kept_winter c_kept_day c_kept_chill_use c_kept_chill_codes c_kept_chill_size c_kept_cold_use c_kept_cold_codes c_kept_cold_size c_kept_tape c_kept_taped c_kept_z c_kept_waiting c_kept_waits c_voices_traces c_voices_traced c_sh_bits c_sh_size c_sh_numbers c_errors c_images m_d m_kept m_images m_found m_traced m_traceMany m_bitsOf m_sizeOf m_number) (p0 : Int32) (p1 : Int32) : ∃ (x_errors : Nat → Int32) (r : Int32) (y_found : Nat → Int32) (y_horn : Int32) (y_brass : Int32), f_X6_ofMotion c_now_folk_size c_now_folk_kind c_now_folk_mark c_now_folk_horn c_now_folk_brass c_now_folk_health c_now_motions c_now_quorum c_now_favour c_now_laws c_errors p0 p1 = some (x_errors, r) ∧ f_X7_ofMotion m_d m_found m_horn m_brass p0 p1 = some (y_found, y_horn, y_brass, r) ∧ Rel c_now_folk_size c_now_folk_kind c_now_folk_mark c_now_folk_horn c_now_folk_brass c_now_folk_open c_now_folk_health c_now_motions c_now_quorum c_now_favour c_now_laws c_now_urnHorn c_now_urnBrass c_now_thread c_now_winter c_now_day c_now_chill_use c_now_chill_codes c_now_chill_size c_now_cold_use c_now_cold_codes c_now_cold_size c_now_tape c_now_taped c_now_z c_now_waiting c_now_waits c_kept_folk_size c_kept_folk_kind c_kept_folk_mark c_kept_folk_horn c_kept_folk_brass c_kept_folk_open c_kept_folk_health c_kept_motions c_kept_quorum c_kept_favour c_kept_laws c_kept_urnHorn c_kept_urnBrass c_kept_thread c_kept_winter c_kept_day c_kept_chill_use c_kept_chill_codes c_kept_chill_size c_kept_cold_use c_kept_cold_codes c_kept_cold_size c_kept_tape c_kept_taped c_kept_z c_kept_waiting c_kept_waits c_voices_traces c_voices_traced c_sh_bits c_sh_size c_sh_numbers x_errors c_images m_d m_kept m_images y_found m_traced m_traceMany m_bitsOf m_sizeOf m_number := by
  obtain ⟨⟨hPp, hMo, hSc, hTa, hWa, hUs, hCh, hCo⟩, hIm, hKe, hKu, hEr, hTr, hTn, hTg, hSh⟩ := R
  subst hEr
  obtain ⟨n, hn, hsz, hD0, H, D⟩ := PplR_out hPp
  subst hsz
  obtain ⟨mo, w, hmo, hlw, hL, hQ⟩ := MotR_out hMo
  subst hmo
  subst hlw
  have hmo6 : mo ≤ 6 := hL.1
  by_cases hp : inb p0 mo = true
  · obtain ⟨m, hm, rfl⟩ := inb_of hp (by omega)
    obtain ⟨q1, ⟨s, hs, q2⟩, q3, q4⟩ := hQ m (by omega)
    by_cases hb : inb p1 6 = true
    · obtain ⟨k, hk, rfl⟩ := inb_of hb (by decide)
      rcases (show k = 0 ∨ k = 1 ∨ k = 2 ∨ k = 3 ∨ k = 4 ∨ k = 5 by omega) with rfl | rfl | rfl | rfl | rfl | rfl
      · skip
        refine ⟨?_, ?_, ?_, ?_, ?_, ?c, ?m, ?r⟩
        case c =>
          simp only [f_X6_ofMotion, e5_has rfl (show mo < 1000 by omega), bdE1]
          rw [if_pos hp, if_neg (by decide), rdA_i rfl (by omega), if_pos (by decide), rdA_i rfl (by omega)]
        case m =>
          simp only [f_X7_ofMotion, e7_isMotion hL.2.2.1 (show mo < 1000 by omega), bdE1, jnE]
          rw [if_pos hp, if_neg (by decide), e7_inb 6 (by decide), bdE1, b01, if_pos hb, if_neg (by decide), ei0x (by omega), bdE1, q3]
        case r => exact ⟨⟨hPp, hMo, hSc, hTa, hWa, hUs, hCh, hCo⟩, hIm, hKe, hKu, rfl, hTr, hTn, hTg, hSh⟩
      · skip
        refine ⟨?_, ?_, ?_, ?_, ?_, ?c, ?m, ?r⟩
        case c =>
          simp only [f_X6_ofMotion, e5_has rfl (show mo < 1000 by omega), bdE1]
          rw [if_pos hp, if_neg (by decide), rdA_i rfl (by omega), if_neg (by decide), if_pos (by decide)]
        case m =>
          simp only [f_X7_ofMotion, e7_isMotion hL.2.2.1 (show mo < 1000 by omega), bdE1, jnE]
          rw [if_pos hp, if_neg (by decide), e7_inb 6 (by decide), bdE1, b01, if_pos hb, if_neg (by decide), ei1x (by omega), bdE1, q4]
        case r => exact ⟨⟨hPp, hMo, hSc, hTa, hWa, hUs, hCh, hCo⟩, hIm, hKe, hKu, rfl, hTr, hTn, hTg, hSh⟩
      · skip
        refine ⟨?_, ?_, ?_, ?_, ?_, ?c, ?m, ?r⟩
        case c =>
          simp only [f_X6_ofMotion, e5_has rfl (show mo < 1000 by omega), bdE1]
          rw [if_pos hp, if_neg (by decide), rdA_i rfl (by omega), if_neg (by decide), if_neg (by decide), if_pos (by decide), e6_isIn, bdE1, b01b]
          exact bt_w (f := fun v => some (c_errors, v)) (w64 hL.1 hL.2.1) (show m < 6 by omega)
        case m =>
          simp only [f_X7_ofMotion, e7_isMotion hL.2.2.1 (show mo < 1000 by omega), bdE1, jnE]
          rw [if_pos hp, if_neg (by decide), e7_inb 6 (by decide), bdE1, b01, if_pos hb, if_neg (by decide), ei2x (by omega), bdE1, hL.2.2.2 m (by omega)]
        case r => exact ⟨⟨hPp, hMo, hSc, hTa, hWa, hUs, hCh, hCo⟩, hIm, hKe, hKu, rfl, hTr, hTn, hTg, hSh⟩
      · obtain ⟨a', b', e⟩ := e7_countsFor1 H D hD0 hn (show m < 6 by omega) (q4.trans q2) m_horn m_brass
        refine ⟨?_, ?_, ?_, ?_, ?_, ?c, ?m, ?r⟩
        case c =>
          simp only [f_X6_ofMotion, e5_has rfl (show mo < 1000 by omega), bdE1]
          rw [if_pos hp, if_neg (by decide), rdA_i rfl (by omega), if_neg (by decide), if_neg (by decide), if_neg (by decide), if_pos (by decide), e0_countsOf _ H hn, bdE1, q2]
          try rfl
        case m =>
          simp only [f_X7_ofMotion, e7_isMotion hL.2.2.1 (show mo < 1000 by omega), bdE1, jnE]
          rw [if_pos hp, if_neg (by decide), e7_inb 6 (by decide), bdE1, b01, if_pos hb, if_pos (by decide), if_neg (by decide), show (4 - nI 3 : Int32) = 1 by decide, e, bdE3]
          try rfl
        case r => exact ⟨⟨hPp, hMo, hSc, hTa, hWa, hUs, hCh, hCo⟩, hIm, hKe, hKu, rfl, hTr, hTn, hTg, hSh⟩
      · obtain ⟨a', b', e⟩ := e7_countsFor0 H D hD0 hn (show m < 6 by omega) (q4.trans q2) hs m_horn m_brass
        refine ⟨?_, ?_, ?_, ?_, ?_, ?c, ?m, ?r⟩
        case c =>
          simp only [f_X6_ofMotion, e5_has rfl (show mo < 1000 by omega), bdE1]
          rw [if_pos hp, if_neg (by decide), rdA_i rfl (by omega), if_neg (by decide), if_neg (by decide), if_neg (by decide), if_neg (by decide), if_pos (by decide), e0_countsOf _ H hn, bdE1, q2]
          try rfl
        case m =>
          simp only [f_X7_ofMotion, e7_isMotion hL.2.2.1 (show mo < 1000 by omega), bdE1, jnE]
          rw [if_pos hp, if_neg (by decide), e7_inb 6 (by decide), bdE1, b01, if_pos hb, if_pos (by decide), if_neg (by decide), show (4 - nI 4 : Int32) = 0 by decide, e, bdE3]
          try rfl
        case r => exact ⟨⟨hPp, hMo, hSc, hTa, hWa, hUs, hCh, hCo⟩, hIm, hKe, hKu, rfl, hTr, hTn, hTg, hSh⟩
      · obtain ⟨a', b', e⟩ := e7_wouldPass H D hD0 hn (show m < 6 by omega) (q4.trans q2) hs m_horn m_brass
        refine ⟨?_, ?_, ?_, ?_, ?_, ?c, ?m, ?r⟩
        case c =>
          simp only [f_X6_ofMotion, e5_has rfl (show mo < 1000 by omega), bdE1]
          rw [if_pos hp, if_neg (by decide), rdA_i rfl (by omega), if_neg (by decide), if_neg (by decide), if_neg (by decide), if_neg (by decide), if_neg (by decide), if_pos (by decide), rdA_i rfl (by omega), e0_wouldPass H hn, bdE1, q2]
          exact if01 (f := fun v => some (c_errors, v)) wp01
        case m =>
          simp only [f_X7_ofMotion, e7_isMotion hL.2.2.1 (show mo < 1000 by omega), bdE1, jnE]
          rw [if_pos hp, if_neg (by decide), e7_inb 6 (by decide), bdE1, b01, if_pos hb, if_pos (by decide), if_pos (by decide), e, bdE3, q3]
          exact if01 (f := fun v => some (c_errors, _, _, v)) wp01
        case r => exact ⟨⟨hPp, hMo, hSc, hTa, hWa, hUs, hCh, hCo⟩, hIm, hKe, hKu, rfl, hTr, hTn, hTg, hSh⟩
    · refine ⟨?_, ?_, ?_, ?_, ?_, ?c, ?m, ?r⟩
      case c =>
        simp only [f_X6_ofMotion, e5_has rfl (show mo < 1000 by omega), bdE1]
        rw [if_pos hp, if_neg (by decide), rdA_i rfl (by omega), if_neg (show ¬ p1 = (0 : Int32) from nin (k := 0) hb (by decide) (by decide)), if_neg (show ¬ p1 = (1 : Int32) from nin (k := 1) hb (by decide) (by decide)), if_neg (show ¬ p1 = (2 : Int32) from nin (k := 2) hb (by decide) (by decide)), if_neg (show ¬ p1 = (3 : Int32) from nin (k := 3) hb (by decide) (by decide)), if_neg (show ¬ p1 = (4 : Int32) from nin (k := 4) hb (by decide) (by decide)), if_neg (show ¬ p1 = (5 : Int32) from nin (k := 5) hb (by decide) (by decide)), ef1]
        rfl
      case m =>
        simp only [f_X7_ofMotion, e7_isMotion hL.2.2.1 (show mo < 1000 by omega), bdE1, jnE]
        rw [if_pos hp, if_neg (by decide), e7_inb 6 (by decide), bdE1, b01, if_neg hb, eg1]
        rfl
      case r => exact ⟨⟨hPp, hMo, hSc, hTa, hWa, hUs, hCh, hCo⟩, hIm, hKe, hKu, rfl, hTr, hTn, hTg, hSh⟩
  · refine ⟨?_, ?_, ?_, ?_, ?_, ?c, ?m, ?r⟩
    case c =>
      simp only [f_X6_ofMotion, e5_has rfl (show mo < 1000 by omega), bdE1]
      rw [if_neg hp, if_pos rfl, ef1]
      rfl
    case m =>
      simp only [f_X7_ofMotion, e7_isMotion hL.2.2.1 (show mo < 1000 by omega), bdE1, jnE]
      rw [if_neg hp, if_pos rfl, eg1]
      rfl
    case r => exact ⟨⟨hPp, hMo, hSc, hTa, hWa, hUs, hCh, hCo⟩, hIm, hKe, hKu, rfl, hTr, hTn, hTg, hSh⟩
set_option maxHeartbeats 1000000 in
set_option maxRecDepth 10000 in
theorem st_ofPerson {c_now_folk_size : Int32} {c_now_folk_kind : Nat → Int32} {c_now_folk_mark : Nat → Int32} {c_now_folk_horn : Nat → Int32} {c_now_folk_brass : Nat → Int32} {c_now_folk_open : Nat → Int32} {c_now_folk_health : Nat → Int32} {c_now_motions : Int32} {c_now_quorum : Nat → Int32} {c_now_favour : Nat → Int32} {c_now_laws : Int32} {c_now_urnHorn : Int32} {c_now_urnBrass : Int32} {c_now_thread : Int32} {c_now_winter : Int32} {c_now_day : Int32} {c_now_chill_use : Int32} {c_now_chill_codes : Nat → Int32} {c_now_chill_size : Int32} {c_now_chill_stack : Nat → Int32} {c_now_cold_use : Int32} {c_now_cold_codes : Nat → Int32} {c_now_cold_size : Int32} {c_now_cold_stack : Nat → Int32} {c_now_tape : Nat → Int32} {c_now_taped : Int32} {c_now_z : Int32} {c_now_waiting : Nat → Int32} {c_now_waits : Int32} {c_kept_folk_size : Int32} {c_kept_folk_kind : Nat → Int32} {c_kept_folk_mark : Nat → Int32} {c_kept_folk_horn : Nat → Int32} {c_kept_folk_brass : Nat → Int32} {c_kept_folk_open : Nat → Int32} {c_kept_folk_health : Nat → Int32} {c_kept_motions : Int32} {c_kept_quorum : Nat → Int32} {c_kept_favour : Nat → Int32} {c_kept_laws : Int32} {c_kept_urnHorn : Int32} {c_kept_urnBrass : Int32} {c_kept_thread : Int32} {c_kept_winter : Int32} {c_kept_day : Int32} {c_kept_chill_use : Int32} {c_kept_chill_codes : Nat → Int32} {c_kept_chill_size : Int32} {c_kept_cold_use : Int32} {c_kept_cold_codes : Nat → Int32} {c_kept_cold_size : Int32} {c_kept_tape : Nat → Int32} {c_kept_taped : Int32} {c_kept_z : Int32} {c_kept_waiting : Nat → Int32} {c_kept_waits : Int32} {c_voices_traces : Nat → Int32} {c_voices_traced : Int32} {c_sh_bits : Nat → Int32} {c_sh_size : Nat → Int32} {c_sh_numbers : Nat → Nat → Int32} {c_errors : Nat → Int32} {c_images : Int32} {m_d : Nat → Int32} {m_kept : Nat → Int32} {m_images : Int32} {m_found : Nat → Int32} {m_names : Nat → Int32} {m_pile : Nat → Int32} {m_horn : Int32} {m_brass : Int32} {m_traced : Nat → Int32} {m_traceMany : Int32} {m_bitsOf : Nat → Int32} {m_sizeOf : Nat → Int32} {m_number : Nat → Int32} (R : Rel c_now_folk_size c_now_folk_kind c_now_folk_mark c_now_folk_horn c_now_folk_brass c_now_folk_open c_now_folk_health c_now_motions c_now_quorum c_now_favour c_now_laws c_now_urnHorn c_now_urnBrass c_now_thread c_now_winter c_now_day c_now_chill_use c_now_chill_codes c_now_chill_size c_now_cold_use c_now_cold_codes c_now_cold_size c_now_tape c_now_taped c_now_z c_now_waiting c_now_waits c_kept_folk_size c_kept_folk_kind c_kept_folk_mark c_kept_folk_horn c_kept_folk_brass c_kept_folk_open c_kept_folk_health c_kept_motions c_kept_quorum c_kept_favour c_kept_laws c_kept_urnHorn c_kept_urnBrass c_kept_thread c_kept_winter c_kept_day c_kept_chill_use c_kept_chill_codes c_kept_chill_size c_kept_cold_use c_kept_cold_codes c_kept_cold_size c_kept_tape c_kept_taped c_kept_z c_kept_waiting c_kept_waits c_voices_traces c_voices_traced c_sh_bits c_sh_size c_sh_numbers c_errors c_images m_d m_kept m_images m_found m_traced m_traceMany m_bitsOf m_sizeOf m_number) (p0 : Int32) (p1 : Int32) : ∃ (x_now_chill_stack : Nat → Int32) (x_now_cold_stack : Nat → Int32) (x_errors : Nat → Int32) (r : Int32) (y_found : Nat → Int32) (y_names : Nat → Int32) (y_pile : Nat → Int32) (y_horn : Int32) (y_brass : Int32), f_X6_ofPerson c_now_folk_size c_now_folk_kind c_now_folk_mark c_now_folk_horn c_now_folk_brass c_now_folk_open c_now_folk_health c_now_laws c_now_winter c_now_day c_now_chill_use c_now_chill_codes c_now_chill_size c_now_chill_stack c_now_cold_use c_now_cold_codes c_now_cold_size c_now_cold_stack c_errors p0 p1 = some (x_now_chill_stack, x_now_cold_stack, x_errors, r) ∧ f_X7_ofPerson m_d m_found m_names m_pile m_horn m_brass p0 p1 = some (y_found, y_names, y_pile, y_horn, y_brass, r) ∧ Rel c_now_folk_size c_now_folk_kind c_now_folk_mark c_now_folk_horn c_now_folk_brass c_now_folk_open c_now_folk_health c_now_motions c_now_quorum c_now_favour c_now_laws c_now_urnHorn c_now_urnBrass c_now_thread c_now_winter c_now_day c_now_chill_use c_now_chill_codes c_now_chill_size c_now_cold_use c_now_cold_codes c_now_cold_size c_now_tape c_now_taped c_now_z c_now_waiting c_now_waits c_kept_folk_size c_kept_folk_kind c_kept_folk_mark c_kept_folk_horn c_kept_folk_brass c_kept_folk_open c_kept_folk_health c_kept_motions c_kept_quorum c_kept_favour c_kept_laws c_kept_urnHorn c_kept_urnBrass c_kept_thread c_kept_winter c_kept_day c_kept_chill_use c_kept_chill_codes c_kept_chill_size c_kept_cold_use c_kept_cold_codes c_kept_cold_size c_kept_tape c_kept_taped c_kept_z c_kept_waiting c_kept_waits c_voices_traces c_voices_traced c_sh_bits c_sh_size c_sh_numbers x_errors c_images m_d m_kept m_images y_found m_traced m_traceMany m_bitsOf m_sizeOf m_number := by
  obtain ⟨⟨hPp, hMo, hSc, hTa, hWa, hUs, hCh, hCo⟩, hIm, hKe, hKu, hEr, hTr, hTn, hTg, hSh⟩ := R
  subst hEr
  obtain ⟨n, hn, hsz, hD0, H, D⟩ := PplR_out hPp
  subst hsz
  obtain ⟨mo, w, hmo, hlw, hL, hQ⟩ := MotR_out hMo
  subst hmo
  subst hlw
  have hmo6 : mo ≤ 6 := hL.1
  have hUs0 := hUs
  obtain ⟨hU0, hU1⟩ := hUs0
  subst hU0
  subst hU1
  obtain ⟨nc, hnc, hX, hY⟩ := TextR_0 hCh
  subst hnc
  obtain ⟨ng, hng, hX1, hY1⟩ := TextR_1 hCo
  subst hng
  by_cases hp : inb p0 n = true
  · obtain ⟨p, hpn, rfl⟩ := inb_of hp (by omega)
    obtain ⟨a1, a2, a3, a4, a5, a6⟩ := H p (by omega)
    obtain ⟨d1, d2, d3, d4, d5, d6⟩ := D p (by omega)
    by_cases hb : inb p1 10 = true
    · obtain ⟨k, hk, rfl⟩ := inb_of hb (by decide)
      rcases (show k = 0 ∨ k = 1 ∨ k = 2 ∨ k = 3 ∨ k = 4 ∨ k = 5 ∨ k = 6 ∨ k = 7 ∨ k = 8 ∨ k = 9 by omega) with rfl | rfl | rfl | rfl | rfl | rfl | rfl | rfl | rfl | rfl
      · skip
        refine ⟨?_, ?_, ?_, ?_, ?_, ?_, ?_, ?_, ?_, ?c, ?m, ?r⟩
        case c =>
          simp only [f_X6_ofPerson, e0_has rfl (show n < 1000 by omega), bdE1]
          rw [if_pos hp, if_neg (by decide), if_pos (by decide), rdA_i rfl (by omega)]
        case m =>
          simp only [f_X7_ofPerson, e7_isPerson hD0 (show n < 1000 by omega), bdE1, jnE]
          rw [if_pos hp, if_neg (by decide), e7_inb 10 (by decide), bdE1, b01, if_pos hb, if_neg (by decide), if_neg (by decide), if_neg (by decide), if_neg (by decide), e7_of 0 rfl (by omega) (by decide), bdE1, d1]
        case r => exact ⟨⟨hPp, hMo, hSc, hTa, hWa, hUs, hCh, hCo⟩, hIm, hKe, hKu, rfl, hTr, hTn, hTg, hSh⟩
      · skip
        refine ⟨?_, ?_, ?_, ?_, ?_, ?_, ?_, ?_, ?_, ?c, ?m, ?r⟩
        case c =>
          simp only [f_X6_ofPerson, e0_has rfl (show n < 1000 by omega), bdE1]
          rw [if_pos hp, if_neg (by decide), if_neg (by decide), if_pos (by decide), rdA_i rfl (by omega)]
        case m =>
          simp only [f_X7_ofPerson, e7_isPerson hD0 (show n < 1000 by omega), bdE1, jnE]
          rw [if_pos hp, if_neg (by decide), e7_inb 10 (by decide), bdE1, b01, if_pos hb, if_neg (by decide), if_neg (by decide), if_neg (by decide), if_neg (by decide), e7_of 1 rfl (by omega) (by decide), bdE1, d2]
        case r => exact ⟨⟨hPp, hMo, hSc, hTa, hWa, hUs, hCh, hCo⟩, hIm, hKe, hKu, rfl, hTr, hTn, hTg, hSh⟩
      · skip
        refine ⟨?_, ?_, ?_, ?_, ?_, ?_, ?_, ?_, ?_, ?c, ?m, ?r⟩
        case c =>
          simp only [f_X6_ofPerson, e0_has rfl (show n < 1000 by omega), bdE1]
          rw [if_pos hp, if_neg (by decide), if_neg (by decide), if_neg (by decide), if_pos (by decide), rdA_i rfl (by omega)]
        case m =>
          simp only [f_X7_ofPerson, e7_isPerson hD0 (show n < 1000 by omega), bdE1, jnE]
          rw [if_pos hp, if_neg (by decide), e7_inb 10 (by decide), bdE1, b01, if_pos hb, if_neg (by decide), if_neg (by decide), if_neg (by decide), if_neg (by decide), e7_of 2 rfl (by omega) (by decide), bdE1, d3]
        case r => exact ⟨⟨hPp, hMo, hSc, hTa, hWa, hUs, hCh, hCo⟩, hIm, hKe, hKu, rfl, hTr, hTn, hTg, hSh⟩
      · skip
        refine ⟨?_, ?_, ?_, ?_, ?_, ?_, ?_, ?_, ?_, ?c, ?m, ?r⟩
        case c =>
          simp only [f_X6_ofPerson, e0_has rfl (show n < 1000 by omega), bdE1]
          rw [if_pos hp, if_neg (by decide), if_neg (by decide), if_neg (by decide), if_neg (by decide), if_pos (by decide), rdA_i rfl (by omega)]
        case m =>
          simp only [f_X7_ofPerson, e7_isPerson hD0 (show n < 1000 by omega), bdE1, jnE]
          rw [if_pos hp, if_neg (by decide), e7_inb 10 (by decide), bdE1, b01, if_pos hb, if_neg (by decide), if_neg (by decide), if_neg (by decide), if_neg (by decide), e7_of 3 rfl (by omega) (by decide), bdE1, d4]
        case r => exact ⟨⟨hPp, hMo, hSc, hTa, hWa, hUs, hCh, hCo⟩, hIm, hKe, hKu, rfl, hTr, hTn, hTg, hSh⟩
      · skip
        refine ⟨?_, ?_, ?_, ?_, ?_, ?_, ?_, ?_, ?_, ?c, ?m, ?r⟩
        case c =>
          simp only [f_X6_ofPerson, e0_has rfl (show n < 1000 by omega), bdE1]
          rw [if_pos hp, if_neg (by decide), if_neg (by decide), if_neg (by decide), if_neg (by decide), if_neg (by decide), if_pos (by decide), rdA_i rfl (by omega)]
        case m =>
          simp only [f_X7_ofPerson, e7_isPerson hD0 (show n < 1000 by omega), bdE1, jnE]
          rw [if_pos hp, if_neg (by decide), e7_inb 10 (by decide), bdE1, b01, if_pos hb, if_neg (by decide), if_neg (by decide), if_neg (by decide), if_neg (by decide), e7_of 4 rfl (by omega) (by decide), bdE1, d5]
        case r => exact ⟨⟨hPp, hMo, hSc, hTa, hWa, hUs, hCh, hCo⟩, hIm, hKe, hKu, rfl, hTr, hTn, hTg, hSh⟩
      · skip
        refine ⟨?_, ?_, ?_, ?_, ?_, ?_, ?_, ?_, ?_, ?c, ?m, ?r⟩
        case c =>
          simp only [f_X6_ofPerson, e0_has rfl (show n < 1000 by omega), bdE1]
          rw [if_pos hp, if_neg (by decide), if_neg (by decide), if_neg (by decide), if_neg (by decide), if_neg (by decide), if_neg (by decide), if_pos (by decide), rdA_i rfl (by omega)]
        case m =>
          simp only [f_X7_ofPerson, e7_isPerson hD0 (show n < 1000 by omega), bdE1, jnE]
          rw [if_pos hp, if_neg (by decide), e7_inb 10 (by decide), bdE1, b01, if_pos hb, if_neg (by decide), if_neg (by decide), if_neg (by decide), if_neg (by decide), e7_of 5 rfl (by omega) (by decide), bdE1, d6]
        case r => exact ⟨⟨hPp, hMo, hSc, hTa, hWa, hUs, hCh, hCo⟩, hIm, hKe, hKu, rfl, hTr, hTn, hTg, hSh⟩
      · skip
        refine ⟨?_, ?_, ?_, ?_, ?_, ?_, ?_, ?_, ?_, ?c, ?m, ?r⟩
        case c =>
          simp only [f_X6_ofPerson, e0_has rfl (show n < 1000 by omega), bdE1]
          rw [if_pos hp, if_neg (by decide), if_neg (by decide), if_neg (by decide), if_neg (by decide), if_neg (by decide), if_neg (by decide), if_neg (by decide), if_pos (by decide), e0_will (by omega) a1 a6, bdE1]
          exact if01 (f := fun v => some (c_now_chill_stack, c_now_cold_stack, c_errors, v)) (wl01 _ _)
        case m =>
          simp only [f_X7_ofPerson, e7_isPerson hD0 (show n < 1000 by omega), bdE1, jnE]
          rw [if_pos hp, if_neg (by decide), e7_inb 10 (by decide), bdE1, b01, if_pos hb, if_pos (by decide), e7_will (by omega) (by rw [d1]; exact a1) (by rw [d6]; exact a6), bdE1, d1, d6]
          exact if01 (f := fun v => some (c_errors, m_names, m_pile, m_horn, m_brass, v)) (wl01 _ _)
        case r => exact ⟨⟨hPp, hMo, hSc, hTa, hWa, hUs, hCh, hCo⟩, hIm, hKe, hKu, rfl, hTr, hTn, hTg, hSh⟩
      · skip
        refine ⟨?_, ?_, ?_, ?_, ?_, ?_, ?_, ?_, ?_, ?c, ?m, ?r⟩
        case c =>
          simp only [f_X6_ofPerson, e0_has rfl (show n < 1000 by omega), bdE1]
          rw [if_pos hp, if_neg (by decide), if_neg (by decide), if_neg (by decide), if_neg (by decide), if_neg (by decide), if_neg (by decide), if_neg (by decide), if_neg (by decide), if_pos (by decide), e0_cutH (by omega) a1 a3 a4 a6, e0_cutB (by omega) a1 a3 a4 a6, bdE1, bdE1]
        case m =>
          simp only [f_X7_ofPerson, e7_isPerson hD0 (show n < 1000 by omega), bdE1, jnE]
          rw [if_pos hp, if_neg (by decide), e7_inb 10 (by decide), bdE1, b01, if_pos hb, if_neg (by decide), if_pos (by decide), e7_cuts (d := m_d) (by omega) (by rw [d1]; exact a1) (by rw [d3]; exact a3) (by rw [d4]; exact a4) (by rw [d6]; exact a6), bdE2, d1, d3, d4, d6]
        case r => exact ⟨⟨hPp, hMo, hSc, hTa, hWa, hUs, hCh, hCo⟩, hIm, hKe, hKu, rfl, hTr, hTn, hTg, hSh⟩
      · obtain ⟨a', b', e⟩ := e7_counts (d := m_d) (a := m_horn) (b := m_brass) (p := p) (by omega) (by rw [d1]; exact a1) (by rw [d3]; exact a3) (by rw [d4]; exact a4) (by rw [d6]; exact a6)
        refine ⟨?_, ?_, ?_, ?_, ?_, ?_, ?_, ?_, ?_, ?c, ?m, ?r⟩
        case c =>
          simp only [f_X6_ofPerson, e0_has rfl (show n < 1000 by omega), bdE1]
          rw [if_pos hp, if_neg (by decide), if_neg (by decide), if_neg (by decide), if_neg (by decide), if_neg (by decide), if_neg (by decide), if_neg (by decide), if_neg (by decide), if_neg (by decide), if_pos (by decide), e0_counts (by omega) a1 a3 a4 a6, bdE1]
        case m =>
          simp only [f_X7_ofPerson, e7_isPerson hD0 (show n < 1000 by omega), bdE1, jnE]
          rw [if_pos hp, if_neg (by decide), e7_inb 10 (by decide), bdE1, b01, if_pos hb, if_neg (by decide), if_neg (by decide), if_pos (by decide), e, bdE3, d1, d2, d3, d4, d6]
        case r => exact ⟨⟨hPp, hMo, hSc, hTa, hWa, hUs, hCh, hCo⟩, hIm, hKe, hKu, rfl, hTr, hTn, hTg, hSh⟩
      · obtain ⟨s1, e1⟩ := e5_cold hX1 hL.w c_now_day c_now_winter c_now_cold_stack
        obtain ⟨s2, e2⟩ := e3_g0 hX (clI c_now_cold_codes ng w c_now_day c_now_winter) (c_now_folk_open p) (c_now_folk_health p) c_now_chill_stack
        obtain ⟨n3, p3, e3⟩ := e7_cold hX1 hY1 hL m_names m_pile
        obtain ⟨n4, p4, e4⟩ := e7_ch (c := clI c_now_cold_codes ng w c_now_day c_now_winter) (p := p) hX hY (by omega) (by rw [d1]; exact a1) (by rw [d2]; exact a2) n3 p3
        have hSc0 := hSc
        obtain ⟨⟨u1, u2⟩, ⟨u3, u4⟩, ⟨u5, u6⟩, ⟨u7, u8⟩, ⟨u9, u10⟩, u11⟩ := hSc0
        rw [u7, u9] at e3
        rw [d1, d2, d5, d6] at e4
        refine ⟨?_, ?_, ?_, ?_, ?_, ?_, ?_, ?_, ?_, ?c, ?m, ?r⟩
        case c =>
          simp only [f_X6_ofPerson, e0_has rfl (show n < 1000 by omega), bdE1]
          rw [if_pos hp, if_neg (by decide), if_neg (by decide), if_neg (by decide), if_neg (by decide), if_neg (by decide), if_neg (by decide), if_neg (by decide), if_neg (by decide), if_neg (by decide), if_neg (by decide), if_pos (by decide)]
          unfold f_X6_chillText
          rw [e1, bdE2, rdA_i rfl (by omega), rdA_i rfl (by omega), e2, bdE2, bdE3, e0_chill (by omega) a1, bdE1]
        case m =>
          simp only [f_X7_ofPerson, e7_isPerson hD0 (show n < 1000 by omega), bdE1, jnE]
          rw [if_pos hp, if_neg (by decide), e7_inb 10 (by decide), bdE1, b01, if_pos hb, if_neg (by decide), if_neg (by decide), if_neg (by decide), if_pos (by decide), e3, bdE3, e4, bdE3]
        case r => exact ⟨⟨hPp, hMo, hSc, hTa, hWa, hUs, hCh, hCo⟩, hIm, hKe, hKu, rfl, hTr, hTn, hTg, hSh⟩
    · refine ⟨?_, ?_, ?_, ?_, ?_, ?_, ?_, ?_, ?_, ?c, ?m, ?r⟩
      case c =>
        simp only [f_X6_ofPerson, e0_has rfl (show n < 1000 by omega), bdE1]
        rw [if_pos hp, if_neg (by decide), if_neg (show ¬ p1 = (0 : Int32) from nin (k := 0) hb (by decide) (by decide)), if_neg (show ¬ p1 = (1 : Int32) from nin (k := 1) hb (by decide) (by decide)), if_neg (show ¬ p1 = (2 : Int32) from nin (k := 2) hb (by decide) (by decide)), if_neg (show ¬ p1 = (3 : Int32) from nin (k := 3) hb (by decide) (by decide)), if_neg (show ¬ p1 = (4 : Int32) from nin (k := 4) hb (by decide) (by decide)), if_neg (show ¬ p1 = (5 : Int32) from nin (k := 5) hb (by decide) (by decide)), if_neg (show ¬ p1 = (6 : Int32) from nin (k := 6) hb (by decide) (by decide)), if_neg (show ¬ p1 = (7 : Int32) from nin (k := 7) hb (by decide) (by decide)), if_neg (show ¬ p1 = (8 : Int32) from nin (k := 8) hb (by decide) (by decide)), if_neg (show ¬ p1 = (9 : Int32) from nin (k := 9) hb (by decide) (by decide)), ef1]
        rfl
      case m =>
        simp only [f_X7_ofPerson, e7_isPerson hD0 (show n < 1000 by omega), bdE1, jnE]
        rw [if_pos hp, if_neg (by decide), e7_inb 10 (by decide), bdE1, b01, if_neg hb, eg1]
        rfl
      case r => exact ⟨⟨hPp, hMo, hSc, hTa, hWa, hUs, hCh, hCo⟩, hIm, hKe, hKu, rfl, hTr, hTn, hTg, hSh⟩
  · refine ⟨?_, ?_, ?_, ?_, ?_, ?_, ?_, ?_, ?_, ?c, ?m, ?r⟩
    case c =>
      simp only [f_X6_ofPerson, e0_has rfl (show n < 1000 by omega), bdE1]
      rw [if_neg hp, if_pos rfl, ef1]
      rfl
    case m =>
      simp only [f_X7_ofPerson, e7_isPerson hD0 (show n < 1000 by omega), bdE1, jnE]
      rw [if_neg hp, if_pos rfl, eg1]
      rfl
    case r => exact ⟨⟨hPp, hMo, hSc, hTa, hWa, hUs, hCh, hCo⟩, hIm, hKe, hKu, rfl, hTr, hTn, hTg, hSh⟩
set_option maxHeartbeats 1000000 in
set_option maxRecDepth 10000 in
theorem st_count {c_now_folk_size : Int32} {c_now_folk_kind : Nat → Int32} {c_now_folk_mark : Nat → Int32} {c_now_folk_horn : Nat → Int32} {c_now_folk_brass : Nat → Int32} {c_now_folk_open : Nat → Int32} {c_now_folk_health : Nat → Int32} {c_now_motions : Int32} {c_now_quorum : Nat → Int32} {c_now_favour : Nat → Int32} {c_now_laws : Int32} {c_now_urnHorn : Int32} {c_now_urnBrass : Int32} {c_now_thread : Int32} {c_now_winter : Int32} {c_now_day : Int32} {c_now_chill_use : Int32} {c_now_chill_codes : Nat → Int32} {c_now_chill_size : Int32} {c_now_cold_use : Int32} {c_now_cold_codes : Nat → Int32} {c_now_cold_size : Int32} {c_now_cold_stack : Nat → Int32} {c_now_tape : Nat → Int32} {c_now_taped : Int32} {c_now_z : Int32} {c_now_waiting : Nat → Int32} {c_now_waits : Int32} {c_kept_folk_size : Int32} {c_kept_folk_kind : Nat → Int32} {c_kept_folk_mark : Nat → Int32} {c_kept_folk_horn : Nat → Int32} {c_kept_folk_brass : Nat → Int32} {c_kept_folk_open : Nat → Int32} {c_kept_folk_health : Nat → Int32} {c_kept_motions : Int32} {c_kept_quorum : Nat → Int32} {c_kept_favour : Nat → Int32} {c_kept_laws : Int32} {c_kept_urnHorn : Int32} {c_kept_urnBrass : Int32} {c_kept_thread : Int32} {c_kept_winter : Int32} {c_kept_day : Int32} {c_kept_chill_use : Int32} {c_kept_chill_codes : Nat → Int32} {c_kept_chill_size : Int32} {c_kept_cold_use : Int32} {c_kept_cold_codes : Nat → Int32} {c_kept_cold_size : Int32} {c_kept_tape : Nat → Int32} {c_kept_taped : Int32} {c_kept_z : Int32} {c_kept_waiting : Nat → Int32} {c_kept_waits : Int32} {c_voices_traces : Nat → Int32} {c_voices_traced : Int32} {c_sh_bits : Nat → Int32} {c_sh_size : Nat → Int32} {c_sh_numbers : Nat → Nat → Int32} {c_errors : Nat → Int32} {c_images : Int32} {m_d : Nat → Int32} {m_kept : Nat → Int32} {m_images : Int32} {m_found : Nat → Int32} {m_names : Nat → Int32} {m_pile : Nat → Int32} {m_traced : Nat → Int32} {m_traceMany : Int32} {m_bitsOf : Nat → Int32} {m_sizeOf : Nat → Int32} {m_number : Nat → Int32} (R : Rel c_now_folk_size c_now_folk_kind c_now_folk_mark c_now_folk_horn c_now_folk_brass c_now_folk_open c_now_folk_health c_now_motions c_now_quorum c_now_favour c_now_laws c_now_urnHorn c_now_urnBrass c_now_thread c_now_winter c_now_day c_now_chill_use c_now_chill_codes c_now_chill_size c_now_cold_use c_now_cold_codes c_now_cold_size c_now_tape c_now_taped c_now_z c_now_waiting c_now_waits c_kept_folk_size c_kept_folk_kind c_kept_folk_mark c_kept_folk_horn c_kept_folk_brass c_kept_folk_open c_kept_folk_health c_kept_motions c_kept_quorum c_kept_favour c_kept_laws c_kept_urnHorn c_kept_urnBrass c_kept_thread c_kept_winter c_kept_day c_kept_chill_use c_kept_chill_codes c_kept_chill_size c_kept_cold_use c_kept_cold_codes c_kept_cold_size c_kept_tape c_kept_taped c_kept_z c_kept_waiting c_kept_waits c_voices_traces c_voices_traced c_sh_bits c_sh_size c_sh_numbers c_errors c_images m_d m_kept m_images m_found m_traced m_traceMany m_bitsOf m_sizeOf m_number) (p0 : Int32) : ∃ (x_now_cold_stack : Nat → Int32) (x_errors : Nat → Int32) (r : Int32) (y_found : Nat → Int32) (y_names : Nat → Int32) (y_pile : Nat → Int32), f_X6_count c_now_folk_size c_now_folk_health c_now_motions c_now_laws c_now_urnHorn c_now_urnBrass c_now_thread c_now_winter c_now_day c_now_cold_use c_now_cold_codes c_now_cold_size c_now_cold_stack c_now_taped c_now_z c_now_waits c_voices_traced c_errors p0 = some (x_now_cold_stack, x_errors, r) ∧ f_X7_count m_d m_found m_names m_pile m_traceMany p0 = some (y_found, y_names, y_pile, r) ∧ Rel c_now_folk_size c_now_folk_kind c_now_folk_mark c_now_folk_horn c_now_folk_brass c_now_folk_open c_now_folk_health c_now_motions c_now_quorum c_now_favour c_now_laws c_now_urnHorn c_now_urnBrass c_now_thread c_now_winter c_now_day c_now_chill_use c_now_chill_codes c_now_chill_size c_now_cold_use c_now_cold_codes c_now_cold_size c_now_tape c_now_taped c_now_z c_now_waiting c_now_waits c_kept_folk_size c_kept_folk_kind c_kept_folk_mark c_kept_folk_horn c_kept_folk_brass c_kept_folk_open c_kept_folk_health c_kept_motions c_kept_quorum c_kept_favour c_kept_laws c_kept_urnHorn c_kept_urnBrass c_kept_thread c_kept_winter c_kept_day c_kept_chill_use c_kept_chill_codes c_kept_chill_size c_kept_cold_use c_kept_cold_codes c_kept_cold_size c_kept_tape c_kept_taped c_kept_z c_kept_waiting c_kept_waits c_voices_traces c_voices_traced c_sh_bits c_sh_size c_sh_numbers x_errors c_images m_d m_kept m_images y_found m_traced m_traceMany m_bitsOf m_sizeOf m_number := by
  obtain ⟨⟨hPp, hMo, hSc, hTa, hWa, hUs, hCh, hCo⟩, hIm, hKe, hKu, hEr, hTr, hTn, hTg, hSh⟩ := R
  subst hEr
  obtain ⟨n, hn, hsz, hD0, H, D⟩ := PplR_out hPp
  subst hsz
  obtain ⟨mo, w, hmo, hlw, hL, hQ⟩ := MotR_out hMo
  subst hmo
  subst hlw
  have hmo6 : mo ≤ 6 := hL.1
  have hUs0 := hUs
  obtain ⟨hU0, hU1⟩ := hUs0
  subst hU0
  subst hU1
  obtain ⟨nc, hnc, hX, hY⟩ := TextR_0 hCh
  subst hnc
  obtain ⟨ng, hng, hX1, hY1⟩ := TextR_1 hCo
  subst hng
  have hSc0 := hSc
  obtain ⟨⟨u1, u2⟩, ⟨u3, u4⟩, ⟨u5, u6⟩, ⟨u7, u8⟩, ⟨u9, u10⟩, u11⟩ := hSc0
  by_cases hb : inb p0 14 = true
  · obtain ⟨k, hk, rfl⟩ := inb_of hb (by decide)
    rcases (show k = 0 ∨ k = 1 ∨ k = 2 ∨ k = 3 ∨ k = 4 ∨ k = 5 ∨ k = 6 ∨ k = 7 ∨ k = 8 ∨ k = 9 ∨ k = 10 ∨ k = 11 ∨ k = 12 ∨ k = 13 by omega) with rfl | rfl | rfl | rfl | rfl | rfl | rfl | rfl | rfl | rfl | rfl | rfl | rfl | rfl
    · skip
      refine ⟨?_, ?_, ?_, ?_, ?_, ?_, ?c, ?m, ?r⟩
      case c =>
        simp only [f_X6_count]
        rw [if_pos (by decide)]
      case m =>
        simp only [f_X7_count]
        rw [if_pos (by decide), rdA_i (i := 0) (k := 0) rfl (by decide), hD0]
      case r => exact ⟨⟨hPp, hMo, hSc, hTa, hWa, hUs, hCh, hCo⟩, hIm, hKe, hKu, rfl, hTr, hTn, hTg, hSh⟩
    · skip
      refine ⟨?_, ?_, ?_, ?_, ?_, ?_, ?c, ?m, ?r⟩
      case c =>
        simp only [f_X6_count]
        rw [if_neg (by decide), if_pos (by decide)]
      case m =>
        simp only [f_X7_count]
        rw [if_neg (by decide), if_pos (by decide), rdA_i (i := 1) (k := 1) rfl (by decide), hL.2.2.1]
      case r => exact ⟨⟨hPp, hMo, hSc, hTa, hWa, hUs, hCh, hCo⟩, hIm, hKe, hKu, rfl, hTr, hTn, hTg, hSh⟩
    · skip
      refine ⟨?_, ?_, ?_, ?_, ?_, ?_, ?c, ?m, ?r⟩
      case c =>
        simp only [f_X6_count]
        rw [if_neg (by decide), if_neg (by decide), if_pos (by decide)]
      case m =>
        simp only [f_X7_count]
        rw [if_neg (by decide), if_neg (by decide), if_pos (by decide), rdA_i (i := 6) (k := 6) rfl (by decide), u9]
      case r => exact ⟨⟨hPp, hMo, hSc, hTa, hWa, hUs, hCh, hCo⟩, hIm, hKe, hKu, rfl, hTr, hTn, hTg, hSh⟩
    · skip
      refine ⟨?_, ?_, ?_, ?_, ?_, ?_, ?c, ?m, ?r⟩
      case c =>
        simp only [f_X6_count]
        rw [if_neg (by decide), if_neg (by decide), if_neg (by decide), if_pos (by decide), e0_living (fun p hp => (H p hp).2.2.2.2.2) hn, bdE1, pc_lv hn, bdE1]
      case m =>
        simp only [f_X7_count]
        rw [if_neg (by decide), if_neg (by decide), if_neg (by decide), if_pos (by decide), e7_alive (fun p hp => (D p hp).2.2.2.2.2) hD0 hn, bdE1]
      case r => exact ⟨⟨hPp, hMo, hSc, hTa, hWa, hUs, hCh, hCo⟩, hIm, hKe, hKu, rfl, hTr, hTn, hTg, hSh⟩
    · skip
      refine ⟨?_, ?_, ?_, ?_, ?_, ?_, ?c, ?m, ?r⟩
      case c =>
        simp only [f_X6_count]
        rw [if_neg (by decide), if_neg (by decide), if_neg (by decide), if_neg (by decide), if_pos (by decide)]
      case m =>
        simp only [f_X7_count]
        rw [if_neg (by decide), if_neg (by decide), if_neg (by decide), if_neg (by decide), if_pos (by decide), e7_laws hL]
      case r => exact ⟨⟨hPp, hMo, hSc, hTa, hWa, hUs, hCh, hCo⟩, hIm, hKe, hKu, rfl, hTr, hTn, hTg, hSh⟩
    · skip
      refine ⟨?_, ?_, ?_, ?_, ?_, ?_, ?c, ?m, ?r⟩
      case c =>
        simp only [f_X6_count]
        rw [if_neg (by decide), if_neg (by decide), if_neg (by decide), if_neg (by decide), if_neg (by decide), if_pos (by decide)]
      case m =>
        simp only [f_X7_count]
        rw [if_neg (by decide), if_neg (by decide), if_neg (by decide), if_neg (by decide), if_neg (by decide), if_pos (by decide), rdA_i (i := 2) (k := 2) rfl (by decide), u1]
      case r => exact ⟨⟨hPp, hMo, hSc, hTa, hWa, hUs, hCh, hCo⟩, hIm, hKe, hKu, rfl, hTr, hTn, hTg, hSh⟩
    · skip
      refine ⟨?_, ?_, ?_, ?_, ?_, ?_, ?c, ?m, ?r⟩
      case c =>
        simp only [f_X6_count]
        rw [if_neg (by decide), if_neg (by decide), if_neg (by decide), if_neg (by decide), if_neg (by decide), if_neg (by decide), if_pos (by decide)]
      case m =>
        simp only [f_X7_count]
        rw [if_neg (by decide), if_neg (by decide), if_neg (by decide), if_neg (by decide), if_neg (by decide), if_neg (by decide), if_pos (by decide), rdA_i (i := 3) (k := 3) rfl (by decide), u3]
      case r => exact ⟨⟨hPp, hMo, hSc, hTa, hWa, hUs, hCh, hCo⟩, hIm, hKe, hKu, rfl, hTr, hTn, hTg, hSh⟩
    · skip
      refine ⟨?_, ?_, ?_, ?_, ?_, ?_, ?c, ?m, ?r⟩
      case c =>
        simp only [f_X6_count]
        rw [if_neg (by decide), if_neg (by decide), if_neg (by decide), if_neg (by decide), if_neg (by decide), if_neg (by decide), if_neg (by decide), if_pos (by decide)]
      case m =>
        simp only [f_X7_count]
        rw [if_neg (by decide), if_neg (by decide), if_neg (by decide), if_neg (by decide), if_neg (by decide), if_neg (by decide), if_neg (by decide), if_pos (by decide), rdA_i (i := 4) (k := 4) rfl (by decide), u5]
      case r => exact ⟨⟨hPp, hMo, hSc, hTa, hWa, hUs, hCh, hCo⟩, hIm, hKe, hKu, rfl, hTr, hTn, hTg, hSh⟩
    · skip
      refine ⟨?_, ?_, ?_, ?_, ?_, ?_, ?c, ?m, ?r⟩
      case c =>
        simp only [f_X6_count]
        rw [if_neg (by decide), if_neg (by decide), if_neg (by decide), if_neg (by decide), if_neg (by decide), if_neg (by decide), if_neg (by decide), if_neg (by decide), if_pos (by decide)]
      case m =>
        simp only [f_X7_count]
        rw [if_neg (by decide), if_neg (by decide), if_neg (by decide), if_neg (by decide), if_neg (by decide), if_neg (by decide), if_neg (by decide), if_neg (by decide), if_pos (by decide), rdA_i (i := 5) (k := 5) rfl (by decide), u7]
      case r => exact ⟨⟨hPp, hMo, hSc, hTa, hWa, hUs, hCh, hCo⟩, hIm, hKe, hKu, rfl, hTr, hTn, hTg, hSh⟩
    · obtain ⟨s1, e1⟩ := e5_cold hX1 hL.w c_now_day c_now_winter c_now_cold_stack
      obtain ⟨n3, p3, e3⟩ := e7_cold hX1 hY1 hL m_names m_pile
      rw [u7, u9] at e3
      refine ⟨?_, ?_, ?_, ?_, ?_, ?_, ?c, ?m, ?r⟩
      case c =>
        simp only [f_X6_count]
        rw [if_neg (by decide), if_neg (by decide), if_neg (by decide), if_neg (by decide), if_neg (by decide), if_neg (by decide), if_neg (by decide), if_neg (by decide), if_neg (by decide), if_pos (by decide), e1, bdE2]
      case m =>
        simp only [f_X7_count]
        rw [if_neg (by decide), if_neg (by decide), if_neg (by decide), if_neg (by decide), if_neg (by decide), if_neg (by decide), if_neg (by decide), if_neg (by decide), if_neg (by decide), if_pos (by decide), e3, bdE3]
      case r => exact ⟨⟨hPp, hMo, hSc, hTa, hWa, hUs, hCh, hCo⟩, hIm, hKe, hKu, rfl, hTr, hTn, hTg, hSh⟩
    · skip
      refine ⟨?_, ?_, ?_, ?_, ?_, ?_, ?c, ?m, ?r⟩
      case c =>
        simp only [f_X6_count]
        rw [if_neg (by decide), if_neg (by decide), if_neg (by decide), if_neg (by decide), if_neg (by decide), if_neg (by decide), if_neg (by decide), if_neg (by decide), if_neg (by decide), if_neg (by decide), if_pos (by decide)]
      case m =>
        simp only [f_X7_count]
        rw [if_neg (by decide), if_neg (by decide), if_neg (by decide), if_neg (by decide), if_neg (by decide), if_neg (by decide), if_neg (by decide), if_neg (by decide), if_neg (by decide), if_neg (by decide), if_pos (by decide), rdA_i (i := 8) (k := 8) rfl (by decide), hTa.1]
      case r => exact ⟨⟨hPp, hMo, hSc, hTa, hWa, hUs, hCh, hCo⟩, hIm, hKe, hKu, rfl, hTr, hTn, hTg, hSh⟩
    · skip
      refine ⟨?_, ?_, ?_, ?_, ?_, ?_, ?c, ?m, ?r⟩
      case c =>
        simp only [f_X6_count]
        rw [if_neg (by decide), if_neg (by decide), if_neg (by decide), if_neg (by decide), if_neg (by decide), if_neg (by decide), if_neg (by decide), if_neg (by decide), if_neg (by decide), if_neg (by decide), if_neg (by decide), if_pos (by decide)]
      case m =>
        simp only [f_X7_count]
        rw [if_neg (by decide), if_neg (by decide), if_neg (by decide), if_neg (by decide), if_neg (by decide), if_neg (by decide), if_neg (by decide), if_neg (by decide), if_neg (by decide), if_neg (by decide), if_neg (by decide), if_pos (by decide), rdA_i (i := 9) (k := 9) rfl (by decide), hWa.1]
      case r => exact ⟨⟨hPp, hMo, hSc, hTa, hWa, hUs, hCh, hCo⟩, hIm, hKe, hKu, rfl, hTr, hTn, hTg, hSh⟩
    · skip
      refine ⟨?_, ?_, ?_, ?_, ?_, ?_, ?c, ?m, ?r⟩
      case c =>
        simp only [f_X6_count]
        rw [if_neg (by decide), if_neg (by decide), if_neg (by decide), if_neg (by decide), if_neg (by decide), if_neg (by decide), if_neg (by decide), if_neg (by decide), if_neg (by decide), if_neg (by decide), if_neg (by decide), if_neg (by decide), if_pos (by decide)]
      case m =>
        simp only [f_X7_count]
        rw [if_neg (by decide), if_neg (by decide), if_neg (by decide), if_neg (by decide), if_neg (by decide), if_neg (by decide), if_neg (by decide), if_neg (by decide), if_neg (by decide), if_neg (by decide), if_neg (by decide), if_neg (by decide), if_pos (by decide), ← hTn]
      case r => exact ⟨⟨hPp, hMo, hSc, hTa, hWa, hUs, hCh, hCo⟩, hIm, hKe, hKu, rfl, hTr, hTn, hTg, hSh⟩
    · skip
      refine ⟨?_, ?_, ?_, ?_, ?_, ?_, ?c, ?m, ?r⟩
      case c =>
        simp only [f_X6_count]
        rw [if_neg (by decide), if_neg (by decide), if_neg (by decide), if_neg (by decide), if_neg (by decide), if_neg (by decide), if_neg (by decide), if_neg (by decide), if_neg (by decide), if_neg (by decide), if_neg (by decide), if_neg (by decide), if_neg (by decide), if_pos (by decide)]
      case m =>
        simp only [f_X7_count]
        rw [if_neg (by decide), if_neg (by decide), if_neg (by decide), if_neg (by decide), if_neg (by decide), if_neg (by decide), if_neg (by decide), if_neg (by decide), if_neg (by decide), if_neg (by decide), if_neg (by decide), if_neg (by decide), if_neg (by decide), if_pos (by decide), rdA_i (i := 7) (k := 7) rfl (by decide), u11]
      case r => exact ⟨⟨hPp, hMo, hSc, hTa, hWa, hUs, hCh, hCo⟩, hIm, hKe, hKu, rfl, hTr, hTn, hTg, hSh⟩
  · refine ⟨?_, ?_, ?_, ?_, ?_, ?_, ?c, ?m, ?r⟩
    case c =>
      simp only [f_X6_count]
      rw [if_neg (show ¬ p0 = (0 : Int32) from nin (k := 0) hb (by decide) (by decide)), if_neg (show ¬ p0 = (1 : Int32) from nin (k := 1) hb (by decide) (by decide)), if_neg (show ¬ p0 = (2 : Int32) from nin (k := 2) hb (by decide) (by decide)), if_neg (show ¬ p0 = (3 : Int32) from nin (k := 3) hb (by decide) (by decide)), if_neg (show ¬ p0 = (4 : Int32) from nin (k := 4) hb (by decide) (by decide)), if_neg (show ¬ p0 = (5 : Int32) from nin (k := 5) hb (by decide) (by decide)), if_neg (show ¬ p0 = (6 : Int32) from nin (k := 6) hb (by decide) (by decide)), if_neg (show ¬ p0 = (7 : Int32) from nin (k := 7) hb (by decide) (by decide)), if_neg (show ¬ p0 = (8 : Int32) from nin (k := 8) hb (by decide) (by decide)), if_neg (show ¬ p0 = (9 : Int32) from nin (k := 9) hb (by decide) (by decide)), if_neg (show ¬ p0 = (10 : Int32) from nin (k := 10) hb (by decide) (by decide)), if_neg (show ¬ p0 = (11 : Int32) from nin (k := 11) hb (by decide) (by decide)), if_neg (show ¬ p0 = (12 : Int32) from nin (k := 12) hb (by decide) (by decide)), if_neg (show ¬ p0 = (13 : Int32) from nin (k := 13) hb (by decide) (by decide)), ef1]
      rfl
    case m =>
      simp only [f_X7_count]
      rw [if_neg (show ¬ p0 = (0 : Int32) from nin (k := 0) hb (by decide) (by decide)), if_neg (show ¬ p0 = (1 : Int32) from nin (k := 1) hb (by decide) (by decide)), if_neg (show ¬ p0 = (2 : Int32) from nin (k := 2) hb (by decide) (by decide)), if_neg (show ¬ p0 = (3 : Int32) from nin (k := 3) hb (by decide) (by decide)), if_neg (show ¬ p0 = (4 : Int32) from nin (k := 4) hb (by decide) (by decide)), if_neg (show ¬ p0 = (5 : Int32) from nin (k := 5) hb (by decide) (by decide)), if_neg (show ¬ p0 = (6 : Int32) from nin (k := 6) hb (by decide) (by decide)), if_neg (show ¬ p0 = (7 : Int32) from nin (k := 7) hb (by decide) (by decide)), if_neg (show ¬ p0 = (8 : Int32) from nin (k := 8) hb (by decide) (by decide)), if_neg (show ¬ p0 = (9 : Int32) from nin (k := 9) hb (by decide) (by decide)), if_neg (show ¬ p0 = (10 : Int32) from nin (k := 10) hb (by decide) (by decide)), if_neg (show ¬ p0 = (11 : Int32) from nin (k := 11) hb (by decide) (by decide)), if_neg (show ¬ p0 = (12 : Int32) from nin (k := 12) hb (by decide) (by decide)), if_neg (show ¬ p0 = (13 : Int32) from nin (k := 13) hb (by decide) (by decide)), eg1]
      rfl
    case r => exact ⟨⟨hPp, hMo, hSc, hTa, hWa, hUs, hCh, hCo⟩, hIm, hKe, hKu, rfl, hTr, hTn, hTg, hSh⟩
set_option maxHeartbeats 1000000 in
set_option maxRecDepth 10000 in
theorem st_law {c_now_folk_size : Int32} {c_now_folk_kind : Nat → Int32} {c_now_folk_mark : Nat → Int32} {c_now_folk_horn : Nat → Int32} {c_now_folk_brass : Nat → Int32} {c_now_folk_open : Nat → Int32} {c_now_folk_health : Nat → Int32} {c_now_motions : Int32} {c_now_quorum : Nat → Int32} {c_now_favour : Nat → Int32} {c_now_laws : Int32} {c_now_urnHorn : Int32} {c_now_urnBrass : Int32} {c_now_thread : Int32} {c_now_winter : Int32} {c_now_day : Int32} {c_now_chill_use : Int32} {c_now_chill_codes : Nat → Int32} {c_now_chill_size : Int32} {c_now_chill_stack : Nat → Int32} {c_now_cold_use : Int32} {c_now_cold_codes : Nat → Int32} {c_now_cold_size : Int32} {c_now_cold_stack : Nat → Int32} {c_now_tape : Nat → Int32} {c_now_taped : Int32} {c_now_z : Int32} {c_now_waiting : Nat → Int32} {c_now_waits : Int32} {c_kept_folk_size : Int32} {c_kept_folk_kind : Nat → Int32} {c_kept_folk_mark : Nat → Int32} {c_kept_folk_horn : Nat → Int32} {c_kept_folk_brass : Nat → Int32} {c_kept_folk_open : Nat → Int32} {c_kept_folk_health : Nat → Int32} {c_kept_motions : Int32} {c_kept_quorum : Nat → Int32} {c_kept_favour : Nat → Int32} {c_kept_laws : Int32} {c_kept_urnHorn : Int32} {c_kept_urnBrass : Int32} {c_kept_thread : Int32} {c_kept_winter : Int32} {c_kept_day : Int32} {c_kept_chill_use : Int32} {c_kept_chill_codes : Nat → Int32} {c_kept_chill_size : Int32} {c_kept_cold_use : Int32} {c_kept_cold_codes : Nat → Int32} {c_kept_cold_size : Int32} {c_kept_tape : Nat → Int32} {c_kept_taped : Int32} {c_kept_z : Int32} {c_kept_waiting : Nat → Int32} {c_kept_waits : Int32} {c_voices_traces : Nat → Int32} {c_voices_traced : Int32} {c_sh_bits : Nat → Int32} {c_sh_size : Nat → Int32} {c_sh_numbers : Nat → Nat → Int32} {c_errors : Nat → Int32} {c_images : Int32} {m_d : Nat → Int32} {m_kept : Nat → Int32} {m_images : Int32} {m_found : Nat → Int32} {m_names : Nat → Int32} {m_pile : Nat → Int32} {m_traced : Nat → Int32} {m_traceMany : Int32} {m_bitsOf : Nat → Int32} {m_sizeOf : Nat → Int32} {m_number : Nat → Int32} (R : Rel c_now_folk_size c_now_folk_kind c_now_folk_mark c_now_folk_horn c_now_folk_brass c_now_folk_open c_now_folk_health c_now_motions c_now_quorum c_now_favour c_now_laws c_now_urnHorn c_now_urnBrass c_now_thread c_now_winter c_now_day c_now_chill_use c_now_chill_codes c_now_chill_size c_now_cold_use c_now_cold_codes c_now_cold_size c_now_tape c_now_taped c_now_z c_now_waiting c_now_waits c_kept_folk_size c_kept_folk_kind c_kept_folk_mark c_kept_folk_horn c_kept_folk_brass c_kept_folk_open c_kept_folk_health c_kept_motions c_kept_quorum c_kept_favour c_kept_laws c_kept_urnHorn c_kept_urnBrass c_kept_thread c_kept_winter c_kept_day c_kept_chill_use c_kept_chill_codes c_kept_chill_size c_kept_cold_use c_kept_cold_codes c_kept_cold_size c_kept_tape c_kept_taped c_kept_z c_kept_waiting c_kept_waits c_voices_traces c_voices_traced c_sh_bits c_sh_size c_sh_numbers c_errors c_images m_d m_kept m_images m_found m_traced m_traceMany m_bitsOf m_sizeOf m_number) (p0 : Int32) (p1 : Int32) (p2 : Int32) (p3 : Int32) : ∃ (x_now_chill_stack : Nat → Int32) (x_now_cold_stack : Nat → Int32) (x_errors : Nat → Int32) (r : Int32) (y_found : Nat → Int32) (y_names : Nat → Int32) (y_pile : Nat → Int32), f_X6_law c_now_chill_use c_now_chill_codes c_now_chill_size c_now_chill_stack c_now_cold_use c_now_cold_codes c_now_cold_size c_now_cold_stack c_errors p0 p1 p2 p3 = some (x_now_chill_stack, x_now_cold_stack, x_errors, r) ∧ f_X7_law m_d m_found m_names m_pile p0 p1 p2 p3 = some (y_found, y_names, y_pile, r) ∧ Rel c_now_folk_size c_now_folk_kind c_now_folk_mark c_now_folk_horn c_now_folk_brass c_now_folk_open c_now_folk_health c_now_motions c_now_quorum c_now_favour c_now_laws c_now_urnHorn c_now_urnBrass c_now_thread c_now_winter c_now_day c_now_chill_use c_now_chill_codes c_now_chill_size c_now_cold_use c_now_cold_codes c_now_cold_size c_now_tape c_now_taped c_now_z c_now_waiting c_now_waits c_kept_folk_size c_kept_folk_kind c_kept_folk_mark c_kept_folk_horn c_kept_folk_brass c_kept_folk_open c_kept_folk_health c_kept_motions c_kept_quorum c_kept_favour c_kept_laws c_kept_urnHorn c_kept_urnBrass c_kept_thread c_kept_winter c_kept_day c_kept_chill_use c_kept_chill_codes c_kept_chill_size c_kept_cold_use c_kept_cold_codes c_kept_cold_size c_kept_tape c_kept_taped c_kept_z c_kept_waiting c_kept_waits c_voices_traces c_voices_traced c_sh_bits c_sh_size c_sh_numbers x_errors c_images m_d m_kept m_images y_found m_traced m_traceMany m_bitsOf m_sizeOf m_number := by
  obtain ⟨⟨hPp, hMo, hSc, hTa, hWa, hUs, hCh, hCo⟩, hIm, hKe, hKu, hEr, hTr, hTn, hTg, hSh⟩ := R
  subst hEr
  have hUs0 := hUs
  obtain ⟨hU0, hU1⟩ := hUs0
  subst hU0
  subst hU1
  obtain ⟨nc, hnc, hX, hY⟩ := TextR_0 hCh
  subst hnc
  obtain ⟨ng, hng, hX1, hY1⟩ := TextR_1 hCo
  subst hng
  by_cases hp : inb p0 2 = true
  · obtain ⟨u, hu, rfl⟩ := inb_of hp (by decide)
    rcases (show u = 0 ∨ u = 1 by omega) with rfl | rfl
    · obtain ⟨st, e⟩ := e3_g0 hX p1 p2 p3 c_now_chill_stack
      obtain ⟨n', p', e2⟩ := e7_g0 hX hY p1 p2 p3 m_names m_pile
      refine ⟨?_, ?_, ?_, ?_, ?_, ?_, ?_, ?c, ?m, ?r⟩
      case c =>
        simp only [f_X6_law, jnE, f_X5_textOf]
        rw [rngC 2 (by decide), if_pos hp, if_pos (by decide), bdE1, if_pos rfl, e, bdE2]
      case m =>
        simp only [f_X7_law]
        rw [e7_inb 2 (by decide), bdE1, b01, if_pos hp, show nI 0 = (0 : Int32) from rfl, e2, bdE3]
      case r => exact ⟨⟨hPp, hMo, hSc, hTa, hWa, hUs, hCh, hCo⟩, hIm, hKe, hKu, rfl, hTr, hTn, hTg, hSh⟩
    · obtain ⟨st, e⟩ := e3_g1 hX1 p1 p2 p3 c_now_cold_stack
      obtain ⟨n', p', e2⟩ := e7_g1 hX1 hY1 p1 p2 p3 m_names m_pile
      refine ⟨?_, ?_, ?_, ?_, ?_, ?_, ?_, ?c, ?m, ?r⟩
      case c =>
        simp only [f_X6_law, jnE, f_X5_textOf]
        rw [rngC 2 (by decide), if_pos hp, if_neg (by decide), bdE1, if_neg (by decide), if_pos rfl, e, bdE2]
      case m =>
        simp only [f_X7_law]
        rw [e7_inb 2 (by decide), bdE1, b01, if_pos hp, show nI 1 = (1 : Int32) from rfl, e2, bdE3]
      case r => exact ⟨⟨hPp, hMo, hSc, hTa, hWa, hUs, hCh, hCo⟩, hIm, hKe, hKu, rfl, hTr, hTn, hTg, hSh⟩
  · refine ⟨?_, ?_, ?_, ?_, ?_, ?_, ?_, ?c, ?m, ?r⟩
    case c =>
      simp only [f_X6_law, jnE]
      rw [rngC 2 (by decide), if_neg hp, ef1]
      rfl
    case m =>
      simp only [f_X7_law]
      rw [e7_inb 2 (by decide), bdE1, b01, if_neg hp, eg1]
      rfl
    case r => exact ⟨⟨hPp, hMo, hSc, hTa, hWa, hUs, hCh, hCo⟩, hIm, hKe, hKu, rfl, hTr, hTn, hTg, hSh⟩
