/-! days gone through by both -/
theorem e5_passDay {kind mark horn brass open_ health f g : Nat → Int32} {n nc ng w : Nat} {winter day : Int32} (H : FW kind mark horn brass open_ health) (hn : n ≤ 8) (h : TX f nc) (hg : TX g ng) (hw : w < 64) (st1 st2 : Nat → Int32) : ∃ st1' st2', f_X5_passDay (nI n) kind mark open_ health (nI w) winter day 0 f (nI nc) st1 1 g (nI ng) st2 = some (dyH f nc kind mark open_ (clI g ng w day winter) health n, day + 1, st1', st2') := by
  unfold f_X5_passDay
  obtain ⟨s2, e2⟩ := e5_cold hg hw day winter st2
  obtain ⟨s1, e1⟩ := e0_passDay (c := clI g ng w day winter) H hn h st1
  exact ⟨s1, s2, by rw [e2, bdE2, e1, bdE2]; rfl⟩
theorem days_sim {kind mark horn brass open_ f g d err : Nat → Int32} {n nc ng mo w N : Nat} {winter : Int32} (hn : n ≤ 8) (hN : N ≤ 60) (h0 : d 0 = nI n) (h : TX f nc) (h2 : TD f nc 0 d) (hg : TX g ng) (hg2 : TD g ng 1 d) (hl : LD mo w d) (h5 : d 5 = winter) : ∀ (m k fu fu2 dy : Nat) (health dk st1 st2 names pile : Nat → Int32), k + m = N → m < fu → m < fu2 → FW kind mark horn brass open_ health → FD kind mark horn brass open_ health dk → dk 6 = nI dy → (∀ i, ¬ HP i → i ≠ 6 → dk i = d i) → ∃ health' st1' st2' d' names' pile', f_X6_days_L40 (nI n) kind mark open_ (nI w) winter 0 f (nI nc) 1 g (nI ng) err (nI N) fu health (nI dy) st1 st2 (nI k) = some (health', nI (dy + m), st1', st2', err, nI (pcN (lvN health' n))) ∧ f_X7_daysGo_L2 (nI N) fu2 dk names pile (nI k) = some (d', names', pile') ∧ FW kind mark horn brass open_ health' ∧ FD kind mark horn brass open_ health' d' ∧ d' 6 = nI (dy + m) ∧ ∀ i, ¬ HP i → i ≠ 6 → d' i = d i := by
  intro m
  induction m with
  | zero =>
    intro k fu fu2 dy health dk st1 st2 names pile hk hf hf2 H D h6 F
    obtain ⟨fu, rfl⟩ : ∃ q, fu = q + 1 := ⟨fu - 1, by omega⟩
    obtain ⟨fu2, rfl⟩ : ∃ q, fu2 = q + 1 := ⟨fu2 - 1, by omega⟩
    obtain rfl : k = N := by omega
    simp only [f_X6_days_L40, f_X7_daysGo_L2]
    rw [if_pos (nI_le (Nat.le_refl _) (by omega)), if_pos (nI_le (Nat.le_refl _) (by omega)), e0_living (fun p hp => (H p hp).2.2.2.2.2) hn, bdE1, pc_lv hn, bdE1]
    exact ⟨_, _, _, _, _, _, rfl, rfl, H, D, h6, F⟩
  | succ m ih =>
    intro k fu fu2 dy health dk st1 st2 names pile hk hf hf2 H D h6 F
    obtain ⟨fu, rfl⟩ : ∃ q, fu = q + 1 := ⟨fu - 1, by omega⟩
    obtain ⟨fu2, rfl⟩ : ∃ q, fu2 = q + 1 := ⟨fu2 - 1, by omega⟩
    simp only [f_X6_days_L40, f_X7_daysGo_L2]
    rw [if_neg (nI_ge (by omega) (by omega)), if_neg (nI_ge (by omega) (by omega))]
    obtain ⟨t1, t2, e1⟩ := e5_passDay (winter := winter) (day := nI dy) H hn h hg hl.w st1 st2
    obtain ⟨d', n1, p1, e2, D2, D6, F2⟩ := e7_day (n := n) (f := f) (g := g) (nc := nc) (ng := ng) (mo := mo) (w := w) (d := dk) H hn ((F 0 (by unfold HP; omega) (by decide)).trans h0) h (h2.frame (fun i hi => F i (by unfold HP; omega) (by omega))) hg (hg2.frame (fun i hi => F i (by unfold HP; omega) (by omega))) (hl.frame (fun i hi => F i (by unfold HP; omega) (by omega))) D names pile
    rw [h6, F 5 (by unfold HP; omega) (by decide), h5] at D2
    rw [h6, nI_1] at D6
    rw [e1, bdE4, e2, bdE3]
    simp only [nmE, nI_1]
    have R := ih (k + 1) fu fu2 (dy + 1) _ d' t1 t2 n1 p1 (by omega) (by omega) (by omega) H.day D2 D6 (fun i a b => (F2 i a b).trans (F i a b))
    rw [show dy + 1 + m = dy + (m + 1) by omega] at R
    exact R
theorem rngF {α : Type} {x c : Int32} {a b : α} (n : Nat) (hc : c.toInt = (n : Int) - 1) : (if x < 1 then a else (if x ≤ c then b else a)) = if inb x n = true ∧ x ≠ 0 then b else a := by
  simp only [Int32.lt_iff_toInt_lt, Int32.le_iff_toInt_le, show (1 : Int32).toInt = 1 from rfl]
  have e0 : x = 0 ↔ x.toInt = 0 := by
    rw [← Int32.toInt_inj]
    rfl
  by_cases h : inb x n = true ∧ x ≠ 0
  · rw [if_pos h]
    have h1 := inb_iff.mp h.1
    have h2 : x.toInt ≠ 0 := fun q => h.2 (e0.mpr q)
    rw [if_neg (by omega), if_pos (by omega)]
  · rw [if_neg h]
    by_cases h1 : x.toInt < 1
    · rw [if_pos h1]
    · rw [if_neg h1]
      by_cases h2 : x.toInt ≤ c.toInt
      · exact absurd ⟨inb_iff.mpr (by omega), fun q => by rw [e0.mp q] at h1; omega⟩ h
      · rw [if_neg h2]
theorem e7_in1 {x : Int32} {c : Int64} (n : Nat) (hc : c.toInt = (n : Int) - 1) : f_X7_in x.toInt64 1 c = some (if inb x n = true ∧ x ≠ 0 then 1 else 0) := by
  rw [e7_in]
  have hx : x.toInt64.toInt = x.toInt := Int32.toInt_toInt64 x
  have h1 : (1 : Int64).toInt = 1 := by decide
  have e0 : x = 0 ↔ x.toInt = 0 := by
    rw [← Int32.toInt_inj]
    rfl
  by_cases h : inb x n = true ∧ x ≠ 0
  · have h2 := inb_iff.mp h.1
    have h3 : x.toInt ≠ 0 := fun q => h.2 (e0.mpr q)
    rw [if_pos h, if_pos (by omega)]
  · rw [if_neg h, if_neg]
    intro q
    exact h ⟨inb_iff.mpr (by omega), fun e => by rw [e0.mp e] at hx; omega⟩
set_option maxHeartbeats 1000000 in
set_option maxRecDepth 10000 in
theorem st_days {c_now_folk_size : Int32} {c_now_folk_kind : Nat → Int32} {c_now_folk_mark : Nat → Int32} {c_now_folk_horn : Nat → Int32} {c_now_folk_brass : Nat → Int32} {c_now_folk_open : Nat → Int32} {c_now_folk_health : Nat → Int32} {c_now_motions : Int32} {c_now_quorum : Nat → Int32} {c_now_favour : Nat → Int32} {c_now_laws : Int32} {c_now_urnHorn : Int32} {c_now_urnBrass : Int32} {c_now_thread : Int32} {c_now_winter : Int32} {c_now_day : Int32} {c_now_chill_use : Int32} {c_now_chill_codes : Nat → Int32} {c_now_chill_size : Int32} {c_now_chill_stack : Nat → Int32} {c_now_cold_use : Int32} {c_now_cold_codes : Nat → Int32} {c_now_cold_size : Int32} {c_now_cold_stack : Nat → Int32} {c_now_tape : Nat → Int32} {c_now_taped : Int32} {c_now_z : Int32} {c_now_waiting : Nat → Int32} {c_now_waits : Int32} {c_kept_folk_size : Int32} {c_kept_folk_kind : Nat → Int32} {c_kept_folk_mark : Nat → Int32} {c_kept_folk_horn : Nat → Int32} {c_kept_folk_brass : Nat → Int32} {c_kept_folk_open : Nat → Int32} {c_kept_folk_health : Nat → Int32} {c_kept_motions : Int32} {c_kept_quorum : Nat → Int32} {c_kept_favour : Nat → Int32} {c_kept_laws : Int32} {c_kept_urnHorn : Int32} {c_kept_urnBrass : Int32} {c_kept_thread : Int32} {c_kept_winter : Int32} {c_kept_day : Int32} {c_kept_chill_use : Int32} {c_kept_chill_codes : Nat → Int32} {c_kept_chill_size : Int32} {c_kept_cold_use : Int32} {c_kept_cold_codes : Nat → Int32} {c_kept_cold_size : Int32} {c_kept_tape : Nat → Int32} {c_kept_taped : Int32} {c_kept_z : Int32} {c_kept_waiting : Nat → Int32} {c_kept_waits : Int32} {c_voices_traces : Nat → Int32} {c_voices_traced : Int32} {c_sh_bits : Nat → Int32} {c_sh_size : Nat → Int32} {c_sh_numbers : Nat → Nat → Int32} {c_errors : Nat → Int32} {c_images : Int32} {m_d : Nat → Int32} {m_kept : Nat → Int32} {m_images : Int32} {m_found : Nat → Int32} {m_names : Nat → Int32} {m_pile : Nat → Int32} {m_traced : Nat → Int32} {m_traceMany : Int32} {m_bitsOf : Nat → Int32} {m_sizeOf : Nat → Int32} {m_number : Nat → Int32} (R : Rel c_now_folk_size c_now_folk_kind c_now_folk_mark c_now_folk_horn c_now_folk_brass c_now_folk_open c_now_folk_health c_now_motions c_now_quorum c_now_favour c_now_laws c_now_urnHorn c_now_urnBrass c_now_thread c_now_winter c_now_day c_now_chill_use c_now_chill_codes c_now_chill_size c_now_cold_use c_now_cold_codes c_now_cold_size c_now_tape c_now_taped c_now_z c_now_waiting c_now_waits c_kept_folk_size c_kept_folk_kind c_kept_folk_mark c_kept_folk_horn c_kept_folk_brass c_kept_folk_open c_kept_folk_health c_kept_motions c_kept_quorum c_kept_favour c_kept_laws c_kept_urnHorn c_kept_urnBrass c_kept_thread c_kept_winter c_kept_day c_kept_chill_use c_kept_chill_codes c_kept_chill_size c_kept_cold_use c_kept_cold_codes c_kept_cold_size c_kept_tape c_kept_taped c_kept_z c_kept_waiting c_kept_waits c_voices_traces c_voices_traced c_sh_bits c_sh_size c_sh_numbers c_errors c_images m_d m_kept m_images m_found m_traced m_traceMany m_bitsOf m_sizeOf m_number) (p0 : Int32) : ∃ (x_now_folk_health : Nat → Int32) (x_now_day : Int32) (x_now_chill_stack : Nat → Int32) (x_now_cold_stack : Nat → Int32) (x_errors : Nat → Int32) (r : Int32) (y_d : Nat → Int32) (y_found : Nat → Int32) (y_names : Nat → Int32) (y_pile : Nat → Int32), f_X6_days c_now_folk_size c_now_folk_kind c_now_folk_mark c_now_folk_open c_now_folk_health c_now_laws c_now_winter c_now_day c_now_chill_use c_now_chill_codes c_now_chill_size c_now_chill_stack c_now_cold_use c_now_cold_codes c_now_cold_size c_now_cold_stack c_errors p0 = some (x_now_folk_health, x_now_day, x_now_chill_stack, x_now_cold_stack, x_errors, r) ∧ f_X7_days m_d m_found m_names m_pile p0 = some (y_d, y_found, y_names, y_pile, r) ∧ Rel c_now_folk_size c_now_folk_kind c_now_folk_mark c_now_folk_horn c_now_folk_brass c_now_folk_open x_now_folk_health c_now_motions c_now_quorum c_now_favour c_now_laws c_now_urnHorn c_now_urnBrass c_now_thread c_now_winter x_now_day c_now_chill_use c_now_chill_codes c_now_chill_size c_now_cold_use c_now_cold_codes c_now_cold_size c_now_tape c_now_taped c_now_z c_now_waiting c_now_waits c_kept_folk_size c_kept_folk_kind c_kept_folk_mark c_kept_folk_horn c_kept_folk_brass c_kept_folk_open c_kept_folk_health c_kept_motions c_kept_quorum c_kept_favour c_kept_laws c_kept_urnHorn c_kept_urnBrass c_kept_thread c_kept_winter c_kept_day c_kept_chill_use c_kept_chill_codes c_kept_chill_size c_kept_cold_use c_kept_cold_codes c_kept_cold_size c_kept_tape c_kept_taped c_kept_z c_kept_waiting c_kept_waits c_voices_traces c_voices_traced c_sh_bits c_sh_size c_sh_numbers x_errors c_images y_d m_kept m_images y_found m_traced m_traceMany m_bitsOf m_sizeOf m_number := by
  obtain ⟨⟨hPp, hMo, hSc, hTa, hWa, hUs, hCh, hCo⟩, hIm, hKe, hKu, hEr, hTr, hTn, hTg, hSh⟩ := R
  subst hEr
  obtain ⟨n, hn, hsz, hD0, H, D⟩ := PplR_out hPp
  subst hsz
  obtain ⟨mo, w, hmo, hlw, hL, hQ⟩ := MotR_out hMo
  subst hmo
  subst hlw
  have hmo6 : mo ≤ 6 := hL.1
  have hUs0 := hUs
  obtain ⟨hU0, hU1⟩ := hUs0
  subst hU0
  subst hU1
  obtain ⟨nc, hnc, hX, hY⟩ := TextR_0 hCh
  subst hnc
  obtain ⟨ng, hng, hX1, hY1⟩ := TextR_1 hCo
  subst hng
  have hSc0 := hSc
  obtain ⟨u1, u2, u3, u4, ⟨u5, ⟨dy, hdy, hdv⟩⟩, u6⟩ := hSc0
  by_cases hp : inb p0 61 = true ∧ p0 ≠ 0
  · obtain ⟨N, hN, rfl⟩ := inb_of hp.1 (by decide)
    by_cases hd : dy + N ≤ 9999
    · obtain ⟨health', s1, s2, d', names', pile', e1, e2, H', D', h6, F⟩ := days_sim (err := c_errors) (N := N) hn (by omega) hD0 hX hY hX1 hY1 hL u4.1 N 0 300 300 dy c_now_folk_health m_d c_now_chill_stack c_now_cold_stack m_names m_pile (by omega) (by omega) (by omega) H D (u5.trans hdv) (fun i _ _ => rfl)
      refine ⟨?_, ?_, ?_, ?_, ?_, ?_, ?_, ?_, ?_, ?_, ?c, ?m, ?r⟩
      case c =>
        simp only [f_X6_days, jnE]
        rw [rngF 61 (by decide), if_pos hp, hdv, nI_add, if_pos (show nI (dy + N) ≤ (9999 : Int32) from nI_le (b := 9999) hd (by decide))]
        exact e1
      case m =>
        simp only [f_X7_days]
        rw [e7_in1 61 (by decide), bdE1, b01, if_pos hp, rdA_i (i := 6) (k := 6) rfl (by decide), u5, hdv, nI_add, if_pos (show nI (dy + N) ≤ (9999 : Int32) from nI_le (b := 9999) hd (by decide))]
        unfold f_X7_daysGo
        rw [show f_X7_daysGo_L2 (nI N) 300 m_d m_names m_pile 0 = _ from e2, bdE3, e7_alive (fun p hp => (D' p hp).2.2.2.2.2) ((F 0 (by unfold HP; omega) (by decide)).trans hD0) hn, bdE1]
      case r =>
        obtain ⟨hTa', hWa', hCh', hCo'⟩ := rest_fr hTa hWa hCh hCo (fun i hi => F i (by unfold HP; omega) (by omega))
        refine ⟨⟨PplR_of hn ((F 0 (by unfold HP; omega) (by decide)).trans hD0) H' D', hMo.frame (fun i hi => F i (by unfold HP; omega) (by omega)), ⟨by rw [F 2 (by unfold HP; omega) (by decide)]; exact u1, by rw [F 3 (by unfold HP; omega) (by decide)]; exact u2, by rw [F 4 (by unfold HP; omega) (by decide)]; exact u3, by rw [F 5 (by unfold HP; omega) (by decide)]; exact u4, ⟨h6, ⟨_, hd, rfl⟩⟩, by rw [F 7 (by unfold HP; omega) (by decide)]; exact u6⟩, hTa', hWa', hUs, hCh', hCo'⟩, hIm, hKe, hKu, rfl, hTr, hTn, hTg, hSh⟩
    · refine ⟨?_, ?_, ?_, ?_, ?_, ?_, ?_, ?_, ?_, ?_, ?c, ?m, ?r⟩
      case c =>
        simp only [f_X6_days, jnE]
        rw [rngF 61 (by decide), if_pos hp, hdv, nI_add, if_neg (show ¬ nI (dy + N) ≤ (9999 : Int32) from nI_ge (a := 9999) (by omega) (by omega)), ef3]
        rfl
      case m =>
        simp only [f_X7_days]
        rw [e7_in1 61 (by decide), bdE1, b01, if_pos hp, rdA_i (i := 6) (k := 6) rfl (by decide), u5, hdv, nI_add, if_neg (show ¬ nI (dy + N) ≤ (9999 : Int32) from nI_ge (a := 9999) (by omega) (by omega)), eg3]
        rfl
      case r =>
        rw [← hdv]
        exact ⟨⟨hPp, hMo, hSc, hTa, hWa, hUs, hCh, hCo⟩, hIm, hKe, hKu, rfl, hTr, hTn, hTg, hSh⟩
  · refine ⟨?_, ?_, ?_, ?_, ?_, ?_, ?_, ?_, ?_, ?_, ?c, ?m, ?r⟩
    case c =>
      simp only [f_X6_days, jnE]
      rw [rngF 61 (by decide), if_neg hp, ef1]
      rfl
    case m =>
      simp only [f_X7_days]
      rw [e7_in1 61 (by decide), bdE1, b01, if_neg hp, eg1]
      rfl
    case r => exact ⟨⟨hPp, hMo, hSc, hTa, hWa, hUs, hCh, hCo⟩, hIm, hKe, hKu, rfl, hTr, hTn, hTg, hSh⟩
