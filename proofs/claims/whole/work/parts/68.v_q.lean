/-! who can have voted -/
theorem two8 {n : Nat} (hn : n ≤ 8) : (1 : Int32) <<< (nI n &&& 31) = nI (2 ^ n) ∧ 2 ^ n ≤ 256 := by
  revert n
  decide +kernel
theorem shx0 {j : Nat} : (40 : Int32) * nI j = nI (40 * j) := pk_mul 40 j
theorem sel_rg {g : Nat → Int32} {s : Int32} {p : Nat} (h : rg 2 (g p)) : rg 2 (selI s g p) := by
  unfold selI
  split
  · exact ⟨0, by decide, rfl⟩
  · exact h
theorem e7_votedP {kind mark horn brass open_ health d : Nat → Int32} {n : Nat} (H : FW kind mark horn brass open_ health) (D : FD kind mark horn brass open_ health d) (h0 : d 0 = nI n) (hn : n ≤ 8) (s : Int32) (J : Int32 → Int32 → Int32 → Int32 → Option ((Nat → Int32) × (Int32) × (Int32) × (Int32))) (a b : Int32) : ∃ a' b', f_X7_voted_L78 d s J 300 a b 0 0 0 = J a' b' (smI (selI s (cH kind horn brass health)) n) (smI (selI s (cB kind horn brass health)) n) := by
  have L : ∀ (m k fu : Nat) (a b : Int32), k + m = n → m < fu → ∃ a' b', f_X7_voted_L78 d s J fu a b (smI (selI s (cH kind horn brass health)) k) (smI (selI s (cB kind horn brass health)) k) (nI k) = J a' b' (smI (selI s (cH kind horn brass health)) n) (smI (selI s (cB kind horn brass health)) n) := by
    intro m
    induction m with
    | zero =>
      intro k fu a b hk hf
      obtain ⟨fu, rfl⟩ : ∃ q, fu = q + 1 := ⟨fu - 1, by omega⟩
      obtain rfl : k = n := by omega
      simp only [f_X7_voted_L78]
      rw [rdA_i (i := 0) (k := 0) rfl (by decide), h0, if_pos (nI_le (Nat.le_refl _) (by omega))]
      exact ⟨_, _, rfl⟩
    | succ m ih =>
      intro k fu a b hk hf
      obtain ⟨fu, rfl⟩ : ∃ q, fu = q + 1 := ⟨fu - 1, by omega⟩
      obtain ⟨a1, a2, a3, a4, a5, a6⟩ := H k (by omega)
      obtain ⟨d1, d2, d3, d4, d5, d6⟩ := D k (by omega)
      simp only [f_X7_voted_L78, jnE, nmE, nI_1]
      rw [rdA_i (i := 0) (k := 0) rfl (by decide), h0, if_neg (nI_ge (by omega) (by omega))]
      rcases bt01 s (nI k) with z | z
      · rw [if_neg (show ¬ (s >>> (nI k &&& 31)) &&& 1 = 1 from fun q => absurd (z.symm.trans q) (by decide))]
        have R := ih (k + 1) fu a b (by omega) (by omega)
        rw [sm_z (if_pos z), sm_z (if_pos z)] at R
        exact R
      · rw [if_pos (show (s >>> (nI k &&& 31)) &&& 1 = 1 from z), e7_cuts (d := d) (by omega) (by rw [d1]; exact a1) (by rw [d3]; exact a3) (by rw [d4]; exact a4) (by rw [d6]; exact a6), bdE2, d1, d3, d4, d6]
        have R := ih (k + 1) fu (cH kind horn brass health k) (cB kind horn brass health k) (by omega) (by omega)
        have z2 : ¬ btI s (nI k) = 0 := by rw [z]; decide
        rw [← sm_s (if_neg z2), ← sm_s (if_neg z2)] at R
        exact R
  exact L n 0 300 a b (by omega) (by omega)
set_option maxHeartbeats 1000000 in
set_option maxRecDepth 10000 in
theorem st_voted {c_now_folk_size : Int32} {c_now_folk_kind : Nat → Int32} {c_now_folk_mark : Nat → Int32} {c_now_folk_horn : Nat → Int32} {c_now_folk_brass : Nat → Int32} {c_now_folk_open : Nat → Int32} {c_now_folk_health : Nat → Int32} {c_now_motions : Int32} {c_now_quorum : Nat → Int32} {c_now_favour : Nat → Int32} {c_now_laws : Int32} {c_now_urnHorn : Int32} {c_now_urnBrass : Int32} {c_now_thread : Int32} {c_now_winter : Int32} {c_now_day : Int32} {c_now_chill_use : Int32} {c_now_chill_codes : Nat → Int32} {c_now_chill_size : Int32} {c_now_cold_use : Int32} {c_now_cold_codes : Nat → Int32} {c_now_cold_size : Int32} {c_now_tape : Nat → Int32} {c_now_taped : Int32} {c_now_z : Int32} {c_now_waiting : Nat → Int32} {c_now_waits : Int32} {c_kept_folk_size : Int32} {c_kept_folk_kind : Nat → Int32} {c_kept_folk_mark : Nat → Int32} {c_kept_folk_horn : Nat → Int32} {c_kept_folk_brass : Nat → Int32} {c_kept_folk_open : Nat → Int32} {c_kept_folk_health : Nat → Int32} {c_kept_motions : Int32} {c_kept_quorum : Nat → Int32} {c_kept_favour : Nat → Int32} {c_kept_laws : Int32} {c_kept_urnHorn : Int32} {c_kept_urnBrass : Int32} {c_kept_thread : Int32} {c_kept_winter : Int32} {c_kept_day : Int32} {c_kept_chill_use : Int32} {c_kept_chill_codes : Nat → Int32} {c_kept_chill_size : Int32} {c_kept_cold_use : Int32} {c_kept_cold_codes : Nat → Int32} {c_kept_cold_size : Int32} {c_kept_tape : Nat → Int32} {c_kept_taped : Int32} {c_kept_z : Int32} {c_kept_waiting : Nat → Int32} {c_kept_waits : Int32} {c_voices_traces : Nat → Int32} {c_voices_traced : Int32} {c_sh_bits : Nat → Int32} {c_sh_size : Nat → Int32} {c_sh_numbers : Nat → Nat → Int32} {c_errors : Nat → Int32} {c_images : Int32} {m_d : Nat → Int32} {m_kept : Nat → Int32} {m_images : Int32} {m_found : Nat → Int32} {m_horn : Int32} {m_brass : Int32} {m_traced : Nat → Int32} {m_traceMany : Int32} {m_bitsOf : Nat → Int32} {m_sizeOf : Nat → Int32} {m_number : Nat → Int32} (R : Rel c_now_folk_size c_now_folk_kind c_now_folk_mark c_now_folk_horn c_now_folk_brass c_now_folk_open c_now_folk_health c_now_motions c_now_quorum c_now_favour c_now_laws c_now_urnHorn c_now_urnBrass c_now_thread c_now_winter c_now_day c_now_chill_use c_now_chill_codes c_now_chill_size c_now_cold_use c_now_cold_codes c_now_cold_size c_now_tape c_now_taped c_now_z c_now_waiting c_now_waits c_kept_folk_size c_kept_folk_kind c_kept_folk_mark c_kept_folk_horn c_kept_folk_brass c_kept_folk_open c_kept_folk_health c_kept_motions c_kept_quorum c_kept_favour c_kept_laws c_kept_urnHorn c_kept_urnBrass c_kept_thread c_kept_winter c_kept_day c_kept_chill_use c_kept_chill_codes c_kept_chill_size c_kept_cold_use c_kept_cold_codes c_kept_cold_size c_kept_tape c_kept_taped c_kept_z c_kept_waiting c_kept_waits c_voices_traces c_voices_traced c_sh_bits c_sh_size c_sh_numbers c_errors c_images m_d m_kept m_images m_found m_traced m_traceMany m_bitsOf m_sizeOf m_number) (p0 : Int32) (p1 : Int32) : ∃ (x_errors : Nat → Int32) (r : Int32) (y_found : Nat → Int32) (y_horn : Int32) (y_brass : Int32), f_X6_voted c_now_folk_size c_now_folk_kind c_now_folk_horn c_now_folk_brass c_now_folk_health c_sh_bits c_sh_size c_sh_numbers c_errors p0 p1 = some (x_errors, r) ∧ f_X7_voted m_d m_found m_horn m_brass m_bitsOf m_sizeOf m_number p0 p1 = some (y_found, y_horn, y_brass, r) ∧ Rel c_now_folk_size c_now_folk_kind c_now_folk_mark c_now_folk_horn c_now_folk_brass c_now_folk_open c_now_folk_health c_now_motions c_now_quorum c_now_favour c_now_laws c_now_urnHorn c_now_urnBrass c_now_thread c_now_winter c_now_day c_now_chill_use c_now_chill_codes c_now_chill_size c_now_cold_use c_now_cold_codes c_now_cold_size c_now_tape c_now_taped c_now_z c_now_waiting c_now_waits c_kept_folk_size c_kept_folk_kind c_kept_folk_mark c_kept_folk_horn c_kept_folk_brass c_kept_folk_open c_kept_folk_health c_kept_motions c_kept_quorum c_kept_favour c_kept_laws c_kept_urnHorn c_kept_urnBrass c_kept_thread c_kept_winter c_kept_day c_kept_chill_use c_kept_chill_codes c_kept_chill_size c_kept_cold_use c_kept_cold_codes c_kept_cold_size c_kept_tape c_kept_taped c_kept_z c_kept_waiting c_kept_waits c_voices_traces c_voices_traced c_sh_bits c_sh_size c_sh_numbers x_errors c_images m_d m_kept m_images y_found m_traced m_traceMany m_bitsOf m_sizeOf m_number := by
  obtain ⟨⟨hPp, hMo, hSc, hTa, hWa, hUs, hCh, hCo⟩, hIm, hKe, hKu, hEr, hTr, hTn, hTg, hSh⟩ := R
  subst hEr
  obtain ⟨n, hn, hsz, hD0, H, D⟩ := PplR_out hPp
  subst hsz
  by_cases hp : inb p0 4 = true
  · obtain ⟨j, hj, rfl⟩ := inb_of hp (by decide)
    obtain ⟨s1, s2, s3, ⟨s, hs2, hs⟩, s5⟩ := hSh j hj
    by_cases hp1 : inb p1 2 = true
    · by_cases hz : c_sh_bits j = 0
      · refine ⟨?_, ?_, ?_, ?_, ?_, ?c, ?q7, ?r⟩
        case c =>
          simp only [f_X6_voted, e6_sheet, bdE1, jnE]
          rw [if_pos hp, if_neg (by decide), rngC 2 (by decide), if_pos hp1, shA_i hj, if_pos hz, ef2]
          rfl
        case q7 =>
          simp only [f_X7_voted, e7_sheet, bdE1, jnE]
          rw [if_pos hp, if_neg (by decide), e7_inb 2 (by decide), bdE1, b01, if_pos hp1, rdA_i rfl hj, ← s1, if_pos hz, eg2]
          rfl
        case r => exact ⟨⟨hPp, hMo, hSc, hTa, hWa, hUs, hCh, hCo⟩, hIm, hKe, hKu, rfl, hTr, hTn, hTg, hSh⟩
      · by_cases h2 : c_sh_size j = 2
        · obtain ⟨tw, tw2⟩ := two8 hn
          have L : ∀ (J6 : Int32 → Int32 → Option ((Nat → Int32) × (Int32))) (J7 : Int32 → Int32 → Int32 → Int32 → Option ((Nat → Int32) × (Int32) × (Int32) × (Int32))) (m k fu fu2 : Nat) (acc least a b : Int32), k + m = 2 ^ n → m < fu → m < fu2 → ∃ acc' least' a' b', f_X6_voted_L60 (nI n) c_now_folk_kind c_now_folk_horn c_now_folk_brass c_now_folk_health c_sh_numbers j J6 fu acc least (nI k) = J6 acc' least' ∧ f_X7_voted_L56 m_d m_number (nI j) J7 fu2 a b acc least (nI k) = J7 a' b' acc' least' := by
            intro J6 J7 m
            induction m with
            | zero =>
              intro k fu fu2 acc least a b hk hf hf2
              obtain ⟨fu, rfl⟩ : ∃ q, fu = q + 1 := ⟨fu - 1, by omega⟩
              obtain ⟨fu2, rfl⟩ : ∃ q, fu2 = q + 1 := ⟨fu2 - 1, by omega⟩
              simp only [f_X6_voted_L60, f_X7_voted_L56]
              rw [tw, if_pos (nI_le (by omega) (by omega)), rdA_i (i := 0) (k := 0) rfl (by decide), hD0, tw, if_pos (nI_le (by omega) (by omega))]
              exact ⟨_, _, _, _, rfl, rfl⟩
            | succ m ih =>
              intro k fu fu2 acc least a b hk hf hf2
              obtain ⟨fu, rfl⟩ : ∃ q, fu = q + 1 := ⟨fu - 1, by omega⟩
              obtain ⟨fu2, rfl⟩ : ∃ q, fu2 = q + 1 := ⟨fu2 - 1, by omega⟩
              have rh := sm_rg (g := selI (nI k) (cH c_now_folk_kind c_now_folk_horn c_now_folk_brass c_now_folk_health)) (n := n) hn (fun p hp => sel_rg (cH_rg H (show p < 8 by omega)).1)
              have rb := sm_rg (g := selI (nI k) (cB c_now_folk_kind c_now_folk_horn c_now_folk_brass c_now_folk_health)) (n := n) hn (fun p hp => sel_rg (cH_rg H (show p < 8 by omega)).2.1)
              obtain ⟨v1, hv1, ev1⟩ := rh
              obtain ⟨v2, hv2, ev2⟩ := rb
              have N0 : c_sh_numbers j 0 = nI v1 ↔ m_number (40 * j) = nI v1 := nu_eq (s5 0 (by decide)) (v := nI v1) ⟨v1, by omega, rfl⟩
              have N1 := nu_eq (s5 1 (by decide)) (v := nI v2) ⟨v2, by omega, rfl⟩
              simp only [f_X6_voted_L60, f_X7_voted_L56, nmE, nI_1]
              obtain ⟨a', b', e3⟩ := e7_votedP H D hD0 hn (nI k) (fun v_horn_21 v_brass_22 l6_23 l7_24 => rdA 160 m_number (40 * nI j) (fun x_25 => jnA (fun (t0_26 : Int32) => jnA (fun (t0_27 : Int32) => jnA (fun (t0_29 : Int32) => f_X7_voted_L56 m_d m_number (nI j) J7 fu2 v_horn_21 v_brass_22 (acc + t0_27) t0_29 (nI (k + 1))) (fun J197 => jnA (J197 least) (fun J195 => (if t0_26 = 0 then J195 else (if 0 ≤ least then J195 else J197 (nI k)))))) (fun J178 => (if t0_26 = 0 then J178 0 else J178 1))) (fun J165 => jnA (J165 0) (fun J164 => (if l6_23 = x_25 then rdA 160 m_number ((40 * nI j) + 1) (fun x_31 => (if l7_24 = x_31 then J165 1 else J164)) else J164))))) a b
              have e4 : ∀ X, X = rdA 160 m_number (40 * nI j) (fun x_25 => (if nI v1 = x_25 then rdA 160 m_number ((40 * nI j) + 1) (fun x_31 => (if nI v2 = x_31 then f_X7_voted_L56 m_d m_number (nI j) J7 fu2 a' b' (acc + 1) (if 0 ≤ least then least else nI k) (nI (k + 1)) else f_X7_voted_L56 m_d m_number (nI j) J7 fu2 a' b' acc least (nI (k + 1)))) else f_X7_voted_L56 m_d m_number (nI j) J7 fu2 a' b' acc least (nI (k + 1)))) → f_X7_voted_L78 m_d (nI k) (fun v_horn_21 v_brass_22 l6_23 l7_24 => rdA 160 m_number (40 * nI j) (fun x_25 => jnA (fun (t0_26 : Int32) => jnA (fun (t0_27 : Int32) => jnA (fun (t0_29 : Int32) => f_X7_voted_L56 m_d m_number (nI j) J7 fu2 v_horn_21 v_brass_22 (acc + t0_27) t0_29 (nI (k + 1))) (fun J197 => jnA (J197 least) (fun J195 => (if t0_26 = 0 then J195 else (if 0 ≤ least then J195 else J197 (nI k)))))) (fun J178 => (if t0_26 = 0 then J178 0 else J178 1))) (fun J165 => jnA (J165 0) (fun J164 => (if l6_23 = x_25 then rdA 160 m_number ((40 * nI j) + 1) (fun x_31 => (if l7_24 = x_31 then J165 1 else J164)) else J164))))) 300 a b 0 0 0 = X := by
                intro X hX
                refine e3.trans ?_
                rw [hX, ev1, ev2]
                have c1 : ∀ (x y : Option ((Nat → Int32) × (Int32) × (Int32) × (Int32))), (if (1 : Int32) = 0 then x else y) = y := fun x y => if_neg (by decide)
                have c0 : ∀ (x y : Option ((Nat → Int32) × (Int32) × (Int32) × (Int32))), (if (0 : Int32) = 0 then x else y) = x := fun x y => if_pos rfl
                show rdA 160 m_number (40 * nI j) (fun x_25 => (if nI v1 = x_25 then rdA 160 m_number ((40 * nI j) + 1) (fun x_31 => (if nI v2 = x_31 then (if (1 : Int32) = 0 then (if (1 : Int32) = 0 then f_X7_voted_L56 m_d m_number (nI j) J7 fu2 a' b' (acc + 0) least (nI (k + 1)) else (if 0 ≤ least then f_X7_voted_L56 m_d m_number (nI j) J7 fu2 a' b' (acc + 0) least (nI (k + 1)) else f_X7_voted_L56 m_d m_number (nI j) J7 fu2 a' b' (acc + 0) (nI k) (nI (k + 1)))) else (if (1 : Int32) = 0 then f_X7_voted_L56 m_d m_number (nI j) J7 fu2 a' b' (acc + 1) least (nI (k + 1)) else (if 0 ≤ least then f_X7_voted_L56 m_d m_number (nI j) J7 fu2 a' b' (acc + 1) least (nI (k + 1)) else f_X7_voted_L56 m_d m_number (nI j) J7 fu2 a' b' (acc + 1) (nI k) (nI (k + 1))))) else (if (0 : Int32) = 0 then (if (0 : Int32) = 0 then f_X7_voted_L56 m_d m_number (nI j) J7 fu2 a' b' (acc + 0) least (nI (k + 1)) else (if 0 ≤ least then f_X7_voted_L56 m_d m_number (nI j) J7 fu2 a' b' (acc + 0) least (nI (k + 1)) else f_X7_voted_L56 m_d m_number (nI j) J7 fu2 a' b' (acc + 0) (nI k) (nI (k + 1)))) else (if (0 : Int32) = 0 then f_X7_voted_L56 m_d m_number (nI j) J7 fu2 a' b' (acc + 1) least (nI (k + 1)) else (if 0 ≤ least then f_X7_voted_L56 m_d m_number (nI j) J7 fu2 a' b' (acc + 1) least (nI (k + 1)) else f_X7_voted_L56 m_d m_number (nI j) J7 fu2 a' b' (acc + 1) (nI k) (nI (k + 1))))))) else (if (0 : Int32) = 0 then (if (0 : Int32) = 0 then f_X7_voted_L56 m_d m_number (nI j) J7 fu2 a' b' (acc + 0) least (nI (k + 1)) else (if 0 ≤ least then f_X7_voted_L56 m_d m_number (nI j) J7 fu2 a' b' (acc + 0) least (nI (k + 1)) else f_X7_voted_L56 m_d m_number (nI j) J7 fu2 a' b' (acc + 0) (nI k) (nI (k + 1)))) else (if (0 : Int32) = 0 then f_X7_voted_L56 m_d m_number (nI j) J7 fu2 a' b' (acc + 1) least (nI (k + 1)) else (if 0 ≤ least then f_X7_voted_L56 m_d m_number (nI j) J7 fu2 a' b' (acc + 1) least (nI (k + 1)) else f_X7_voted_L56 m_d m_number (nI j) J7 fu2 a' b' (acc + 1) (nI k) (nI (k + 1))))))) = _
                simp only [c1, c0, Int32.add_zero, ↓reduceIte]
                by_cases y : 0 ≤ least
                · simp only [if_pos y]
                · simp only [if_neg y]
              rw [tw, if_neg (nI_ge (by omega) (by omega)), e0_hornOf (nI k) H hn, bdE1, rdA_i (i := 0) (k := 0) rfl (by decide), e0_brassOf (nI k) H hn, rdA_i (i := 0) (k := 0) rfl (by decide), hD0, tw, if_neg (nI_ge (by omega) (by omega))]
              rw [jnE, jnE, jnE, show f_X7_voted_L78 m_d (nI k) _ 300 a b 0 0 0 = _ from e4 _ rfl]
              rw [rdA_i shx0 (by omega), ev1, ev2]
              simp only [jnE, bdE1]
              by_cases z0 : nI v1 = c_sh_numbers j 0
              · rw [if_pos z0, if_pos (N0.mp z0.symm).symm, rdA_i (i := 1) (k := 1) rfl (by decide), rdA_i (show (40 : Int32) * nI j + 1 = nI (40 * j + 1) from shx (i := 1)) (by omega)]
                by_cases z1 : nI v2 = c_sh_numbers j 1
                · rw [if_pos z1, if_pos (N1.mp z1.symm).symm]
                  by_cases y : 0 ≤ least
                  · rw [if_pos y, if_pos y]
                    exact ih (k + 1) fu fu2 _ _ a' b' (by omega) (by omega) (by omega)
                  · rw [if_neg y, if_neg y]
                    exact ih (k + 1) fu fu2 _ _ a' b' (by omega) (by omega) (by omega)
                · rw [if_neg z1, if_neg (fun q => z1 (N1.mpr q.symm).symm)]
                  exact ih (k + 1) fu fu2 _ _ a' b' (by omega) (by omega) (by omega)
              · rw [if_neg z0, if_neg (fun q => z0 (N0.mpr q.symm).symm)]
                exact ih (k + 1) fu fu2 _ _ a' b' (by omega) (by omega) (by omega)
          obtain ⟨acc', least', a', b', e1, e2⟩ := L (fun l4_7 l5_8 => (if p1 = 0 then some (c_errors, l4_7) else (if 0 ≤ l5_8 then some (c_errors, l5_8) else bd2 (f_X6_fail c_errors 2) (fun v_errors_9 r_10 => some (v_errors_9, r_10))))) (fun v_horn_9 v_brass_10 l3_11 l4_12 => (if p1 = 0 then some (c_errors, v_horn_9, v_brass_10, l3_11) else (if 0 ≤ l4_12 then some (c_errors, v_horn_9, v_brass_10, l4_12) else bd2 (f_X7_finds c_errors 2) (fun v_found_13 r_14 => some (v_found_13, v_horn_9, v_brass_10, r_14))))) (2 ^ n) 0 300 300 0 (-1) m_horn m_brass (by omega) (by omega) (by omega)
          have cc : ∀ X, (if p1 = 0 then some (c_errors, acc') else (if 0 ≤ least' then some (c_errors, least') else bd2 (f_X6_fail c_errors 2) (fun v_errors_9 r_10 => some (v_errors_9, r_10)))) = X → f_X6_voted (nI n) c_now_folk_kind c_now_folk_horn c_now_folk_brass c_now_folk_health c_sh_bits c_sh_size c_sh_numbers c_errors (nI j) p1 = X := by
            intro X hX
            simp only [f_X6_voted, e6_sheet, bdE1, jnE]
            rw [if_pos hp, if_neg (by decide), rngC 2 (by decide), if_pos hp1, shA_i hj, if_neg hz, if_pos h2, ← hX]
            exact e1
          have cm : ∀ X, (if p1 = 0 then some (c_errors, a', b', acc') else (if 0 ≤ least' then some (c_errors, a', b', least') else bd2 (f_X7_finds c_errors 2) (fun v_found_13 r_14 => some (v_found_13, a', b', r_14)))) = X → f_X7_voted m_d c_errors m_horn m_brass m_bitsOf m_sizeOf m_number (nI j) p1 = X := by
            intro X hX
            simp only [f_X7_voted, e7_sheet, bdE1, jnE]
            rw [if_pos hp, if_neg (by decide), e7_inb 2 (by decide), bdE1, b01, if_pos hp1, rdA_i rfl hj, ← s1, if_neg hz, rdA_i rfl hj, ← s2, if_pos h2, ← hX]
            exact e2
          by_cases z : p1 = 0
          · refine ⟨?_, ?_, ?_, ?_, ?_, ?c, ?q7, ?r⟩
            case c => rw [cc _ rfl, if_pos z]
            case q7 => rw [cm _ rfl, if_pos z]
            case r => exact ⟨⟨hPp, hMo, hSc, hTa, hWa, hUs, hCh, hCo⟩, hIm, hKe, hKu, rfl, hTr, hTn, hTg, hSh⟩
          · by_cases y : 0 ≤ least'
            · refine ⟨?_, ?_, ?_, ?_, ?_, ?c, ?q7, ?r⟩
              case c => rw [cc _ rfl, if_neg z, if_pos y]
              case q7 => rw [cm _ rfl, if_neg z, if_pos y]
              case r => exact ⟨⟨hPp, hMo, hSc, hTa, hWa, hUs, hCh, hCo⟩, hIm, hKe, hKu, rfl, hTr, hTn, hTg, hSh⟩
            · refine ⟨?_, ?_, ?_, ?_, ?_, ?c, ?q7, ?r⟩
              case c => rw [cc _ rfl, if_neg z, if_neg y, ef2]; rfl
              case q7 => rw [cm _ rfl, if_neg z, if_neg y, eg2]; rfl
              case r => exact ⟨⟨hPp, hMo, hSc, hTa, hWa, hUs, hCh, hCo⟩, hIm, hKe, hKu, rfl, hTr, hTn, hTg, hSh⟩
        · refine ⟨?_, ?_, ?_, ?_, ?_, ?c, ?q7, ?r⟩
          case c =>
            simp only [f_X6_voted, e6_sheet, bdE1, jnE]
            rw [if_pos hp, if_neg (by decide), rngC 2 (by decide), if_pos hp1, shA_i hj, if_neg hz, if_neg h2, ef2]
            rfl
          case q7 =>
            simp only [f_X7_voted, e7_sheet, bdE1, jnE]
            rw [if_pos hp, if_neg (by decide), e7_inb 2 (by decide), bdE1, b01, if_pos hp1, rdA_i rfl hj, ← s1, if_neg hz, rdA_i rfl hj, ← s2, if_neg h2, eg2]
            rfl
          case r => exact ⟨⟨hPp, hMo, hSc, hTa, hWa, hUs, hCh, hCo⟩, hIm, hKe, hKu, rfl, hTr, hTn, hTg, hSh⟩
    · refine ⟨?_, ?_, ?_, ?_, ?_, ?c, ?q7, ?r⟩
      case c =>
        simp only [f_X6_voted, e6_sheet, bdE1, jnE]
        rw [if_pos hp, if_neg (by decide), rngC 2 (by decide), if_neg hp1, ef1]
        rfl
      case q7 =>
        simp only [f_X7_voted, e7_sheet, bdE1, jnE]
        rw [if_pos hp, if_neg (by decide), e7_inb 2 (by decide), bdE1, b01, if_neg hp1, eg1]
        rfl
      case r => exact ⟨⟨hPp, hMo, hSc, hTa, hWa, hUs, hCh, hCo⟩, hIm, hKe, hKu, rfl, hTr, hTn, hTg, hSh⟩
  · refine ⟨?_, ?_, ?_, ?_, ?_, ?c, ?q7, ?r⟩
    case c =>
      simp only [f_X6_voted, e6_sheet, bdE1, jnE]
      rw [if_neg hp, if_pos rfl, ef1]
      rfl
    case q7 =>
      simp only [f_X7_voted, e7_sheet, bdE1, jnE]
      rw [if_neg hp, if_pos rfl, eg1]
      rfl
    case r => exact ⟨⟨hPp, hMo, hSc, hTa, hWa, hUs, hCh, hCo⟩, hIm, hKe, hKu, rfl, hTr, hTn, hTg, hSh⟩
