/-! sheets -/
theorem nu_eq {x y v : Int32} (h : NumR x y) (hv : rg 99 v) : x = v ↔ y = v := by
  rcases h with rfl | ⟨h1, h2⟩
  · exact Iff.rfl
  · obtain ⟨k, hk, rfl⟩ := hv
    rw [Int32.le_iff_toInt_le] at h1
    rw [Int32.lt_iff_toInt_lt] at h2
    have e : (nI k).toInt = k := nI_toInt (by omega)
    have c1 : (128 : Int32).toInt = 128 := by decide
    have c0 : (0 : Int32).toInt = 0 := by decide
    constructor
    · intro q
      rw [q] at h1
      omega
    · intro q
      rw [q] at h2
      omega
theorem nu_in {x y : Int32} (h : NumR x y) : (inb x 100 = true ↔ inb y 100 = true) ∧ (inb x 100 = true → x = y) := by
  rcases h with rfl | ⟨h1, h2⟩
  · exact ⟨Iff.rfl, fun _ => rfl⟩
  · rw [Int32.le_iff_toInt_le] at h1
    rw [Int32.lt_iff_toInt_lt] at h2
    have c1 : (128 : Int32).toInt = 128 := by decide
    have c0 : (0 : Int32).toInt = 0 := by decide
    refine ⟨⟨fun q => ?_, fun q => ?_⟩, fun q => ?_⟩
    · have := inb_iff.mp q
      omega
    · have := inb_iff.mp q
      omega
    · have := inb_iff.mp q
      omega
theorem ifo {α : Type} {p q : Prop} {_ : Decidable p} {_ : Decidable q} {x y : α} : (if p then x else (if q then x else y)) = if p ∨ q then x else y := by
  by_cases h : p
  · rw [if_pos h, if_pos (Or.inl h)]
  · rw [if_neg h]
    by_cases g : q
    · rw [if_pos g, if_pos (Or.inr g)]
    · rw [if_neg g, if_neg (fun z => z.elim h g)]
/-- a piece laid over a row -/
def shF (base : Nat) (g f : Nat → Int32) (n : Nat) : Nat → Int32 := fun i => if base ≤ i ∧ i < base + n then g (i - base) else f i
theorem sh_in {base n i : Nat} {g f : Nat → Int32} (h : i < n) : shF base g f n (base + i) = g i := by
  unfold shF
  rw [if_pos ⟨by omega, by omega⟩, show base + i - base = i by omega]
theorem sh_out {base n i : Nat} {g f : Nat → Int32} (h : i < base ∨ base + n ≤ i) : shF base g f n i = f i := by
  unfold shF
  rw [if_neg (by omega)]
theorem sh_z {base : Nat} {g f : Nat → Int32} : shF base g f 0 = f := by
  funext i
  exact sh_out (by omega)
theorem sh_s {base n : Nat} {g f : Nat → Int32} : upd (shF base g f n) (base + n) (g n) = shF base g f (n + 1) := by
  funext i
  by_cases e : i = base + n
  · subst e
    rw [upd_s, sh_in (by omega)]
  · rw [upd_n e]
    by_cases h : base ≤ i ∧ i < base + n
    · obtain ⟨k, rfl⟩ : ∃ k, i = base + k := ⟨i - base, by omega⟩
      rw [sh_in (by omega), sh_in (by omega)]
    · rw [sh_out (by omega), sh_out (by omega)]
theorem e6_bits (x : Int32) : f_X6_isBits x = some (if x = 0 ∨ x = 8 ∨ x = 16 ∨ x = 32 then 1 else 0) := by
  unfold f_X6_isBits
  rw [ifo, ifo, ifo]
  split <;> rename_i h <;> split <;> rename_i g <;> first | rfl | exact absurd (by simpa [or_assoc] using h) g | exact absurd (by simpa [or_assoc] using g) h
theorem e2_lay {bits size p1 : Int32} {numbers : Nat → Int32} {z : Nat} (hz : z ≤ 40) : f_X2_lay bits size numbers p1 (nI z) = some (p1, nI z, ovF (fun _ => 0) numbers 40) := by
  have L : ∀ (m k fu : Nat), k + m = 40 → m < fu → f_X2_lay_L20 p1 (nI z) fu (ovF (fun _ => 0) numbers k) (nI k) = some (p1, nI z, ovF (fun _ => 0) numbers 40) := by
    intro m
    induction m with
    | zero =>
      intro k fu hk hf
      obtain ⟨fu, rfl⟩ : ∃ q, fu = q + 1 := ⟨fu - 1, by omega⟩
      obtain rfl : k = 40 := by omega
      simp only [f_X2_lay_L20]
      rw [if_pos (show (40 : Int32) ≤ nI 40 by decide)]
    | succ m ih =>
      intro k fu hk hf
      obtain ⟨fu, rfl⟩ : ∃ q, fu = q + 1 := ⟨fu - 1, by omega⟩
      simp only [f_X2_lay_L20]
      have s : upd (ovF (fun _ => 0) numbers k) k 0 = ovF (fun _ => 0) numbers (k + 1) := ov_s
      rw [if_neg (show ¬ (40 : Int32) ≤ nI k from nI_ge (b := 40) (by omega) (by decide)), wrA_i rfl (by omega), s]
      simp only [nmE, nI_1]
      exact ih (k + 1) fu (by omega) (by omega)
  unfold f_X2_lay
  have e : minI (nI z) 40 = nI z := by
    unfold minI
    by_cases h : (40 : Int32) < nI z
    · exact absurd h (nI_nlt (a := 40) hz (by decide))
    · rw [if_neg h]
  rw [e]
  simp only [nmE]
  have R := L 40 0 300 (by omega) (by omega)
  rw [ov_z] at R
  exact R
theorem e7_lay {fo bo so number : Nat → Int32} {j : Nat} (hj : j < 4) : f_X7_sheet_L90 fo (nI j) bo so 300 number 0 = some (fo, bo, so, shF (40 * j) (fun _ => 0) number 40, 1) := by
  have L : ∀ (m k fu : Nat), k + m = 40 → m < fu → f_X7_sheet_L90 fo (nI j) bo so fu (shF (40 * j) (fun _ => 0) number k) (nI k) = some (fo, bo, so, shF (40 * j) (fun _ => 0) number 40, 1) := by
    intro m
    induction m with
    | zero =>
      intro k fu hk hf
      obtain ⟨fu, rfl⟩ : ∃ q, fu = q + 1 := ⟨fu - 1, by omega⟩
      obtain rfl : k = 40 := by omega
      simp only [f_X7_sheet_L90]
      rw [if_pos (show (40 : Int32) ≤ nI 40 by decide)]
    | succ m ih =>
      intro k fu hk hf
      obtain ⟨fu, rfl⟩ : ∃ q, fu = q + 1 := ⟨fu - 1, by omega⟩
      simp only [f_X7_sheet_L90]
      have s : upd (shF (40 * j) (fun _ => 0) number k) (40 * j + k) 0 = shF (40 * j) (fun _ => 0) number (k + 1) := sh_s
      rw [if_neg (show ¬ (40 : Int32) ≤ nI k from nI_ge (b := 40) (by omega) (by decide)), wrA_i shx (by omega), s]
      simp only [nmE, nI_1]
      exact ih (k + 1) fu (by omega) (by omega)
  have R := L 40 0 300 (by omega) (by omega)
  rw [sh_z] at R
  exact R
theorem e2_holds {size p0 p1 : Int32} {s : Nat} (hs : size = nI s) (hs2 : s ≤ 40) : f_X2_holds size p0 p1 = some (if 0 ≤ p1.toInt ∧ 0 ≤ p0.toInt ∧ p0.toInt + p1.toInt ≤ s then 1 else 0) := by
  subst hs
  unfold f_X2_holds
  have c0 : (0 : Int32).toInt = 0 := by decide
  have es : (nI s).toInt = s := nI_toInt (by omega)
  by_cases h1 : p1 < 0
  · rw [if_pos h1, if_neg (by rw [Int32.lt_iff_toInt_lt] at h1; omega)]
  · rw [if_neg h1]
    by_cases h2 : nI s < p1
    · rw [if_pos h2, if_neg (by rw [Int32.lt_iff_toInt_lt] at h2; omega)]
    · rw [if_neg h2]
      by_cases h3 : p0 < 0
      · rw [if_pos h3, if_neg (by rw [Int32.lt_iff_toInt_lt] at h3; omega)]
      · rw [if_neg h3]
        rw [Int32.lt_iff_toInt_lt] at h1 h2 h3
        obtain ⟨a, ha, rfl⟩ := nI_of2 (x := p1) (M := nI s) (n := s) es (by rw [Int32.lt_iff_toInt_lt]; omega) (by rw [Int32.le_iff_toInt_le]; omega)
        have ea : (nI a).toInt = a := nI_toInt (by omega)
        have eb : (nI s - nI a).toInt = (s : Int) - a := pk_sub_toInt (by omega) (by omega)
        by_cases h4 : nI s - nI a < p0
        · rw [if_pos h4, if_neg (by rw [Int32.lt_iff_toInt_lt] at h4; omega)]
        · rw [if_neg h4, if_pos (by rw [Int32.lt_iff_toInt_lt] at h4; omega)]
theorem mv_if {α : Type} {p1 p3 p4 : Int32} {s t : Nat} {F G : α} (hs : s ≤ 40) (ht : t ≤ 40) : (if p4 < 0 then F else if p1 < 0 then F else if p3 < 0 then F else if (nI s - p1) < p4 then F else if p4 ≤ nI t - p3 then G else F) = if (0 ≤ p4.toInt ∧ 0 ≤ p1.toInt ∧ 0 ≤ p3.toInt ∧ p1.toInt + p4.toInt ≤ s ∧ p3.toInt + p4.toInt ≤ t) then G else F := by
  have c0 : (0 : Int32).toInt = 0 := by decide
  have es : (nI s).toInt = s := nI_toInt (by omega)
  have et : (nI t).toInt = t := nI_toInt (by omega)
  have sb : ∀ (x : Nat) (y : Int32), x ≤ 40 → ¬ y < 0 → (nI x - y).toInt = (x : Int) - y.toInt := by
    intro x y hx hy
    obtain ⟨a, ha, rfl⟩ := nI_of hy
    rw [Int32.toInt_sub, nI_toInt (by omega), nI_toInt (by omega)]
    exact Int.bmod_eq_of_le (by omega) (by omega)
  by_cases h1 : p4 < 0
  · rw [if_pos h1, if_neg (by rw [Int32.lt_iff_toInt_lt] at h1; omega)]
  · rw [if_neg h1]
    by_cases h2 : p1 < 0
    · rw [if_pos h2, if_neg (by rw [Int32.lt_iff_toInt_lt] at h2; omega)]
    · rw [if_neg h2]
      by_cases h3 : p3 < 0
      · rw [if_pos h3, if_neg (by rw [Int32.lt_iff_toInt_lt] at h3; omega)]
      · rw [if_neg h3]
        have e1 := sb s p1 hs h2
        have e2 := sb t p3 ht h3
        rw [Int32.lt_iff_toInt_lt] at h1 h2 h3
        by_cases h4 : nI s - p1 < p4
        · rw [if_pos h4, if_neg (by rw [Int32.lt_iff_toInt_lt] at h4; omega)]
        · rw [if_neg h4]
          rw [Int32.lt_iff_toInt_lt] at h4
          by_cases h5 : p4 ≤ nI t - p3
          · rw [if_pos h5, if_pos (by rw [Int32.le_iff_toInt_le] at h5; omega)]
          · rw [if_neg h5, if_neg (by rw [Int32.le_iff_toInt_le] at h5; omega)]
theorem shx2 {j a i : Nat} : ((40 : Int32) * nI j + nI a) + nI i = nI (40 * j + a + i) := by
  rw [shx, nI_add]
theorem e7_lift {number : Nat → Int32} {j a c : Nat} (hj : j < 4) (hc : a + c ≤ 40) (J : (Nat → Int32) → Option ((Nat → Int32) × (Nat → Int32) × (Nat → Int32) × (Int32))) (lifted : Nat → Int32) : f_X7_move_L115 number (nI j) (nI a) (nI c) J 300 lifted 0 = J (ovF (fun i => number (40 * j + a + i)) lifted c) := by
  have L : ∀ (m k fu : Nat), k + m = c → m < fu → f_X7_move_L115 number (nI j) (nI a) (nI c) J fu (ovF (fun i => number (40 * j + a + i)) lifted k) (nI k) = J (ovF (fun i => number (40 * j + a + i)) lifted c) := by
    intro m
    induction m with
    | zero =>
      intro k fu hk hf
      obtain ⟨fu, rfl⟩ : ∃ q, fu = q + 1 := ⟨fu - 1, by omega⟩
      obtain rfl : k = c := by omega
      simp only [f_X7_move_L115]
      rw [if_pos (nI_le (Nat.le_refl _) (by omega))]
    | succ m ih =>
      intro k fu hk hf
      obtain ⟨fu, rfl⟩ : ∃ q, fu = q + 1 := ⟨fu - 1, by omega⟩
      simp only [f_X7_move_L115]
      have s : upd (ovF (fun i => number (40 * j + a + i)) lifted k) k (number (40 * j + a + k)) = ovF (fun i => number (40 * j + a + i)) lifted (k + 1) := ov_s
      rw [if_neg (nI_ge (by omega) (by omega)), rdA_i shx2 (by omega), wrA_i rfl (by omega), s]
      simp only [nmE, nI_1]
      exact ih (k + 1) fu (by omega) (by omega)
  have R := L c 0 300 (by omega) (by omega)
  rw [ov_z] at R
  exact R
theorem e7_lower {fo number lifted : Nat → Int32} {q b c : Nat} (hq : q < 4) (hc : b + c ≤ 40) : f_X7_move_L152 fo (nI q) (nI b) (nI c) lifted 300 number 0 = some (fo, shF (40 * q + b) lifted number c, lifted, nI c) := by
  have L : ∀ (m k fu : Nat), k + m = c → m < fu → f_X7_move_L152 fo (nI q) (nI b) (nI c) lifted fu (shF (40 * q + b) lifted number k) (nI k) = some (fo, shF (40 * q + b) lifted number c, lifted, nI c) := by
    intro m
    induction m with
    | zero =>
      intro k fu hk hf
      obtain ⟨fu, rfl⟩ : ∃ q, fu = q + 1 := ⟨fu - 1, by omega⟩
      obtain rfl : k = c := by omega
      simp only [f_X7_move_L152]
      rw [if_pos (nI_le (Nat.le_refl _) (by omega))]
    | succ m ih =>
      intro k fu hk hf
      obtain ⟨fu, rfl⟩ : ∃ q, fu = q + 1 := ⟨fu - 1, by omega⟩
      simp only [f_X7_move_L152]
      have s : upd (shF (40 * q + b) lifted number k) (40 * q + b + k) (lifted k) = shF (40 * q + b) lifted number (k + 1) := sh_s
      rw [if_neg (nI_ge (by omega) (by omega)), rdA_i rfl (by omega), wrA_i shx2 (by omega), s]
      simp only [nmE, nI_1]
      exact ih (k + 1) fu (by omega) (by omega)
  have R := L c 0 300 (by omega) (by omega)
  rw [sh_z] at R
  exact R
set_option maxHeartbeats 1000000 in
set_option maxRecDepth 10000 in
theorem st_judge {c_now_folk_size : Int32} {c_now_folk_kind : Nat → Int32} {c_now_folk_mark : Nat → Int32} {c_now_folk_horn : Nat → Int32} {c_now_folk_brass : Nat → Int32} {c_now_folk_open : Nat → Int32} {c_now_folk_health : Nat → Int32} {c_now_motions : Int32} {c_now_quorum : Nat → Int32} {c_now_favour : Nat → Int32} {c_now_laws : Int32} {c_now_urnHorn : Int32} {c_now_urnBrass : Int32} {c_now_thread : Int32} {c_now_winter : Int32} {c_now_day : Int32} {c_now_chill_use : Int32} {c_now_chill_codes : Nat → Int32} {c_now_chill_size : Int32} {c_now_cold_use : Int32} {c_now_cold_codes : Nat → Int32} {c_now_cold_size : Int32} {c_now_tape : Nat → Int32} {c_now_taped : Int32} {c_now_z : Int32} {c_now_waiting : Nat → Int32} {c_now_waits : Int32} {c_kept_folk_size : Int32} {c_kept_folk_kind : Nat → Int32} {c_kept_folk_mark : Nat → Int32} {c_kept_folk_horn : Nat → Int32} {c_kept_folk_brass : Nat → Int32} {c_kept_folk_open : Nat → Int32} {c_kept_folk_health : Nat → Int32} {c_kept_motions : Int32} {c_kept_quorum : Nat → Int32} {c_kept_favour : Nat → Int32} {c_kept_laws : Int32} {c_kept_urnHorn : Int32} {c_kept_urnBrass : Int32} {c_kept_thread : Int32} {c_kept_winter : Int32} {c_kept_day : Int32} {c_kept_chill_use : Int32} {c_kept_chill_codes : Nat → Int32} {c_kept_chill_size : Int32} {c_kept_cold_use : Int32} {c_kept_cold_codes : Nat → Int32} {c_kept_cold_size : Int32} {c_kept_tape : Nat → Int32} {c_kept_taped : Int32} {c_kept_z : Int32} {c_kept_waiting : Nat → Int32} {c_kept_waits : Int32} {c_voices_traces : Nat → Int32} {c_voices_traced : Int32} {c_sh_bits : Nat → Int32} {c_sh_size : Nat → Int32} {c_sh_numbers : Nat → Nat → Int32} {c_errors : Nat → Int32} {c_images : Int32} {m_d : Nat → Int32} {m_kept : Nat → Int32} {m_images : Int32} {m_found : Nat → Int32} {m_traced : Nat → Int32} {m_traceMany : Int32} {m_bitsOf : Nat → Int32} {m_sizeOf : Nat → Int32} {m_number : Nat → Int32} (R : Rel c_now_folk_size c_now_folk_kind c_now_folk_mark c_now_folk_horn c_now_folk_brass c_now_folk_open c_now_folk_health c_now_motions c_now_quorum c_now_favour c_now_laws c_now_urnHorn c_now_urnBrass c_now_thread c_now_winter c_now_day c_now_chill_use c_now_chill_codes c_now_chill_size c_now_cold_use c_now_cold_codes c_now_cold_size c_now_tape c_now_taped c_now_z c_now_waiting c_now_waits c_kept_folk_size c_kept_folk_kind c_kept_folk_mark c_kept_folk_horn c_kept_folk_brass c_kept_folk_open c_kept_folk_health c_kept_motions c_kept_quorum c_kept_favour c_kept_laws c_kept_urnHorn c_kept_urnBrass c_kept_thread c_kept_winter c_kept_day c_kept_chill_use c_kept_chill_codes c_kept_chill_size c_kept_cold_use c_kept_cold_codes c_kept_cold_size c_kept_tape c_kept_taped c_kept_z c_kept_waiting c_kept_waits c_voices_traces c_voices_traced c_sh_bits c_sh_size c_sh_numbers c_errors c_images m_d m_kept m_images m_found m_traced m_traceMany m_bitsOf m_sizeOf m_number) (p0 : Int32) : ∃ (x_errors : Nat → Int32) (r : Int32) (y_found : Nat → Int32), f_X6_judge c_now_folk_size c_now_folk_open c_sh_bits c_sh_size c_sh_numbers c_errors p0 = some (x_errors, r) ∧ f_X7_judge m_d m_found m_bitsOf m_sizeOf m_number p0 = some (y_found, r) ∧ Rel c_now_folk_size c_now_folk_kind c_now_folk_mark c_now_folk_horn c_now_folk_brass c_now_folk_open c_now_folk_health c_now_motions c_now_quorum c_now_favour c_now_laws c_now_urnHorn c_now_urnBrass c_now_thread c_now_winter c_now_day c_now_chill_use c_now_chill_codes c_now_chill_size c_now_cold_use c_now_cold_codes c_now_cold_size c_now_tape c_now_taped c_now_z c_now_waiting c_now_waits c_kept_folk_size c_kept_folk_kind c_kept_folk_mark c_kept_folk_horn c_kept_folk_brass c_kept_folk_open c_kept_folk_health c_kept_motions c_kept_quorum c_kept_favour c_kept_laws c_kept_urnHorn c_kept_urnBrass c_kept_thread c_kept_winter c_kept_day c_kept_chill_use c_kept_chill_codes c_kept_chill_size c_kept_cold_use c_kept_cold_codes c_kept_cold_size c_kept_tape c_kept_taped c_kept_z c_kept_waiting c_kept_waits c_voices_traces c_voices_traced c_sh_bits c_sh_size c_sh_numbers x_errors c_images m_d m_kept m_images y_found m_traced m_traceMany m_bitsOf m_sizeOf m_number := by
  obtain ⟨⟨hPp, hMo, hSc, hTa, hWa, hUs, hCh, hCo⟩, hIm, hKe, hKu, hEr, hTr, hTn, hTg, hSh⟩ := R
  subst hEr
  obtain ⟨n, hn, hsz, hD0, H, D⟩ := PplR_out hPp
  subst hsz
  by_cases hp : inb p0 4 = true
  · obtain ⟨j, hj, rfl⟩ := inb_of hp (by decide)
    obtain ⟨s1, s2, s3, ⟨s, hs2, hs⟩, s5⟩ := hSh j hj
    by_cases hz : c_sh_bits j = 0
    · refine ⟨?_, ?_, ?_, ?c, ?m, ?r⟩
      case c =>
        simp only [f_X6_judge, e6_sheet, bdE1]
        rw [if_pos hp, if_neg (by decide), shA_i hj, if_pos hz, ef2]
        rfl
      case m =>
        simp only [f_X7_judge, e7_sheet, bdE1]
        rw [if_pos hp, if_neg (by decide), rdA_i rfl hj, ← s1, if_pos hz, eg2]
        rfl
      case r => exact ⟨⟨hPp, hMo, hSc, hTa, hWa, hUs, hCh, hCo⟩, hIm, hKe, hKu, rfl, hTr, hTn, hTg, hSh⟩
    · obtain ⟨M, hM1, hM2, hM3, hM⟩ : ∃ M, M ≤ s ∧ M ≤ n ∧ (M = s ∨ M = n) ∧ minI (c_sh_size j) (nI n) = nI M := ⟨min s n, by omega, by omega, by omega, by rw [hs]; exact mnN rfl (by omega) (by omega)⟩
      have L : ∀ (J : Option ((Nat → Int32) × Int32)) (J2 : Int32 → Option ((Nat → Int32) × Int32)) (r0 : Int32), J = some (c_errors, r0) → J2 (nI M) = some (c_errors, r0) → (∀ k, k < M → J2 (nI k) = some (c_errors, nI k)) → ∀ (m k fu fu2 : Nat), k + m = M → m < fu → m < fu2 → ∃ r, f_X6_judge_L55 c_now_folk_open c_sh_numbers c_errors j (nI M) J fu (nI k) = some (c_errors, r) ∧ f_X7_judge_L30 m_d m_sizeOf m_number (nI j) J2 fu2 (nI k) = some (c_errors, r) := by
        intro J J2 r0 hJ hJ2 hJ3 m
        induction m with
        | zero =>
          intro k fu fu2 hk hf hf2
          obtain ⟨fu, rfl⟩ : ∃ q, fu = q + 1 := ⟨fu - 1, by omega⟩
          obtain ⟨fu2, rfl⟩ : ∃ q, fu2 = q + 1 := ⟨fu2 - 1, by omega⟩
          obtain rfl : k = M := by omega
          simp only [f_X6_judge_L55, f_X7_judge_L30]
          refine ⟨r0, ?_, ?_⟩
          · rw [if_pos (nI_le (Nat.le_refl _) (by omega))]
            exact hJ
          · rw [rdA_i rfl hj, ← s2, hs]
            by_cases q : s ≤ k
            · rw [if_pos (nI_le q (by omega))]
              exact hJ2
            · rw [if_neg (nI_ge (by omega) (by omega)), rdA_i (i := 0) (k := 0) rfl (by decide), hD0, if_pos (nI_le (by omega) (by omega))]
              exact hJ2
        | succ m ih =>
          intro k fu fu2 hk hf hf2
          obtain ⟨fu, rfl⟩ : ∃ q, fu = q + 1 := ⟨fu - 1, by omega⟩
          obtain ⟨fu2, rfl⟩ : ∃ q, fu2 = q + 1 := ⟨fu2 - 1, by omega⟩
          simp only [f_X6_judge_L55, f_X7_judge_L30]
          rw [if_neg (nI_ge (by omega) (by omega)), rdA_i rfl (by omega), rdA_i rfl (by omega), rdA_i rfl hj, ← s2, hs, if_neg (nI_ge (by omega) (by omega)), rdA_i (i := 0) (k := 0) rfl (by decide), hD0, if_neg (nI_ge (by omega) (by omega)), rdA_i shx (by omega), eo4 (by omega), bdE1, (D k (by omega)).2.2.2.2.1]
          simp only [nmE, nI_1]
          have NE := nu_eq (s5 k (by omega)) (H k (by omega)).2.2.2.2.1
          by_cases z : c_sh_numbers j k = c_now_folk_open k
          · rw [if_pos z, if_pos (NE.mp z)]
            exact ih (k + 1) fu fu2 (by omega) (by omega) (by omega)
          · rw [if_neg z, if_neg (fun q => z (NE.mpr q))]
            exact ⟨_, rfl, hJ3 k (by omega)⟩
      have hJ : (if c_sh_size j = nI n then some (c_errors, (-1 : Int32)) else some (c_errors, nI M)) = some (c_errors, if s = n then (-1 : Int32) else nI M) := by
        rw [hs]
        by_cases q : s = n
        · rw [if_pos q, if_pos (by rw [q])]
        · rw [if_neg q, if_neg (fun z => q ((nI_eq (by omega) (by omega)).mp z))]
      have hK : ∀ k, k ≤ M → rdA 4 m_sizeOf (nI j) (fun x_4 => (if nI k = x_4 then rdA 248 m_d 0 (fun x_5 => (if nI k = x_5 then some (c_errors, (-1)) else some (c_errors, nI k))) else some (c_errors, nI k))) = some (c_errors, if k = s ∧ k = n then (-1 : Int32) else nI k) := by
        intro k hk
        rw [rdA_i rfl hj, ← s2, hs]
        by_cases q : k = s
        · rw [if_pos (by rw [q]), rdA_i (i := 0) (k := 0) rfl (by decide), hD0]
          by_cases q2 : k = n
          · rw [if_pos (by rw [q2]), if_pos ⟨q, q2⟩]
          · rw [if_neg (fun z => q2 ((nI_eq (by omega) (by omega)).mp z)), if_neg (fun z => q2 z.2)]
        · rw [if_neg (fun z => q ((nI_eq (by omega) (by omega)).mp z)), if_neg (fun z => q z.1)]
      obtain ⟨r, e1, e2⟩ := L _ (fun l2_3 => rdA 4 m_sizeOf (nI j) (fun x_4 => (if l2_3 = x_4 then rdA 248 m_d 0 (fun x_5 => (if l2_3 = x_5 then some (c_errors, (-1)) else some (c_errors, l2_3))) else some (c_errors, l2_3)))) _ hJ ((hK M (Nat.le_refl _)).trans (by
        by_cases q : s = n
        · rw [if_pos q, if_pos ⟨by omega, by omega⟩]
        · rw [if_neg q, if_neg (by omega)])) (fun k hk => (hK k (by omega)).trans (by rw [if_neg (by omega)])) M 0 300 300 (by omega) (by omega) (by omega)
      refine ⟨?_, ?_, ?_, ?c, ?m, ?r⟩
      case c =>
        simp only [f_X6_judge, e6_sheet, bdE1, nmE, jnE]
        rw [if_pos hp, if_neg (by decide), shA_i hj, if_neg hz, hM]
        exact e1
      case m =>
        simp only [f_X7_judge, e7_sheet, bdE1, jnE]
        rw [if_pos hp, if_neg (by decide), rdA_i rfl hj, ← s1, if_neg hz]
        exact e2
      case r => exact ⟨⟨hPp, hMo, hSc, hTa, hWa, hUs, hCh, hCo⟩, hIm, hKe, hKu, rfl, hTr, hTn, hTg, hSh⟩
  · refine ⟨?_, ?_, ?_, ?c, ?m, ?r⟩
    case c =>
      simp only [f_X6_judge, e6_sheet, bdE1]
      rw [if_neg hp, if_pos rfl, ef1]
      rfl
    case m =>
      simp only [f_X7_judge, e7_sheet, bdE1]
      rw [if_neg hp, if_pos rfl, eg1]
      rfl
    case r => exact ⟨⟨hPp, hMo, hSc, hTa, hWa, hUs, hCh, hCo⟩, hIm, hKe, hKu, rfl, hTr, hTn, hTg, hSh⟩
set_option maxHeartbeats 1000000 in
set_option maxRecDepth 10000 in
theorem st_healths {c_now_folk_size : Int32} {c_now_folk_kind : Nat → Int32} {c_now_folk_mark : Nat → Int32} {c_now_folk_horn : Nat → Int32} {c_now_folk_brass : Nat → Int32} {c_now_folk_open : Nat → Int32} {c_now_folk_health : Nat → Int32} {c_now_motions : Int32} {c_now_quorum : Nat → Int32} {c_now_favour : Nat → Int32} {c_now_laws : Int32} {c_now_urnHorn : Int32} {c_now_urnBrass : Int32} {c_now_thread : Int32} {c_now_winter : Int32} {c_now_day : Int32} {c_now_chill_use : Int32} {c_now_chill_codes : Nat → Int32} {c_now_chill_size : Int32} {c_now_cold_use : Int32} {c_now_cold_codes : Nat → Int32} {c_now_cold_size : Int32} {c_now_tape : Nat → Int32} {c_now_taped : Int32} {c_now_z : Int32} {c_now_waiting : Nat → Int32} {c_now_waits : Int32} {c_kept_folk_size : Int32} {c_kept_folk_kind : Nat → Int32} {c_kept_folk_mark : Nat → Int32} {c_kept_folk_horn : Nat → Int32} {c_kept_folk_brass : Nat → Int32} {c_kept_folk_open : Nat → Int32} {c_kept_folk_health : Nat → Int32} {c_kept_motions : Int32} {c_kept_quorum : Nat → Int32} {c_kept_favour : Nat → Int32} {c_kept_laws : Int32} {c_kept_urnHorn : Int32} {c_kept_urnBrass : Int32} {c_kept_thread : Int32} {c_kept_winter : Int32} {c_kept_day : Int32} {c_kept_chill_use : Int32} {c_kept_chill_codes : Nat → Int32} {c_kept_chill_size : Int32} {c_kept_cold_use : Int32} {c_kept_cold_codes : Nat → Int32} {c_kept_cold_size : Int32} {c_kept_tape : Nat → Int32} {c_kept_taped : Int32} {c_kept_z : Int32} {c_kept_waiting : Nat → Int32} {c_kept_waits : Int32} {c_voices_traces : Nat → Int32} {c_voices_traced : Int32} {c_sh_bits : Nat → Int32} {c_sh_size : Nat → Int32} {c_sh_numbers : Nat → Nat → Int32} {c_errors : Nat → Int32} {c_images : Int32} {m_d : Nat → Int32} {m_kept : Nat → Int32} {m_images : Int32} {m_found : Nat → Int32} {m_traced : Nat → Int32} {m_traceMany : Int32} {m_bitsOf : Nat → Int32} {m_sizeOf : Nat → Int32} {m_number : Nat → Int32} (R : Rel c_now_folk_size c_now_folk_kind c_now_folk_mark c_now_folk_horn c_now_folk_brass c_now_folk_open c_now_folk_health c_now_motions c_now_quorum c_now_favour c_now_laws c_now_urnHorn c_now_urnBrass c_now_thread c_now_winter c_now_day c_now_chill_use c_now_chill_codes c_now_chill_size c_now_cold_use c_now_cold_codes c_now_cold_size c_now_tape c_now_taped c_now_z c_now_waiting c_now_waits c_kept_folk_size c_kept_folk_kind c_kept_folk_mark c_kept_folk_horn c_kept_folk_brass c_kept_folk_open c_kept_folk_health c_kept_motions c_kept_quorum c_kept_favour c_kept_laws c_kept_urnHorn c_kept_urnBrass c_kept_thread c_kept_winter c_kept_day c_kept_chill_use c_kept_chill_codes c_kept_chill_size c_kept_cold_use c_kept_cold_codes c_kept_cold_size c_kept_tape c_kept_taped c_kept_z c_kept_waiting c_kept_waits c_voices_traces c_voices_traced c_sh_bits c_sh_size c_sh_numbers c_errors c_images m_d m_kept m_images m_found m_traced m_traceMany m_bitsOf m_sizeOf m_number) (p0 : Int32) : ∃ (x_now_folk_health : Nat → Int32) (x_errors : Nat → Int32) (r : Int32) (y_d : Nat → Int32) (y_found : Nat → Int32), f_X6_healths c_now_folk_size c_now_folk_health c_sh_bits c_sh_size c_sh_numbers c_errors p0 = some (x_now_folk_health, x_errors, r) ∧ f_X7_healths m_d m_found m_bitsOf m_sizeOf m_number p0 = some (y_d, y_found, r) ∧ Rel c_now_folk_size c_now_folk_kind c_now_folk_mark c_now_folk_horn c_now_folk_brass c_now_folk_open x_now_folk_health c_now_motions c_now_quorum c_now_favour c_now_laws c_now_urnHorn c_now_urnBrass c_now_thread c_now_winter c_now_day c_now_chill_use c_now_chill_codes c_now_chill_size c_now_cold_use c_now_cold_codes c_now_cold_size c_now_tape c_now_taped c_now_z c_now_waiting c_now_waits c_kept_folk_size c_kept_folk_kind c_kept_folk_mark c_kept_folk_horn c_kept_folk_brass c_kept_folk_open c_kept_folk_health c_kept_motions c_kept_quorum c_kept_favour c_kept_laws c_kept_urnHorn c_kept_urnBrass c_kept_thread c_kept_winter c_kept_day c_kept_chill_use c_kept_chill_codes c_kept_chill_size c_kept_cold_use c_kept_cold_codes c_kept_cold_size c_kept_tape c_kept_taped c_kept_z c_kept_waiting c_kept_waits c_voices_traces c_voices_traced c_sh_bits c_sh_size c_sh_numbers x_errors c_images y_d m_kept m_images y_found m_traced m_traceMany m_bitsOf m_sizeOf m_number := by
  obtain ⟨⟨hPp, hMo, hSc, hTa, hWa, hUs, hCh, hCo⟩, hIm, hKe, hKu, hEr, hTr, hTn, hTg, hSh⟩ := R
  subst hEr
  obtain ⟨n, hn, hsz, hD0, H, D⟩ := PplR_out hPp
  subst hsz
  by_cases hp : inb p0 4 = true
  · obtain ⟨j, hj, rfl⟩ := inb_of hp (by decide)
    obtain ⟨s1, s2, s3, ⟨s, hs2, hs⟩, s5⟩ := hSh j hj
    by_cases hz : c_sh_bits j = 0
    · refine ⟨?_, ?_, ?_, ?_, ?_, ?c, ?m, ?r⟩
      case c =>
        simp only [f_X6_healths, e6_sheet, bdE1]
        rw [if_pos hp, if_neg (by decide), shA_i hj, if_pos hz, ef2]
        rfl
      case m =>
        simp only [f_X7_healths, e7_sheet, bdE1]
        rw [if_pos hp, if_neg (by decide), rdA_i rfl hj, ← s1, if_pos hz, eg2]
        rfl
      case r => exact ⟨⟨PplR_of hn hD0 H D, hMo, hSc, hTa, hWa, hUs, hCh, hCo⟩, hIm, hKe, hKu, rfl, hTr, hTn, hTg, hSh⟩
    · obtain ⟨M, hM1, hM2, hM3, hM⟩ : ∃ M, M ≤ s ∧ M ≤ n ∧ (M = s ∨ M = n) ∧ minI (c_sh_size j) (nI n) = nI M := ⟨min s n, by omega, by omega, by omega, by rw [hs]; exact mnN rfl (by omega) (by omega)⟩
      have L : ∀ (m k fu fu2 : Nat) (hl dk : Nat → Int32), k + m = M → m < fu → m < fu2 → FW c_now_folk_kind c_now_folk_mark c_now_folk_horn c_now_folk_brass c_now_folk_open hl → FD c_now_folk_kind c_now_folk_mark c_now_folk_horn c_now_folk_brass c_now_folk_open hl dk → (∀ i, ¬ HP i → dk i = m_d i) → ∃ hl' d' r, f_X6_healths_L55 c_sh_numbers c_errors j (nI M) fu hl (nI k) = some (hl', c_errors, r) ∧ f_X7_healths_L30 c_errors m_sizeOf m_number (nI j) fu2 dk (nI k) = some (d', c_errors, r) ∧ FW c_now_folk_kind c_now_folk_mark c_now_folk_horn c_now_folk_brass c_now_folk_open hl' ∧ FD c_now_folk_kind c_now_folk_mark c_now_folk_horn c_now_folk_brass c_now_folk_open hl' d' ∧ ∀ i, ¬ HP i → d' i = m_d i := by
        intro m
        induction m with
        | zero =>
          intro k fu fu2 hl dk hk hf hf2 W Q F
          obtain ⟨fu, rfl⟩ : ∃ q, fu = q + 1 := ⟨fu - 1, by omega⟩
          obtain ⟨fu2, rfl⟩ : ∃ q, fu2 = q + 1 := ⟨fu2 - 1, by omega⟩
          obtain rfl : k = M := by omega
          simp only [f_X6_healths_L55, f_X7_healths_L30]
          rw [if_pos (nI_le (Nat.le_refl _) (by omega)), rdA_i rfl hj, ← s2, hs]
          by_cases q : s ≤ k
          · rw [if_pos (nI_le q (by omega))]
            exact ⟨_, _, _, rfl, rfl, W, Q, F⟩
          · rw [if_neg (nI_ge (by omega) (by omega)), rdA_i (i := 0) (k := 0) rfl (by decide), F 0 (by unfold HP; omega), hD0, if_pos (nI_le (by omega) (by omega))]
            exact ⟨_, _, _, rfl, rfl, W, Q, F⟩
        | succ m ih =>
          intro k fu fu2 hl dk hk hf hf2 W Q F
          obtain ⟨fu, rfl⟩ : ∃ q, fu = q + 1 := ⟨fu - 1, by omega⟩
          obtain ⟨fu2, rfl⟩ : ∃ q, fu2 = q + 1 := ⟨fu2 - 1, by omega⟩
          simp only [f_X6_healths_L55, f_X7_healths_L30]
          rw [if_neg (nI_ge (by omega) (by omega)), rdA_i rfl (by omega), rngC 100 (by decide), rdA_i rfl hj, ← s2, hs, if_neg (nI_ge (by omega) (by omega)), rdA_i (i := 0) (k := 0) rfl (by decide), F 0 (by unfold HP; omega), hD0, if_neg (nI_ge (by omega) (by omega)), rdA_i shx (by omega), e7_inb 100 (by decide), bdE1, b01]
          obtain ⟨NI, NE⟩ := nu_in (s5 k (by omega))
          by_cases z : inb (c_sh_numbers j k) 100 = true
          · obtain ⟨v, hv, e⟩ := inb_of z (by decide)
            rw [if_pos z, if_pos (NI.mp z), wrA_i rfl (by omega), rdA_i shx (by omega), es5 (by omega), bdE1, ← NE z]
            simp only [nmE, nI_1]
            exact ih (k + 1) fu fu2 _ _ (by omega) (by omega) (by omega) (W.s_health ⟨v, by omega, e⟩) (Q.s_health (by omega)) (fun i hi => by rw [upd_n (by unfold HP at hi; omega)]; exact F i hi)
          · rw [if_neg z, if_neg (fun q => z (NI.mpr q))]
            exact ⟨_, _, _, rfl, rfl, W, Q, F⟩
      obtain ⟨hl', d', r, e1, e2, W, Q, F⟩ := L M 0 300 300 c_now_folk_health m_d (by omega) (by omega) (by omega) H D (fun i _ => rfl)
      refine ⟨?_, ?_, ?_, ?_, ?_, ?c, ?m, ?r⟩
      case c =>
        simp only [f_X6_healths, e6_sheet, bdE1, nmE, jnE]
        rw [if_pos hp, if_neg (by decide), shA_i hj, if_neg hz, hM]
        exact e1
      case m =>
        simp only [f_X7_healths, e7_sheet, bdE1, jnE]
        rw [if_pos hp, if_neg (by decide), rdA_i rfl hj, ← s1, if_neg hz]
        exact e2
      case r =>
        obtain ⟨g1, g2, g3, g4, g5, g6⟩ := fr_ppl hMo hSc hTa hWa hCh hCo (fun i hi => F i (by unfold HP; omega))
        exact ⟨⟨PplR_of hn ((F 0 (by unfold HP; omega)).trans hD0) W Q, g1, g2, g3, g4, hUs, g5, g6⟩, hIm, hKe, hKu, rfl, hTr, hTn, hTg, hSh⟩
  · refine ⟨?_, ?_, ?_, ?_, ?_, ?c, ?m, ?r⟩
    case c =>
      simp only [f_X6_healths, e6_sheet, bdE1]
      rw [if_neg hp, if_pos rfl, ef1]
      rfl
    case m =>
      simp only [f_X7_healths, e7_sheet, bdE1]
      rw [if_neg hp, if_pos rfl, eg1]
      rfl
    case r => exact ⟨⟨PplR_of hn hD0 H D, hMo, hSc, hTa, hWa, hUs, hCh, hCo⟩, hIm, hKe, hKu, rfl, hTr, hTn, hTg, hSh⟩
set_option maxHeartbeats 1000000 in
set_option maxRecDepth 10000 in
theorem st_sheet {c_now_folk_size : Int32} {c_now_folk_kind : Nat → Int32} {c_now_folk_mark : Nat → Int32} {c_now_folk_horn : Nat → Int32} {c_now_folk_brass : Nat → Int32} {c_now_folk_open : Nat → Int32} {c_now_folk_health : Nat → Int32} {c_now_motions : Int32} {c_now_quorum : Nat → Int32} {c_now_favour : Nat → Int32} {c_now_laws : Int32} {c_now_urnHorn : Int32} {c_now_urnBrass : Int32} {c_now_thread : Int32} {c_now_winter : Int32} {c_now_day : Int32} {c_now_chill_use : Int32} {c_now_chill_codes : Nat → Int32} {c_now_chill_size : Int32} {c_now_cold_use : Int32} {c_now_cold_codes : Nat → Int32} {c_now_cold_size : Int32} {c_now_tape : Nat → Int32} {c_now_taped : Int32} {c_now_z : Int32} {c_now_waiting : Nat → Int32} {c_now_waits : Int32} {c_kept_folk_size : Int32} {c_kept_folk_kind : Nat → Int32} {c_kept_folk_mark : Nat → Int32} {c_kept_folk_horn : Nat → Int32} {c_kept_folk_brass : Nat → Int32} {c_kept_folk_open : Nat → Int32} {c_kept_folk_health : Nat → Int32} {c_kept_motions : Int32} {c_kept_quorum : Nat → Int32} {c_kept_favour : Nat → Int32} {c_kept_laws : Int32} {c_kept_urnHorn : Int32} {c_kept_urnBrass : Int32} {c_kept_thread : Int32} {c_kept_winter : Int32} {c_kept_day : Int32} {c_kept_chill_use : Int32} {c_kept_chill_codes : Nat → Int32} {c_kept_chill_size : Int32} {c_kept_cold_use : Int32} {c_kept_cold_codes : Nat → Int32} {c_kept_cold_size : Int32} {c_kept_tape : Nat → Int32} {c_kept_taped : Int32} {c_kept_z : Int32} {c_kept_waiting : Nat → Int32} {c_kept_waits : Int32} {c_voices_traces : Nat → Int32} {c_voices_traced : Int32} {c_sh_bits : Nat → Int32} {c_sh_size : Nat → Int32} {c_sh_numbers : Nat → Nat → Int32} {c_errors : Nat → Int32} {c_images : Int32} {m_d : Nat → Int32} {m_kept : Nat → Int32} {m_images : Int32} {m_found : Nat → Int32} {m_traced : Nat → Int32} {m_traceMany : Int32} {m_bitsOf : Nat → Int32} {m_sizeOf : Nat → Int32} {m_number : Nat → Int32} (R : Rel c_now_folk_size c_now_folk_kind c_now_folk_mark c_now_folk_horn c_now_folk_brass c_now_folk_open c_now_folk_health c_now_motions c_now_quorum c_now_favour c_now_laws c_now_urnHorn c_now_urnBrass c_now_thread c_now_winter c_now_day c_now_chill_use c_now_chill_codes c_now_chill_size c_now_cold_use c_now_cold_codes c_now_cold_size c_now_tape c_now_taped c_now_z c_now_waiting c_now_waits c_kept_folk_size c_kept_folk_kind c_kept_folk_mark c_kept_folk_horn c_kept_folk_brass c_kept_folk_open c_kept_folk_health c_kept_motions c_kept_quorum c_kept_favour c_kept_laws c_kept_urnHorn c_kept_urnBrass c_kept_thread c_kept_winter c_kept_day c_kept_chill_use c_kept_chill_codes c_kept_chill_size c_kept_cold_use c_kept_cold_codes c_kept_cold_size c_kept_tape c_kept_taped c_kept_z c_kept_waiting c_kept_waits c_voices_traces c_voices_traced c_sh_bits c_sh_size c_sh_numbers c_errors c_images m_d m_kept m_images m_found m_traced m_traceMany m_bitsOf m_sizeOf m_number) (p0 : Int32) (p1 : Int32) (p2 : Int32) : ∃ (x_sh_bits : Nat → Int32) (x_sh_size : Nat → Int32) (x_sh_numbers : Nat → Nat → Int32) (x_errors : Nat → Int32) (r : Int32) (y_found : Nat → Int32) (y_bitsOf : Nat → Int32) (y_sizeOf : Nat → Int32) (y_number : Nat → Int32), f_X6_sheet c_sh_bits c_sh_size c_sh_numbers c_errors p0 p1 p2 = some (x_sh_bits, x_sh_size, x_sh_numbers, x_errors, r) ∧ f_X7_sheet m_found m_bitsOf m_sizeOf m_number p0 p1 p2 = some (y_found, y_bitsOf, y_sizeOf, y_number, r) ∧ Rel c_now_folk_size c_now_folk_kind c_now_folk_mark c_now_folk_horn c_now_folk_brass c_now_folk_open c_now_folk_health c_now_motions c_now_quorum c_now_favour c_now_laws c_now_urnHorn c_now_urnBrass c_now_thread c_now_winter c_now_day c_now_chill_use c_now_chill_codes c_now_chill_size c_now_cold_use c_now_cold_codes c_now_cold_size c_now_tape c_now_taped c_now_z c_now_waiting c_now_waits c_kept_folk_size c_kept_folk_kind c_kept_folk_mark c_kept_folk_horn c_kept_folk_brass c_kept_folk_open c_kept_folk_health c_kept_motions c_kept_quorum c_kept_favour c_kept_laws c_kept_urnHorn c_kept_urnBrass c_kept_thread c_kept_winter c_kept_day c_kept_chill_use c_kept_chill_codes c_kept_chill_size c_kept_cold_use c_kept_cold_codes c_kept_cold_size c_kept_tape c_kept_taped c_kept_z c_kept_waiting c_kept_waits c_voices_traces c_voices_traced x_sh_bits x_sh_size x_sh_numbers x_errors c_images m_d m_kept m_images y_found m_traced m_traceMany y_bitsOf y_sizeOf y_number := by
  obtain ⟨⟨hPp, hMo, hSc, hTa, hWa, hUs, hCh, hCo⟩, hIm, hKe, hKu, hEr, hTr, hTn, hTg, hSh⟩ := R
  subst hEr
  by_cases hp : inb p0 4 = true
  · obtain ⟨j, hj, rfl⟩ := inb_of hp (by decide)
    by_cases hb : p1 = 0 ∨ p1 = 8 ∨ p1 = 16 ∨ p1 = 32
    · have b4 : ∀ {α : Type} (x y : α), (if p1 = 0 then x else (if p1 = 8 then x else (if p1 = 16 then x else (if p1 = 32 then x else y)))) = x := by
        intro α x y
        rcases hb with h | h | h | h
        · rw [if_pos h]
        · by_cases h1 : p1 = 0
          · rw [if_pos h1]
          · rw [if_neg h1, if_pos h]
        · by_cases h1 : p1 = 0
          · rw [if_pos h1]
          · rw [if_neg h1]
            by_cases h2 : p1 = 8
            · rw [if_pos h2]
            · rw [if_neg h2, if_pos h]
        · by_cases h1 : p1 = 0
          · rw [if_pos h1]
          · rw [if_neg h1]
            by_cases h2 : p1 = 8
            · rw [if_pos h2]
            · rw [if_neg h2]
              by_cases h3 : p1 = 16
              · rw [if_pos h3]
              · rw [if_neg h3, if_pos h]
      by_cases h0 : p1 = 0 ∨ 0 ≤ p2
      · by_cases h1 : p1 = 0 ∨ p2 ≤ 40
        · obtain ⟨z, hz, hzz⟩ : ∃ z, z ≤ 40 ∧ ((p1 = 0 ∧ z = 0) ∨ (¬ p1 = 0 ∧ p2 = nI z)) := by
            by_cases q : p1 = 0
            · exact ⟨0, by decide, Or.inl ⟨q, rfl⟩⟩
            · obtain ⟨z, hz, e⟩ := nI_of2 (x := p2) (M := 40) (n := 40) (by decide) (Int32.not_lt.mpr (h0.resolve_left q)) (h1.resolve_left q)
              exact ⟨z, hz, Or.inr ⟨q, e⟩⟩
          refine ⟨va_up c_sh_bits j p1, va_up c_sh_size j (nI z), va_up c_sh_numbers j (ovF (fun _ => 0) (c_sh_numbers j) 40), c_errors, 1, c_errors, upd m_bitsOf j p1, upd m_sizeOf j (nI z), shF (40 * j) (fun _ => 0) m_number 40, ?c, ?m, ?r⟩
          case c =>
            simp only [f_X6_sheet, e6_sheet, e6_bits, bdE1, jnE]
            rw [if_pos hp, if_neg (by decide), if_pos hb, if_neg (by decide), ifo, if_pos h0, ifo, if_pos h1, shA_i hj]
            rcases hzz with ⟨q, rfl⟩ | ⟨q, e⟩
            · rw [if_pos q, show f_X2_lay (c_sh_bits j) (c_sh_size j) (c_sh_numbers j) p1 0 = _ from e2_lay (z := 0) hz, bdE3]
            · rw [if_neg q, e, e2_lay hz, bdE3]
          case m =>
            simp only [f_X7_sheet, e7_sheet, bdE1, jnE]
            rw [if_pos hp, if_neg (by decide), b4, ifo, if_pos h0, ifo, if_pos h1, wrA_i rfl hj]
            rcases hzz with ⟨q, rfl⟩ | ⟨q, e⟩
            · rw [if_pos q, wrA_i rfl hj, e7_lay hj]
              rfl
            · rw [if_neg q, e, wrA_i rfl hj, e7_lay hj]
          case r =>
            refine ⟨⟨hPp, hMo, hSc, hTa, hWa, hUs, hCh, hCo⟩, hIm, hKe, hKu, rfl, hTr, hTn, hTg, fun q hq => ?_⟩
            obtain ⟨t1, t2, t3, t4, t5⟩ := hSh q hq
            by_cases e : q = j
            · subst e
              rw [vup_s, vup_s, vup_s, upd_s, upd_s]
              refine ⟨rfl, rfl, hb, ⟨z, hz, rfl⟩, fun i hi => ?_⟩
              rw [ov_in hi, sh_in hi]
              exact Or.inl rfl
            · rw [vup_n e, vup_n e, vup_n e, upd_n e, upd_n e]
              refine ⟨t1, t2, t3, t4, fun i hi => ?_⟩
              rw [sh_out (by omega)]
              exact t5 i hi
        · refine ⟨?_, ?_, ?_, ?_, ?_, ?_, ?_, ?_, ?_, ?c, ?m, ?r⟩
          case c =>
            simp only [f_X6_sheet, e6_sheet, e6_bits, bdE1, jnE]
            rw [if_pos hp, if_neg (by decide), if_pos hb, if_neg (by decide), ifo, if_pos h0, ifo, if_neg h1, ef1]
            rfl
          case m =>
            simp only [f_X7_sheet, e7_sheet, bdE1, jnE]
            rw [if_pos hp, if_neg (by decide), b4, ifo, if_pos h0, ifo, if_neg h1, eg1]
            rfl
          case r => exact ⟨⟨hPp, hMo, hSc, hTa, hWa, hUs, hCh, hCo⟩, hIm, hKe, hKu, rfl, hTr, hTn, hTg, hSh⟩
      · refine ⟨?_, ?_, ?_, ?_, ?_, ?_, ?_, ?_, ?_, ?c, ?m, ?r⟩
        case c =>
          simp only [f_X6_sheet, e6_sheet, e6_bits, bdE1, jnE]
          rw [if_pos hp, if_neg (by decide), if_pos hb, if_neg (by decide), ifo, if_neg h0, ef3]
          rfl
        case m =>
          simp only [f_X7_sheet, e7_sheet, bdE1, jnE]
          rw [if_pos hp, if_neg (by decide), b4, ifo, if_neg h0, eg3]
          rfl
        case r => exact ⟨⟨hPp, hMo, hSc, hTa, hWa, hUs, hCh, hCo⟩, hIm, hKe, hKu, rfl, hTr, hTn, hTg, hSh⟩
    · refine ⟨?_, ?_, ?_, ?_, ?_, ?_, ?_, ?_, ?_, ?c, ?m, ?r⟩
      case c =>
        simp only [f_X6_sheet, e6_sheet, e6_bits, bdE1, jnE]
        rw [if_pos hp, if_neg (by decide), if_neg hb, if_pos rfl, ef1]
        rfl
      case m =>
        simp only [f_X7_sheet, e7_sheet, bdE1, jnE]
        rw [if_pos hp, if_neg (by decide), if_neg (fun q => hb (Or.inl q)), if_neg (fun q => hb (Or.inr (Or.inl q))), if_neg (fun q => hb (Or.inr (Or.inr (Or.inl q)))), if_neg (fun q => hb (Or.inr (Or.inr (Or.inr q)))), eg1]
        rfl
      case r => exact ⟨⟨hPp, hMo, hSc, hTa, hWa, hUs, hCh, hCo⟩, hIm, hKe, hKu, rfl, hTr, hTn, hTg, hSh⟩
  · refine ⟨?_, ?_, ?_, ?_, ?_, ?_, ?_, ?_, ?_, ?c, ?m, ?r⟩
    case c =>
      simp only [f_X6_sheet, e6_sheet, bdE1, jnE]
      rw [if_neg hp, if_pos rfl, ef1]
      rfl
    case m =>
      simp only [f_X7_sheet, e7_sheet, bdE1, jnE]
      rw [if_neg hp, if_pos rfl, eg1]
      rfl
    case r => exact ⟨⟨hPp, hMo, hSc, hTa, hWa, hUs, hCh, hCo⟩, hIm, hKe, hKu, rfl, hTr, hTn, hTg, hSh⟩
set_option maxHeartbeats 1000000 in
set_option maxRecDepth 10000 in
theorem st_move {c_now_folk_size : Int32} {c_now_folk_kind : Nat → Int32} {c_now_folk_mark : Nat → Int32} {c_now_folk_horn : Nat → Int32} {c_now_folk_brass : Nat → Int32} {c_now_folk_open : Nat → Int32} {c_now_folk_health : Nat → Int32} {c_now_motions : Int32} {c_now_quorum : Nat → Int32} {c_now_favour : Nat → Int32} {c_now_laws : Int32} {c_now_urnHorn : Int32} {c_now_urnBrass : Int32} {c_now_thread : Int32} {c_now_winter : Int32} {c_now_day : Int32} {c_now_chill_use : Int32} {c_now_chill_codes : Nat → Int32} {c_now_chill_size : Int32} {c_now_cold_use : Int32} {c_now_cold_codes : Nat → Int32} {c_now_cold_size : Int32} {c_now_tape : Nat → Int32} {c_now_taped : Int32} {c_now_z : Int32} {c_now_waiting : Nat → Int32} {c_now_waits : Int32} {c_kept_folk_size : Int32} {c_kept_folk_kind : Nat → Int32} {c_kept_folk_mark : Nat → Int32} {c_kept_folk_horn : Nat → Int32} {c_kept_folk_brass : Nat → Int32} {c_kept_folk_open : Nat → Int32} {c_kept_folk_health : Nat → Int32} {c_kept_motions : Int32} {c_kept_quorum : Nat → Int32} {c_kept_favour : Nat → Int32} {c_kept_laws : Int32} {c_kept_urnHorn : Int32} {c_kept_urnBrass : Int32} {c_kept_thread : Int32} {c_kept_winter : Int32} {c_kept_day : Int32} {c_kept_chill_use : Int32} {c_kept_chill_codes : Nat → Int32} {c_kept_chill_size : Int32} {c_kept_cold_use : Int32} {c_kept_cold_codes : Nat → Int32} {c_kept_cold_size : Int32} {c_kept_tape : Nat → Int32} {c_kept_taped : Int32} {c_kept_z : Int32} {c_kept_waiting : Nat → Int32} {c_kept_waits : Int32} {c_voices_traces : Nat → Int32} {c_voices_traced : Int32} {c_sh_bits : Nat → Int32} {c_sh_size : Nat → Int32} {c_sh_numbers : Nat → Nat → Int32} {c_errors : Nat → Int32} {c_images : Int32} {m_d : Nat → Int32} {m_kept : Nat → Int32} {m_images : Int32} {m_found : Nat → Int32} {m_traced : Nat → Int32} {m_traceMany : Int32} {m_bitsOf : Nat → Int32} {m_sizeOf : Nat → Int32} {m_number : Nat → Int32} {m_lifted : Nat → Int32} (R : Rel c_now_folk_size c_now_folk_kind c_now_folk_mark c_now_folk_horn c_now_folk_brass c_now_folk_open c_now_folk_health c_now_motions c_now_quorum c_now_favour c_now_laws c_now_urnHorn c_now_urnBrass c_now_thread c_now_winter c_now_day c_now_chill_use c_now_chill_codes c_now_chill_size c_now_cold_use c_now_cold_codes c_now_cold_size c_now_tape c_now_taped c_now_z c_now_waiting c_now_waits c_kept_folk_size c_kept_folk_kind c_kept_folk_mark c_kept_folk_horn c_kept_folk_brass c_kept_folk_open c_kept_folk_health c_kept_motions c_kept_quorum c_kept_favour c_kept_laws c_kept_urnHorn c_kept_urnBrass c_kept_thread c_kept_winter c_kept_day c_kept_chill_use c_kept_chill_codes c_kept_chill_size c_kept_cold_use c_kept_cold_codes c_kept_cold_size c_kept_tape c_kept_taped c_kept_z c_kept_waiting c_kept_waits c_voices_traces c_voices_traced c_sh_bits c_sh_size c_sh_numbers c_errors c_images m_d m_kept m_images m_found m_traced m_traceMany m_bitsOf m_sizeOf m_number) (p0 : Int32) (p1 : Int32) (p2 : Int32) (p3 : Int32) (p4 : Int32) : ∃ (x_sh_numbers : Nat → Nat → Int32) (x_errors : Nat → Int32) (r : Int32) (y_found : Nat → Int32) (y_number : Nat → Int32) (y_lifted : Nat → Int32), f_X6_move c_sh_bits c_sh_size c_sh_numbers c_errors p0 p1 p2 p3 p4 = some (x_sh_numbers, x_errors, r) ∧ f_X7_move m_found m_bitsOf m_sizeOf m_number m_lifted p0 p1 p2 p3 p4 = some (y_found, y_number, y_lifted, r) ∧ Rel c_now_folk_size c_now_folk_kind c_now_folk_mark c_now_folk_horn c_now_folk_brass c_now_folk_open c_now_folk_health c_now_motions c_now_quorum c_now_favour c_now_laws c_now_urnHorn c_now_urnBrass c_now_thread c_now_winter c_now_day c_now_chill_use c_now_chill_codes c_now_chill_size c_now_cold_use c_now_cold_codes c_now_cold_size c_now_tape c_now_taped c_now_z c_now_waiting c_now_waits c_kept_folk_size c_kept_folk_kind c_kept_folk_mark c_kept_folk_horn c_kept_folk_brass c_kept_folk_open c_kept_folk_health c_kept_motions c_kept_quorum c_kept_favour c_kept_laws c_kept_urnHorn c_kept_urnBrass c_kept_thread c_kept_winter c_kept_day c_kept_chill_use c_kept_chill_codes c_kept_chill_size c_kept_cold_use c_kept_cold_codes c_kept_cold_size c_kept_tape c_kept_taped c_kept_z c_kept_waiting c_kept_waits c_voices_traces c_voices_traced c_sh_bits c_sh_size x_sh_numbers x_errors c_images m_d m_kept m_images y_found m_traced m_traceMany m_bitsOf m_sizeOf y_number := by
  obtain ⟨⟨hPp, hMo, hSc, hTa, hWa, hUs, hCh, hCo⟩, hIm, hKe, hKu, hEr, hTr, hTn, hTg, hSh⟩ := R
  subst hEr
  by_cases hp : inb p0 4 = true
  · obtain ⟨j, hj, rfl⟩ := inb_of hp (by decide)
    by_cases hp2 : inb p2 4 = true
    · obtain ⟨q, hq, rfl⟩ := inb_of hp2 (by decide)
      obtain ⟨s1, s2, s3, ⟨s, hs2, hs⟩, s5⟩ := hSh j hj
      obtain ⟨t1, t2, t3, ⟨t, ht2, ht⟩, t5⟩ := hSh q hq
      by_cases hz : c_sh_bits j = 0
      · refine ⟨?_, ?_, ?_, ?_, ?_, ?_, ?c, ?m, ?r⟩
        case c =>
          simp only [f_X6_move, e6_sheet, bdE1, jnE]
          rw [if_pos hp, if_neg (by decide), if_pos hp2, if_neg (by decide), shA_i hj, shA_i hq, if_pos hz, ef2]
          rfl
        case m =>
          simp only [f_X7_move, e7_sheet, bdE1, jnE]
          rw [if_pos hp, if_neg (by decide), if_pos hp2, if_neg (by decide), rdA_i rfl hj, ← s1, if_pos hz, eg2]
          rfl
        case r => exact ⟨⟨hPp, hMo, hSc, hTa, hWa, hUs, hCh, hCo⟩, hIm, hKe, hKu, rfl, hTr, hTn, hTg, hSh⟩
      · by_cases hy : c_sh_bits q = 0
        · refine ⟨?_, ?_, ?_, ?_, ?_, ?_, ?c, ?m, ?r⟩
          case c =>
            simp only [f_X6_move, e6_sheet, bdE1, jnE]
            rw [if_pos hp, if_neg (by decide), if_pos hp2, if_neg (by decide), shA_i hj, shA_i hq, if_neg hz, if_pos hy, ef2]
            rfl
          case m =>
            simp only [f_X7_move, e7_sheet, bdE1, jnE]
            rw [if_pos hp, if_neg (by decide), if_pos hp2, if_neg (by decide), rdA_i rfl hj, ← s1, if_neg hz, rdA_i rfl hq, ← t1, if_pos hy, eg2]
            rfl
          case r => exact ⟨⟨hPp, hMo, hSc, hTa, hWa, hUs, hCh, hCo⟩, hIm, hKe, hKu, rfl, hTr, hTn, hTg, hSh⟩
        · by_cases hx : c_sh_bits j = c_sh_bits q
          · by_cases G : (0 ≤ p4.toInt ∧ 0 ≤ p1.toInt ∧ 0 ≤ p3.toInt ∧ p1.toInt + p4.toInt ≤ s ∧ p3.toInt + p4.toInt ≤ t)
            · have c0 : (0 : Int32).toInt = 0 := by decide
              obtain ⟨a, ha, e1⟩ := nI_of (x := p1) (by rw [Int32.lt_iff_toInt_lt]; omega)
              obtain ⟨b, hb, e3⟩ := nI_of (x := p3) (by rw [Int32.lt_iff_toInt_lt]; omega)
              obtain ⟨c, hc, e4⟩ := nI_of (x := p4) (by rw [Int32.lt_iff_toInt_lt]; omega)
              have G0 := G
              subst e1
              subst e3
              subst e4
              rw [nI_toInt ha, nI_toInt hb, nI_toInt hc] at G
              refine ⟨va_up c_sh_numbers q (va_cpy (c_sh_numbers j) (c_sh_numbers q) a b c), c_errors, nI c, c_errors, shF (40 * q + b) (ovF (fun i => m_number (40 * j + a + i)) m_lifted c) m_number c, ovF (fun i => m_number (40 * j + a + i)) m_lifted c, ?c, ?m, ?r⟩
              case c =>
                simp only [f_X6_move, e6_sheet, bdE1, jnE]
                rw [if_pos hp, if_neg (by decide), if_pos hp2, if_neg (by decide), shA_i hj, shA_i hq, if_neg hz, if_neg hy, if_pos hx, e2_holds hs hs2, bdE1, b01, if_pos ⟨G0.1, G0.2.1, G0.2.2.2.1⟩, e2_holds ht ht2, bdE1, b01, if_pos ⟨G0.1, G0.2.2.1, G0.2.2.2.2⟩]
                unfold cpA
                rw [nI_clamp ha, nI_clamp hb, nI_clamp hc, if_pos ⟨nI_pos ha, nI_pos hb, nI_pos hc, by omega, by omega⟩]
              case m =>
                simp only [f_X7_move, e7_sheet, bdE1, jnE]
                rw [if_pos hp, if_neg (by decide), if_pos hp2, if_neg (by decide), rdA_i rfl hj, ← s1, if_neg hz, rdA_i rfl hq, ← t1, if_neg hy, rdA_i rfl hj, ← s1, rdA_i rfl hq, ← t1, if_pos hx, rdA_i rfl hj, ← s2, hs, rdA_i rfl hq, ← t2, ht, mv_if hs2 ht2, if_pos G0, e7_lift hj (by omega), e7_lower hq (by omega)]
              case r =>
                refine ⟨⟨hPp, hMo, hSc, hTa, hWa, hUs, hCh, hCo⟩, hIm, hKe, hKu, rfl, hTr, hTn, hTg, fun q2 hq2 => ?_⟩
                obtain ⟨r1, r2, r3, r4, r5⟩ := hSh q2 hq2
                refine ⟨r1, r2, r3, r4, fun i hi => ?_⟩
                by_cases e : q2 = q
                · subst e
                  rw [vup_s]
                  by_cases k : b ≤ i ∧ i < b + c
                  · obtain ⟨i2, rfl⟩ : ∃ i2, i = b + i2 := ⟨i - b, by omega⟩
                    rw [pk_cpy_in k.1 k.2, show 40 * q2 + (b + i2) = 40 * q2 + b + i2 by omega, sh_in (by omega), ov_in (by omega), show b + i2 - b = i2 by omega, show 40 * j + a + i2 = 40 * j + (a + i2) by omega]
                    exact s5 (a + i2) (by omega)
                  · rw [pk_cpy_out (by omega), sh_out (by omega)]
                    exact r5 i hi
                · rw [vup_n e, sh_out (by omega)]
                  exact r5 i hi
            · refine ⟨?_, ?_, ?_, ?_, ?_, ?_, ?c, ?m, ?r⟩
              case c =>
                simp only [f_X6_move, e6_sheet, bdE1, jnE]
                rw [if_pos hp, if_neg (by decide), if_pos hp2, if_neg (by decide), shA_i hj, shA_i hq, if_neg hz, if_neg hy, if_pos hx, e2_holds hs hs2, bdE1, b01]
                by_cases g : 0 ≤ p4.toInt ∧ 0 ≤ p1.toInt ∧ p1.toInt + p4.toInt ≤ s
                · rw [if_pos g, e2_holds ht ht2, bdE1, b01, if_neg (fun z => G ⟨g.1, g.2.1, z.2.1, g.2.2, z.2.2⟩), ef1]
                  rfl
                · rw [if_neg g, ef1]
                  rfl
              case m =>
                simp only [f_X7_move, e7_sheet, bdE1, jnE]
                rw [if_pos hp, if_neg (by decide), if_pos hp2, if_neg (by decide), rdA_i rfl hj, ← s1, if_neg hz, rdA_i rfl hq, ← t1, if_neg hy, rdA_i rfl hj, ← s1, rdA_i rfl hq, ← t1, if_pos hx, rdA_i rfl hj, ← s2, hs, rdA_i rfl hq, ← t2, ht, mv_if hs2 ht2, if_neg G, eg1]
                rfl
              case r => exact ⟨⟨hPp, hMo, hSc, hTa, hWa, hUs, hCh, hCo⟩, hIm, hKe, hKu, rfl, hTr, hTn, hTg, hSh⟩
          · refine ⟨?_, ?_, ?_, ?_, ?_, ?_, ?c, ?m, ?r⟩
            case c =>
              simp only [f_X6_move, e6_sheet, bdE1, jnE]
              rw [if_pos hp, if_neg (by decide), if_pos hp2, if_neg (by decide), shA_i hj, shA_i hq, if_neg hz, if_neg hy, if_neg hx, ef5]
              rfl
            case m =>
              simp only [f_X7_move, e7_sheet, bdE1, jnE]
              rw [if_pos hp, if_neg (by decide), if_pos hp2, if_neg (by decide), rdA_i rfl hj, ← s1, if_neg hz, rdA_i rfl hq, ← t1, if_neg hy, rdA_i rfl hj, ← s1, rdA_i rfl hq, ← t1, if_neg hx, eg5]
              rfl
            case r => exact ⟨⟨hPp, hMo, hSc, hTa, hWa, hUs, hCh, hCo⟩, hIm, hKe, hKu, rfl, hTr, hTn, hTg, hSh⟩
    · refine ⟨?_, ?_, ?_, ?_, ?_, ?_, ?c, ?m, ?r⟩
      case c =>
        simp only [f_X6_move, e6_sheet, bdE1, jnE]
        rw [if_pos hp, if_neg (by decide), if_neg hp2, if_pos rfl, ef1]
        rfl
      case m =>
        simp only [f_X7_move, e7_sheet, bdE1, jnE]
        rw [if_pos hp, if_neg (by decide), if_neg hp2, if_pos rfl, eg1]
        rfl
      case r => exact ⟨⟨hPp, hMo, hSc, hTa, hWa, hUs, hCh, hCo⟩, hIm, hKe, hKu, rfl, hTr, hTn, hTg, hSh⟩
  · refine ⟨?_, ?_, ?_, ?_, ?_, ?_, ?c, ?m, ?r⟩
    case c =>
      simp only [f_X6_move, e6_sheet, bdE1, jnE]
      rw [if_neg hp, if_pos rfl, ef1]
      rfl
    case m =>
      simp only [f_X7_move, e7_sheet, bdE1, jnE]
      rw [if_neg hp, if_pos rfl, eg1]
      rfl
    case r => exact ⟨⟨hPp, hMo, hSc, hTa, hWa, hUs, hCh, hCo⟩, hIm, hKe, hKu, rfl, hTr, hTn, hTg, hSh⟩
