/-! images -/
theorem bdE25 {α1 α2 α3 α4 α5 α6 α7 α8 α9 α10 α11 α12 α13 α14 α15 α16 α17 α18 α19 α20 α21 α22 α23 α24 α25 β : Type} (x1 : α1) (x2 : α2) (x3 : α3) (x4 : α4) (x5 : α5) (x6 : α6) (x7 : α7) (x8 : α8) (x9 : α9) (x10 : α10) (x11 : α11) (x12 : α12) (x13 : α13) (x14 : α14) (x15 : α15) (x16 : α16) (x17 : α17) (x18 : α18) (x19 : α19) (x20 : α20) (x21 : α21) (x22 : α22) (x23 : α23) (x24 : α24) (x25 : α25) (k : α1 → α2 → α3 → α4 → α5 → α6 → α7 → α8 → α9 → α10 → α11 → α12 → α13 → α14 → α15 → α16 → α17 → α18 → α19 → α20 → α21 → α22 → α23 → α24 → α25 → Option β) : bd25 (some (x1, x2, x3, x4, x5, x6, x7, x8, x9, x10, x11, x12, x13, x14, x15, x16, x17, x18, x19, x20, x21, x22, x23, x24, x25)) k = k x1 x2 x3 x4 x5 x6 x7 x8 x9 x10 x11 x12 x13 x14 x15 x16 x17 x18 x19 x20 x21 x22 x23 x24 x25 := (rfl)
theorem cpA_0 {β : Type} {n : Nat} {N : Int32} {f g : Nat → Int32} {k : (Nat → Int32) → Option β} (hN : N = nI n) (h : n < 2 ^ 31) : cpA n n f g 0 0 N k = k (va_cpy f g 0 0 n) := by
  subst hN
  unfold cpA
  have e0 : (0 : Int32).toNatClampNeg = 0 := by decide
  rw [nI_clamp h, e0, if_pos ⟨by decide, by decide, nI_pos h, by omega, by omega⟩]
theorem cpy0 {f g : Nat → Int32} {n j : Nat} (h : j < n) : va_cpy f g 0 0 n j = f j := by
  rw [pk_cpy_in (Nat.zero_le _) (by omega)]
  congr 1
  omega
theorem e3_take {codes nc : Nat → Int32} {size : Int32} {n : Nat} (hn : n ≤ 50) : f_X3_take codes size nc (nI n) = some (ovF nc codes n, nI n) := by
  have L : ∀ (m k fu : Nat), k + m = n → m < fu → f_X3_take_L12 nc (nI n) fu (ovF nc codes k) (nI k) = some (ovF nc codes n, nI n) := by
    intro m
    induction m with
    | zero =>
      intro k fu hk hf
      obtain ⟨fu, rfl⟩ : ∃ q, fu = q + 1 := ⟨fu - 1, by omega⟩
      obtain rfl : k = n := by omega
      simp only [f_X3_take_L12]
      rw [if_pos (nI_le (Nat.le_refl _) (by omega))]
    | succ m ih =>
      intro k fu hk hf
      obtain ⟨fu, rfl⟩ : ∃ q, fu = q + 1 := ⟨fu - 1, by omega⟩
      simp only [f_X3_take_L12]
      rw [if_neg (nI_ge (by omega) (by omega)), if_neg (show ¬ (50 : Int32) ≤ nI k from nI_ge (b := 50) (by omega) (by decide)), rdA_i rfl (by omega), wrA_i rfl (by omega), ov_s]
      simp only [nmE, nI_1]
      exact ih (k + 1) fu (by omega) (by omega)
  have e : minI (nI n) 50 = nI n := by
    unfold minI
    rw [if_neg (show ¬ (50 : Int32) < nI n from nI_nlt (a := 50) hn (by decide))]
  unfold f_X3_take
  rw [e]
  simp only [nmE]
  have R := L n 0 300 (by omega) (by omega)
  rw [ov_z] at R
  exact R
theorem cd_congr {f g : Nat → Int32} : ∀ {n : Nat}, (∀ k, k < n → f k = g k) → cdepth f n = cdepth g n
  | 0, _ => rfl
  | n + 1, h => by
    simp only [cdepth]
    rw [cd_congr (fun k hk => h k (by omega)), h n (by omega)]
theorem TextR.cp {f g : Nat → Int32} {n : Nat} {ds ds' : Int32} {dc dc' : Nat → Int32} (h : TextR f (nI n) ds dc) (hn : n ≤ 50) (e1 : ds' = ds) (e : ∀ k, k < 50 → dc' k = dc k) : TextR (ovF f g n) (nI n) ds' dc' := by
  obtain ⟨n2, h1, h2, h3, h4, h5⟩ := h
  have q : n = n2 := (nI_eq (by omega) (by omega)).mp h2
  subst q
  refine ⟨n, h1, rfl, e1.trans h3, fun k hk => ?_, ?_⟩
  · rw [ov_in hk, e k (by omega)]
    exact h4 k hk
  · rcases h5 with h5 | h5
    · exact Or.inl h5
    · exact Or.inr ((cd_congr (fun k hk => ov_in hk)).trans h5)
set_option maxHeartbeats 1000000 in
theorem e5_copy {a_folk_size : Int32} {a_folk_kind : Nat → Int32} {a_folk_mark : Nat → Int32} {a_folk_horn : Nat → Int32} {a_folk_brass : Nat → Int32} {a_folk_open : Nat → Int32} {a_folk_health : Nat → Int32} {a_motions : Int32} {a_quorum : Nat → Int32} {a_favour : Nat → Int32} {a_laws : Int32} {a_urnHorn : Int32} {a_urnBrass : Int32} {a_thread : Int32} {a_winter : Int32} {a_day : Int32} {a_chill_codes : Nat → Int32} {a_chill_size : Int32} {a_cold_codes : Nat → Int32} {a_cold_size : Int32} {a_tape : Nat → Int32} {a_taped : Int32} {a_z : Int32} {a_waiting : Nat → Int32} {a_waits : Int32} {o_folk_size : Int32} {o_folk_kind : Nat → Int32} {o_folk_mark : Nat → Int32} {o_folk_horn : Nat → Int32} {o_folk_brass : Nat → Int32} {o_folk_open : Nat → Int32} {o_folk_health : Nat → Int32} {o_motions : Int32} {o_quorum : Nat → Int32} {o_favour : Nat → Int32} {o_laws : Int32} {o_urnHorn : Int32} {o_urnBrass : Int32} {o_thread : Int32} {o_winter : Int32} {o_day : Int32} {o_chill_codes : Nat → Int32} {o_cold_codes : Nat → Int32} {o_tape : Nat → Int32} {o_taped : Int32} {o_z : Int32} {o_waiting : Nat → Int32} {o_waits : Int32} {nc ng : Nat} (hc : nc ≤ 50) (hg : ng ≤ 50) : f_X5_copy a_folk_size a_folk_kind a_folk_mark a_folk_horn a_folk_brass a_folk_open a_folk_health a_motions a_quorum a_favour a_laws a_urnHorn a_urnBrass a_thread a_winter a_day a_chill_codes a_chill_size a_cold_codes a_cold_size a_tape a_taped a_z a_waiting a_waits o_folk_size o_folk_kind o_folk_mark o_folk_horn o_folk_brass o_folk_open o_folk_health o_motions o_quorum o_favour o_laws o_urnHorn o_urnBrass o_thread o_winter o_day o_chill_codes (nI nc) o_cold_codes (nI ng) o_tape o_taped o_z o_waiting o_waits = some (o_folk_size, (ovF o_folk_kind a_folk_kind 8), (ovF o_folk_mark a_folk_mark 8), (ovF o_folk_horn a_folk_horn 8), (ovF o_folk_brass a_folk_brass 8), (ovF o_folk_open a_folk_open 8), (ovF o_folk_health a_folk_health 8), o_motions, (va_cpy o_quorum a_quorum 0 0 6), (va_cpy o_favour a_favour 0 0 6), o_laws, o_urnHorn, o_urnBrass, o_thread, o_winter, o_day, (ovF o_chill_codes a_chill_codes nc), (nI nc), (ovF o_cold_codes a_cold_codes ng), (nI ng), (va_cpy o_tape a_tape 0 0 50), o_taped, o_z, (va_cpy o_waiting a_waiting 0 0 20), o_waits) := by
  unfold f_X5_copy
  rw [e0_copy, bdE7, cpA_0 (N := 6) (n := 6) rfl (by decide), cpA_0 (N := 6) (n := 6) rfl (by decide), e3_take hc, bdE2, e3_take hg, bdE2, cpA_0 (N := 50) (n := 50) rfl (by decide), cpA_0 (N := 20) (n := 20) rfl (by decide)]
theorem RelW.cp {a_folk_kind : Nat → Int32} {a_folk_mark : Nat → Int32} {a_folk_horn : Nat → Int32} {a_folk_brass : Nat → Int32} {a_folk_open : Nat → Int32} {a_folk_health : Nat → Int32} {a_quorum : Nat → Int32} {a_favour : Nat → Int32} {a_chill_codes : Nat → Int32} {a_cold_codes : Nat → Int32} {a_tape : Nat → Int32} {a_waiting : Nat → Int32} {o_folk_size : Int32} {o_folk_kind : Nat → Int32} {o_folk_mark : Nat → Int32} {o_folk_horn : Nat → Int32} {o_folk_brass : Nat → Int32} {o_folk_open : Nat → Int32} {o_folk_health : Nat → Int32} {o_motions : Int32} {o_quorum : Nat → Int32} {o_favour : Nat → Int32} {o_laws : Int32} {o_urnHorn : Int32} {o_urnBrass : Int32} {o_thread : Int32} {o_winter : Int32} {o_day : Int32} {o_chill_codes : Nat → Int32} {o_cold_codes : Nat → Int32} {o_tape : Nat → Int32} {o_taped : Int32} {o_z : Int32} {o_waiting : Nat → Int32} {o_waits : Int32} {nc ng : Nat} {cu co cu2 co2 : Int32} {d d2 : Nat → Int32} (R : RelW o_folk_size o_folk_kind o_folk_mark o_folk_horn o_folk_brass o_folk_open o_folk_health o_motions o_quorum o_favour o_laws o_urnHorn o_urnBrass o_thread o_winter o_day cu o_chill_codes (nI nc) co o_cold_codes (nI ng) o_tape o_taped o_z o_waiting o_waits d) (hc : nc ≤ 50) (hg : ng ≤ 50) (u : cu2 = 0 ∧ co2 = 1) (e : ∀ i, i < 248 → d2 i = d i) : RelW o_folk_size (ovF o_folk_kind a_folk_kind 8) (ovF o_folk_mark a_folk_mark 8) (ovF o_folk_horn a_folk_horn 8) (ovF o_folk_brass a_folk_brass 8) (ovF o_folk_open a_folk_open 8) (ovF o_folk_health a_folk_health 8) o_motions (va_cpy o_quorum a_quorum 0 0 6) (va_cpy o_favour a_favour 0 0 6) o_laws o_urnHorn o_urnBrass o_thread o_winter o_day cu2 (ovF o_chill_codes a_chill_codes nc) (nI nc) co2 (ovF o_cold_codes a_cold_codes ng) (nI ng) (va_cpy o_tape a_tape 0 0 50) o_taped o_z (va_cpy o_waiting a_waiting 0 0 20) o_waits d2 := by
  obtain ⟨hPp, hMo, hSc, hTa, hWa, hUs, hCh, hCo⟩ := R
  refine ⟨?_, ?_, hSc.frame (fun i hi => e i (by omega)), ?_, ?_, u, hCh.cp hc (e 76 (by decide)) (fun k hk => e _ (by omega)), hCo.cp hg (e 77 (by decide)) (fun k hk => e _ (by omega))⟩
  · obtain ⟨h1, h2, h3⟩ := hPp.frame (d' := d2) (fun i hi => e i (by omega))
    refine ⟨h1, h2, fun p hp => ?_⟩
    rw [ov_in hp, ov_in hp, ov_in hp, ov_in hp, ov_in hp, ov_in hp]
    exact h3 p hp
  · obtain ⟨h1, h2, h3⟩ := hMo.frame (d' := d2) (fun i hi => e i (by omega))
    refine ⟨h1, h2, fun i hi => ?_⟩
    rw [cpy0 hi, cpy0 hi]
    exact h3 i hi
  · obtain ⟨h1, h2, h3⟩ := hTa.frame (d' := d2) (fun i hi => e i (by omega))
    refine ⟨h1, h2, fun i hi => ?_⟩
    rw [cpy0 hi]
    exact h3 i hi
  · obtain ⟨h1, h2, h3⟩ := hWa.frame (d' := d2) (fun i hi => e i (by omega))
    refine ⟨h1, h2, fun i hi => ?_⟩
    rw [cpy0 hi]
    exact h3 i hi
theorem e7_image {d kept : Nat → Int32} {J : (Nat → Int32) → Option ((Nat → Int32) × (Int32) × (Int32))} : f_X7_image_L2 d J 300 kept 0 = J (ovF d kept 248) := by
  have L : ∀ (m k fu : Nat), k + m = 248 → m < fu → f_X7_image_L2 d J fu (ovF d kept k) (nI k) = J (ovF d kept 248) := by
    intro m
    induction m with
    | zero =>
      intro k fu hk hf
      obtain ⟨fu, rfl⟩ : ∃ q, fu = q + 1 := ⟨fu - 1, by omega⟩
      obtain rfl : k = 248 := by omega
      simp only [f_X7_image_L2]
      rw [if_pos (show (248 : Int32) ≤ nI 248 by decide)]
    | succ m ih =>
      intro k fu hk hf
      obtain ⟨fu, rfl⟩ : ∃ q, fu = q + 1 := ⟨fu - 1, by omega⟩
      simp only [f_X7_image_L2]
      rw [if_neg (show ¬ (248 : Int32) ≤ nI k from nI_ge (b := 248) (by omega) (by decide)), rdA_i rfl (by omega), wrA_i rfl (by omega), ov_s]
      simp only [nmE, nI_1]
      exact ih (k + 1) fu (by omega) (by omega)
  have R := L 248 0 300 (by omega) (by omega)
  rw [ov_z] at R
  exact R
theorem e7_restore {d kept fo : Nat → Int32} : f_X7_restore_L15 kept fo 300 d 0 = some (ovF kept d 248, fo, kept 6) := by
  have L : ∀ (m k fu : Nat), k + m = 248 → m < fu → f_X7_restore_L15 kept fo fu (ovF kept d k) (nI k) = some (ovF kept d 248, fo, kept 6) := by
    intro m
    induction m with
    | zero =>
      intro k fu hk hf
      obtain ⟨fu, rfl⟩ : ∃ q, fu = q + 1 := ⟨fu - 1, by omega⟩
      obtain rfl : k = 248 := by omega
      simp only [f_X7_restore_L15]
      rw [if_pos (show (248 : Int32) ≤ nI 248 by decide), rdA_i (i := 6) (k := 6) rfl (by decide), ov_in (by decide)]
    | succ m ih =>
      intro k fu hk hf
      obtain ⟨fu, rfl⟩ : ∃ q, fu = q + 1 := ⟨fu - 1, by omega⟩
      simp only [f_X7_restore_L15]
      rw [if_neg (show ¬ (248 : Int32) ≤ nI k from nI_ge (b := 248) (by omega) (by decide)), rdA_i rfl (by omega), wrA_i rfl (by omega), ov_s]
      simp only [nmE, nI_1]
      exact ih (k + 1) fu (by omega) (by omega)
  have R := L 248 0 300 (by omega) (by omega)
  rw [ov_z] at R
  exact R
set_option maxHeartbeats 1000000 in
set_option maxRecDepth 10000 in
theorem st_image {c_now_folk_size : Int32} {c_now_folk_kind : Nat → Int32} {c_now_folk_mark : Nat → Int32} {c_now_folk_horn : Nat → Int32} {c_now_folk_brass : Nat → Int32} {c_now_folk_open : Nat → Int32} {c_now_folk_health : Nat → Int32} {c_now_motions : Int32} {c_now_quorum : Nat → Int32} {c_now_favour : Nat → Int32} {c_now_laws : Int32} {c_now_urnHorn : Int32} {c_now_urnBrass : Int32} {c_now_thread : Int32} {c_now_winter : Int32} {c_now_day : Int32} {c_now_chill_use : Int32} {c_now_chill_codes : Nat → Int32} {c_now_chill_size : Int32} {c_now_cold_use : Int32} {c_now_cold_codes : Nat → Int32} {c_now_cold_size : Int32} {c_now_tape : Nat → Int32} {c_now_taped : Int32} {c_now_z : Int32} {c_now_waiting : Nat → Int32} {c_now_waits : Int32} {c_kept_folk_size : Int32} {c_kept_folk_kind : Nat → Int32} {c_kept_folk_mark : Nat → Int32} {c_kept_folk_horn : Nat → Int32} {c_kept_folk_brass : Nat → Int32} {c_kept_folk_open : Nat → Int32} {c_kept_folk_health : Nat → Int32} {c_kept_motions : Int32} {c_kept_quorum : Nat → Int32} {c_kept_favour : Nat → Int32} {c_kept_laws : Int32} {c_kept_urnHorn : Int32} {c_kept_urnBrass : Int32} {c_kept_thread : Int32} {c_kept_winter : Int32} {c_kept_day : Int32} {c_kept_chill_use : Int32} {c_kept_chill_codes : Nat → Int32} {c_kept_chill_size : Int32} {c_kept_cold_use : Int32} {c_kept_cold_codes : Nat → Int32} {c_kept_cold_size : Int32} {c_kept_tape : Nat → Int32} {c_kept_taped : Int32} {c_kept_z : Int32} {c_kept_waiting : Nat → Int32} {c_kept_waits : Int32} {c_voices_traces : Nat → Int32} {c_voices_traced : Int32} {c_sh_bits : Nat → Int32} {c_sh_size : Nat → Int32} {c_sh_numbers : Nat → Nat → Int32} {c_errors : Nat → Int32} {c_images : Int32} {m_d : Nat → Int32} {m_kept : Nat → Int32} {m_images : Int32} {m_found : Nat → Int32} {m_traced : Nat → Int32} {m_traceMany : Int32} {m_bitsOf : Nat → Int32} {m_sizeOf : Nat → Int32} {m_number : Nat → Int32} (R : Rel c_now_folk_size c_now_folk_kind c_now_folk_mark c_now_folk_horn c_now_folk_brass c_now_folk_open c_now_folk_health c_now_motions c_now_quorum c_now_favour c_now_laws c_now_urnHorn c_now_urnBrass c_now_thread c_now_winter c_now_day c_now_chill_use c_now_chill_codes c_now_chill_size c_now_cold_use c_now_cold_codes c_now_cold_size c_now_tape c_now_taped c_now_z c_now_waiting c_now_waits c_kept_folk_size c_kept_folk_kind c_kept_folk_mark c_kept_folk_horn c_kept_folk_brass c_kept_folk_open c_kept_folk_health c_kept_motions c_kept_quorum c_kept_favour c_kept_laws c_kept_urnHorn c_kept_urnBrass c_kept_thread c_kept_winter c_kept_day c_kept_chill_use c_kept_chill_codes c_kept_chill_size c_kept_cold_use c_kept_cold_codes c_kept_cold_size c_kept_tape c_kept_taped c_kept_z c_kept_waiting c_kept_waits c_voices_traces c_voices_traced c_sh_bits c_sh_size c_sh_numbers c_errors c_images m_d m_kept m_images m_found m_traced m_traceMany m_bitsOf m_sizeOf m_number)  : ∃ (x_kept_folk_size : Int32) (x_kept_folk_kind : Nat → Int32) (x_kept_folk_mark : Nat → Int32) (x_kept_folk_horn : Nat → Int32) (x_kept_folk_brass : Nat → Int32) (x_kept_folk_open : Nat → Int32) (x_kept_folk_health : Nat → Int32) (x_kept_motions : Int32) (x_kept_quorum : Nat → Int32) (x_kept_favour : Nat → Int32) (x_kept_laws : Int32) (x_kept_urnHorn : Int32) (x_kept_urnBrass : Int32) (x_kept_thread : Int32) (x_kept_winter : Int32) (x_kept_day : Int32) (x_kept_chill_codes : Nat → Int32) (x_kept_chill_size : Int32) (x_kept_cold_codes : Nat → Int32) (x_kept_cold_size : Int32) (x_kept_tape : Nat → Int32) (x_kept_taped : Int32) (x_kept_z : Int32) (x_kept_waiting : Nat → Int32) (x_kept_waits : Int32) (x_images : Int32) (r : Int32) (y_kept : Nat → Int32) (y_images : Int32), f_X6_image c_now_folk_size c_now_folk_kind c_now_folk_mark c_now_folk_horn c_now_folk_brass c_now_folk_open c_now_folk_health c_now_motions c_now_quorum c_now_favour c_now_laws c_now_urnHorn c_now_urnBrass c_now_thread c_now_winter c_now_day c_now_chill_codes c_now_chill_size c_now_cold_codes c_now_cold_size c_now_tape c_now_taped c_now_z c_now_waiting c_now_waits c_kept_folk_size c_kept_folk_kind c_kept_folk_mark c_kept_folk_horn c_kept_folk_brass c_kept_folk_open c_kept_folk_health c_kept_motions c_kept_quorum c_kept_favour c_kept_laws c_kept_urnHorn c_kept_urnBrass c_kept_thread c_kept_winter c_kept_day c_kept_chill_codes c_kept_chill_size c_kept_cold_codes c_kept_cold_size c_kept_tape c_kept_taped c_kept_z c_kept_waiting c_kept_waits c_images  = some (x_kept_folk_size, x_kept_folk_kind, x_kept_folk_mark, x_kept_folk_horn, x_kept_folk_brass, x_kept_folk_open, x_kept_folk_health, x_kept_motions, x_kept_quorum, x_kept_favour, x_kept_laws, x_kept_urnHorn, x_kept_urnBrass, x_kept_thread, x_kept_winter, x_kept_day, x_kept_chill_codes, x_kept_chill_size, x_kept_cold_codes, x_kept_cold_size, x_kept_tape, x_kept_taped, x_kept_z, x_kept_waiting, x_kept_waits, x_images, r) ∧ f_X7_image m_d m_kept m_images  = some (y_kept, y_images, r) ∧ Rel c_now_folk_size c_now_folk_kind c_now_folk_mark c_now_folk_horn c_now_folk_brass c_now_folk_open c_now_folk_health c_now_motions c_now_quorum c_now_favour c_now_laws c_now_urnHorn c_now_urnBrass c_now_thread c_now_winter c_now_day c_now_chill_use c_now_chill_codes c_now_chill_size c_now_cold_use c_now_cold_codes c_now_cold_size c_now_tape c_now_taped c_now_z c_now_waiting c_now_waits x_kept_folk_size x_kept_folk_kind x_kept_folk_mark x_kept_folk_horn x_kept_folk_brass x_kept_folk_open x_kept_folk_health x_kept_motions x_kept_quorum x_kept_favour x_kept_laws x_kept_urnHorn x_kept_urnBrass x_kept_thread x_kept_winter x_kept_day c_kept_chill_use x_kept_chill_codes x_kept_chill_size c_kept_cold_use x_kept_cold_codes x_kept_cold_size x_kept_tape x_kept_taped x_kept_z x_kept_waiting x_kept_waits c_voices_traces c_voices_traced c_sh_bits c_sh_size c_sh_numbers c_errors x_images m_d y_kept y_images m_found m_traced m_traceMany m_bitsOf m_sizeOf m_number := by
  obtain ⟨⟨hPp, hMo, hSc, hTa, hWa, hUs, hCh, hCo⟩, hIm, hKe, hKu, hEr, hTr, hTn, hTg, hSh⟩ := R
  subst hEr
  have hUs0 := hUs
  obtain ⟨hU0, hU1⟩ := hUs0
  subst hU0
  subst hU1
  obtain ⟨nc, hnc, hX, hY⟩ := TextR_0 hCh
  subst hnc
  obtain ⟨ng, hng, hX1, hY1⟩ := TextR_1 hCo
  subst hng
  have R0 : RelW c_now_folk_size c_now_folk_kind c_now_folk_mark c_now_folk_horn c_now_folk_brass c_now_folk_open c_now_folk_health c_now_motions c_now_quorum c_now_favour c_now_laws c_now_urnHorn c_now_urnBrass c_now_thread c_now_winter c_now_day 0 c_now_chill_codes (nI nc) 1 c_now_cold_codes (nI ng) c_now_tape c_now_taped c_now_z c_now_waiting c_now_waits m_d := ⟨hPp, hMo, hSc, hTa, hWa, hUs, hCh, hCo⟩
  refine ⟨?_, ?_, ?_, ?_, ?_, ?_, ?_, ?_, ?_, ?_, ?_, ?_, ?_, ?_, ?_, ?_, ?_, ?_, ?_, ?_, ?_, ?_, ?_, ?_, ?_, ?_, ?_, ?_, ?_, ?c, ?q7, ?r⟩
  case c =>
    simp only [f_X6_image]
    rw [e5_copy hX.1 hX1.1, bdE25]
    rfl
  case q7 =>
    simp only [f_X7_image, jnE, nmE]
    rw [e7_image, ← hIm]
  case r => exact ⟨R0, rfl, fun _ => R0.cp hX.1 hX1.1 hKu (fun i hi => ov_in hi), hKu, rfl, hTr, hTn, hTg, hSh⟩
set_option maxHeartbeats 1000000 in
set_option maxRecDepth 10000 in
theorem st_restore {c_now_folk_size : Int32} {c_now_folk_kind : Nat → Int32} {c_now_folk_mark : Nat → Int32} {c_now_folk_horn : Nat → Int32} {c_now_folk_brass : Nat → Int32} {c_now_folk_open : Nat → Int32} {c_now_folk_health : Nat → Int32} {c_now_motions : Int32} {c_now_quorum : Nat → Int32} {c_now_favour : Nat → Int32} {c_now_laws : Int32} {c_now_urnHorn : Int32} {c_now_urnBrass : Int32} {c_now_thread : Int32} {c_now_winter : Int32} {c_now_day : Int32} {c_now_chill_use : Int32} {c_now_chill_codes : Nat → Int32} {c_now_chill_size : Int32} {c_now_cold_use : Int32} {c_now_cold_codes : Nat → Int32} {c_now_cold_size : Int32} {c_now_tape : Nat → Int32} {c_now_taped : Int32} {c_now_z : Int32} {c_now_waiting : Nat → Int32} {c_now_waits : Int32} {c_kept_folk_size : Int32} {c_kept_folk_kind : Nat → Int32} {c_kept_folk_mark : Nat → Int32} {c_kept_folk_horn : Nat → Int32} {c_kept_folk_brass : Nat → Int32} {c_kept_folk_open : Nat → Int32} {c_kept_folk_health : Nat → Int32} {c_kept_motions : Int32} {c_kept_quorum : Nat → Int32} {c_kept_favour : Nat → Int32} {c_kept_laws : Int32} {c_kept_urnHorn : Int32} {c_kept_urnBrass : Int32} {c_kept_thread : Int32} {c_kept_winter : Int32} {c_kept_day : Int32} {c_kept_chill_use : Int32} {c_kept_chill_codes : Nat → Int32} {c_kept_chill_size : Int32} {c_kept_cold_use : Int32} {c_kept_cold_codes : Nat → Int32} {c_kept_cold_size : Int32} {c_kept_tape : Nat → Int32} {c_kept_taped : Int32} {c_kept_z : Int32} {c_kept_waiting : Nat → Int32} {c_kept_waits : Int32} {c_voices_traces : Nat → Int32} {c_voices_traced : Int32} {c_sh_bits : Nat → Int32} {c_sh_size : Nat → Int32} {c_sh_numbers : Nat → Nat → Int32} {c_errors : Nat → Int32} {c_images : Int32} {m_d : Nat → Int32} {m_kept : Nat → Int32} {m_images : Int32} {m_found : Nat → Int32} {m_traced : Nat → Int32} {m_traceMany : Int32} {m_bitsOf : Nat → Int32} {m_sizeOf : Nat → Int32} {m_number : Nat → Int32} (R : Rel c_now_folk_size c_now_folk_kind c_now_folk_mark c_now_folk_horn c_now_folk_brass c_now_folk_open c_now_folk_health c_now_motions c_now_quorum c_now_favour c_now_laws c_now_urnHorn c_now_urnBrass c_now_thread c_now_winter c_now_day c_now_chill_use c_now_chill_codes c_now_chill_size c_now_cold_use c_now_cold_codes c_now_cold_size c_now_tape c_now_taped c_now_z c_now_waiting c_now_waits c_kept_folk_size c_kept_folk_kind c_kept_folk_mark c_kept_folk_horn c_kept_folk_brass c_kept_folk_open c_kept_folk_health c_kept_motions c_kept_quorum c_kept_favour c_kept_laws c_kept_urnHorn c_kept_urnBrass c_kept_thread c_kept_winter c_kept_day c_kept_chill_use c_kept_chill_codes c_kept_chill_size c_kept_cold_use c_kept_cold_codes c_kept_cold_size c_kept_tape c_kept_taped c_kept_z c_kept_waiting c_kept_waits c_voices_traces c_voices_traced c_sh_bits c_sh_size c_sh_numbers c_errors c_images m_d m_kept m_images m_found m_traced m_traceMany m_bitsOf m_sizeOf m_number)  : ∃ (x_now_folk_size : Int32) (x_now_folk_kind : Nat → Int32) (x_now_folk_mark : Nat → Int32) (x_now_folk_horn : Nat → Int32) (x_now_folk_brass : Nat → Int32) (x_now_folk_open : Nat → Int32) (x_now_folk_health : Nat → Int32) (x_now_motions : Int32) (x_now_quorum : Nat → Int32) (x_now_favour : Nat → Int32) (x_now_laws : Int32) (x_now_urnHorn : Int32) (x_now_urnBrass : Int32) (x_now_thread : Int32) (x_now_winter : Int32) (x_now_day : Int32) (x_now_chill_codes : Nat → Int32) (x_now_chill_size : Int32) (x_now_cold_codes : Nat → Int32) (x_now_cold_size : Int32) (x_now_tape : Nat → Int32) (x_now_taped : Int32) (x_now_z : Int32) (x_now_waiting : Nat → Int32) (x_now_waits : Int32) (x_errors : Nat → Int32) (r : Int32) (y_d : Nat → Int32) (y_found : Nat → Int32), f_X6_restore c_now_folk_size c_now_folk_kind c_now_folk_mark c_now_folk_horn c_now_folk_brass c_now_folk_open c_now_folk_health c_now_motions c_now_quorum c_now_favour c_now_laws c_now_urnHorn c_now_urnBrass c_now_thread c_now_winter c_now_day c_now_chill_codes c_now_chill_size c_now_cold_codes c_now_cold_size c_now_tape c_now_taped c_now_z c_now_waiting c_now_waits c_kept_folk_size c_kept_folk_kind c_kept_folk_mark c_kept_folk_horn c_kept_folk_brass c_kept_folk_open c_kept_folk_health c_kept_motions c_kept_quorum c_kept_favour c_kept_laws c_kept_urnHorn c_kept_urnBrass c_kept_thread c_kept_winter c_kept_day c_kept_chill_codes c_kept_chill_size c_kept_cold_codes c_kept_cold_size c_kept_tape c_kept_taped c_kept_z c_kept_waiting c_kept_waits c_errors c_images  = some (x_now_folk_size, x_now_folk_kind, x_now_folk_mark, x_now_folk_horn, x_now_folk_brass, x_now_folk_open, x_now_folk_health, x_now_motions, x_now_quorum, x_now_favour, x_now_laws, x_now_urnHorn, x_now_urnBrass, x_now_thread, x_now_winter, x_now_day, x_now_chill_codes, x_now_chill_size, x_now_cold_codes, x_now_cold_size, x_now_tape, x_now_taped, x_now_z, x_now_waiting, x_now_waits, x_errors, r) ∧ f_X7_restore m_d m_kept m_images m_found  = some (y_d, y_found, r) ∧ Rel x_now_folk_size x_now_folk_kind x_now_folk_mark x_now_folk_horn x_now_folk_brass x_now_folk_open x_now_folk_health x_now_motions x_now_quorum x_now_favour x_now_laws x_now_urnHorn x_now_urnBrass x_now_thread x_now_winter x_now_day c_now_chill_use x_now_chill_codes x_now_chill_size c_now_cold_use x_now_cold_codes x_now_cold_size x_now_tape x_now_taped x_now_z x_now_waiting x_now_waits c_kept_folk_size c_kept_folk_kind c_kept_folk_mark c_kept_folk_horn c_kept_folk_brass c_kept_folk_open c_kept_folk_health c_kept_motions c_kept_quorum c_kept_favour c_kept_laws c_kept_urnHorn c_kept_urnBrass c_kept_thread c_kept_winter c_kept_day c_kept_chill_use c_kept_chill_codes c_kept_chill_size c_kept_cold_use c_kept_cold_codes c_kept_cold_size c_kept_tape c_kept_taped c_kept_z c_kept_waiting c_kept_waits c_voices_traces c_voices_traced c_sh_bits c_sh_size c_sh_numbers x_errors c_images y_d m_kept m_images y_found m_traced m_traceMany m_bitsOf m_sizeOf m_number := by
  obtain ⟨⟨hPp, hMo, hSc, hTa, hWa, hUs, hCh, hCo⟩, hIm, hKe, hKu, hEr, hTr, hTn, hTg, hSh⟩ := R
  subst hEr
  by_cases hz : c_images = 0
  · refine ⟨?_, ?_, ?_, ?_, ?_, ?_, ?_, ?_, ?_, ?_, ?_, ?_, ?_, ?_, ?_, ?_, ?_, ?_, ?_, ?_, ?_, ?_, ?_, ?_, ?_, ?_, ?_, ?_, ?_, ?c, ?q7, ?r⟩
    case c =>
      simp only [f_X6_restore]
      rw [if_pos hz, ef2]
      rfl
    case q7 =>
      simp only [f_X7_restore]
      rw [← hIm, if_pos hz, eg2]
      rfl
    case r => exact ⟨⟨hPp, hMo, hSc, hTa, hWa, hUs, hCh, hCo⟩, hIm, hKe, hKu, rfl, hTr, hTn, hTg, hSh⟩
  · have K := hKe hz
    have K0 := K
    obtain ⟨kPp, kMo, kSc, kTa, kWa, kUs, kCh, kCo⟩ := K0
    obtain ⟨nc, hnc, hX, hY⟩ := TextR_0 kCh
    obtain ⟨ng, hng, hX1, hY1⟩ := TextR_1 kCo
    subst hnc
    subst hng
    refine ⟨?_, ?_, ?_, ?_, ?_, ?_, ?_, ?_, ?_, ?_, ?_, ?_, ?_, ?_, ?_, ?_, ?_, ?_, ?_, ?_, ?_, ?_, ?_, ?_, ?_, ?_, ?_, ?_, ?_, ?c, ?q7, ?r⟩
    case c =>
      simp only [f_X6_restore]
      rw [if_neg hz, e5_copy hX.1 hX1.1, bdE25]
    case q7 =>
      simp only [f_X7_restore]
      rw [← hIm, if_neg hz, e7_restore, kSc.2.2.2.2.1.1]
    case r => exact ⟨K.cp hX.1 hX1.1 hUs (fun i hi => ov_in hi), hIm, hKe, hKu, rfl, hTr, hTn, hTg, hSh⟩
