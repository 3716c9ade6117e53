/-! what would be, more -/
theorem FD.fr {kind mark horn brass open_ health d d' : Nat → Int32} (D : FD kind mark horn brass open_ health d) (e : ∀ i, 10 ≤ i → i < 58 → d' i = d i) : FD kind mark horn brass open_ health d' := by
  intro p hp
  obtain ⟨d1, d2, d3, d4, d5, d6⟩ := D p hp
  exact ⟨by rw [e _ (by omega) (by omega)]; exact d1, by rw [e _ (by omega) (by omega)]; exact d2, by rw [e _ (by omega) (by omega)]; exact d3, by rw [e _ (by omega) (by omega)]; exact d4, by rw [e _ (by omega) (by omega)]; exact d5, by rw [e _ (by omega) (by omega)]; exact d6⟩
theorem xr8 {s k : Nat} (hs : s ≤ 255) (hk : k < 8) : nI s ^^^ (1 <<< (nI k &&& 31)) = nI (s ^^^ 2 ^ k) ∧ s ^^^ 2 ^ k ≤ 255 := by
  revert k
  revert s
  decide +kernel
theorem fz_b {h : Nat → Int32} : ∀ m k, k ≤ fzN h k m ∧ fzN h k m ≤ k + m + 1
  | 0, k => by
    simp only [fzN]
    split <;> omega
  | m + 1, k => by
    obtain ⟨i1, i2⟩ := fz_b (h := h) m (k + 1)
    simp only [fzN]
    split <;> omega
/-- 0 where one with so much less open lives then -/
def alF (f : Nat → Int32) (nc : Nat) (k m : Int32) (o : Nat) (cold : Nat → Int32) (hl : Int32) (N : Nat) : Nat → Int32 := fun j => if tjI f nc k m (nI o - nI j) cold hl N = 0 then 1 else 0
theorem e6_fewest {kind mark open_ health f colds cold : Nat → Int32} {nc p N o : Nat} (h : TX f nc) (hp : p < 8) (hk : rg 6 (kind p)) (ho : open_ p = nI o) (ho2 : o ≤ 99) (hN : N ≤ 60) (hc : ∀ k, k < N → colds k = cold k) (st : Nat → Int32) : ∃ st', f_X6_fewestSewn kind mark open_ health 0 f (nI nc) st colds (nI p) (nI N) = some (st', if fzN (alF f nc (kind p) (mark p) o cold (health p) N) 0 o ≤ o then nI (fzN (alF f nc (kind p) (mark p) o cold (health p) N) 0 o) else -1) := by
  have L : ∀ (m k fu : Nat) (st : Nat → Int32), k + m = o → m + 1 < fu → ∃ st', f_X6_fewestSewn_L16 kind mark health 0 f (nI nc) colds (nI p) (nI N) (nI o) fu st (nI k) = some (st', if fzN (alF f nc (kind p) (mark p) o cold (health p) N) k m ≤ o then nI (fzN (alF f nc (kind p) (mark p) o cold (health p) N) k m) else -1) := by
    intro m
    induction m with
    | zero =>
      intro k fu st hk' hf
      obtain ⟨fu, rfl⟩ : ∃ q, fu = q + 1 := ⟨fu - 1, by omega⟩
      obtain rfl : k = o := by omega
      simp only [f_X6_fewestSewn_L16]
      obtain ⟨s2, e⟩ := e6_lasts (mark := mark) (o := nI k - nI k) (health := health) h hp hk hN hc st
      rw [if_neg (nI_nlt (Nat.le_refl _) (by omega)), e, bdE2]
      by_cases z : tjI f nc (kind p) (mark p) (nI k - nI k) cold (health p) N = 0
      · have a : alF f nc (kind p) (mark p) k cold (health p) N k = 1 := if_pos z
        have v : fzN (alF f nc (kind p) (mark p) k cold (health p) N) k 0 = k + 1 := by
          simp only [fzN]
          rw [a, if_neg (by decide)]
        rw [if_pos z, if_pos rfl, v, if_neg (by omega)]
        simp only [nmE]
        obtain ⟨fu, rfl⟩ : ∃ q, fu = q + 1 := ⟨fu - 1, by omega⟩
        simp only [f_X6_fewestSewn_L16]
        rw [nI_1, if_pos (nI_lt (by omega) (by omega))]
        exact ⟨_, rfl⟩
      · have a : alF f nc (kind p) (mark p) k cold (health p) N k = 0 := if_neg z
        have v : fzN (alF f nc (kind p) (mark p) k cold (health p) N) k 0 = k := by
          simp only [fzN]
          rw [a, if_pos rfl]
        rw [if_neg z, if_neg (by decide), v, if_pos (Nat.le_refl _)]
        exact ⟨_, rfl⟩
    | succ m ih =>
      intro k fu st hk' hf
      obtain ⟨fu, rfl⟩ : ∃ q, fu = q + 1 := ⟨fu - 1, by omega⟩
      simp only [f_X6_fewestSewn_L16]
      obtain ⟨s2, e⟩ := e6_lasts (mark := mark) (o := nI o - nI k) (health := health) h hp hk hN hc st
      rw [if_neg (nI_nlt (by omega) (by omega)), e, bdE2]
      by_cases z : tjI f nc (kind p) (mark p) (nI o - nI k) cold (health p) N = 0
      · have a : alF f nc (kind p) (mark p) o cold (health p) N k = 1 := if_pos z
        have v : fzN (alF f nc (kind p) (mark p) o cold (health p) N) k (m + 1) = fzN (alF f nc (kind p) (mark p) o cold (health p) N) (k + 1) m := by
          simp only [fzN]
          rw [a, if_neg (by decide)]
        rw [if_pos z, if_pos rfl, v]
        simp only [nmE]
        rw [nI_1]
        exact ih (k + 1) fu s2 (by omega) (by omega)
      · have a : alF f nc (kind p) (mark p) o cold (health p) N k = 0 := if_neg z
        have v : fzN (alF f nc (kind p) (mark p) o cold (health p) N) k (m + 1) = k := by
          simp only [fzN]
          rw [a, if_pos rfl]
        rw [if_neg z, if_neg (by decide), v, if_pos (by omega)]
        exact ⟨_, rfl⟩
  unfold f_X6_fewestSewn
  rw [rdA_i rfl hp, ho]
  exact L o 0 300 st (by omega) (by omega)
theorem e7_fewest {kind mark horn brass open_ health f d ca cold : Nat → Int32} {nc p N o : Nat} (H : FW kind mark horn brass open_ health) (D : FD kind mark horn brass open_ health d) (h : TX f nc) (h2 : TD f nc 0 d) (hp : p < 8) (ho : open_ p = nI o) (ho2 : o ≤ 99) (hl : ¬ health p = 0) (hN : N ≤ 60) (hc : ∀ k, k < N → ca k = cold k) (J : (Nat → Int32) → (Nat → Int32) → (Nat → Int32) → Int32 → Option ((Nat → Int32) × (Nat → Int32) × (Nat → Int32) × (Nat → Int32) × (Nat → Int32) × (Int32))) (names pile : Nat → Int32) : ∃ names' pile', f_X7_tailor_L40 (nI N) ca (nI p) J 300 d names pile 0 = J d names' pile' (nI (fzN (alF f nc (kind p) (mark p) o cold (health p) N) 0 o)) := by
  have d5 : d (14 + 6 * p) = nI o := (D p hp).2.2.2.2.1.trans ho
  have d6 : d (15 + 6 * p) = health p := (D p hp).2.2.2.2.2
  have L : ∀ (m k fu : Nat) (names pile : Nat → Int32), k + m = o → m + 1 < fu → ∃ names' pile', f_X7_tailor_L40 (nI N) ca (nI p) J fu d names pile (nI k) = J d names' pile' (nI (fzN (alF f nc (kind p) (mark p) o cold (health p) N) k m)) := by
    intro m
    induction m with
    | zero =>
      intro k fu names pile hk' hf
      obtain ⟨fu, rfl⟩ : ∃ q, fu = q + 1 := ⟨fu - 1, by omega⟩
      obtain rfl : k = o := by omega
      simp only [f_X7_tailor_L40, fzN]
      obtain ⟨n1, p1, e⟩ := e7_lives (o := nI k - nI k) H D h h2 hp hN hc names pile
      simp only [e7_dead hp, eo4 hp, d5, d6, bdE1]
      rw [if_neg hl, if_pos rfl, if_neg (nI_nlt (Nat.le_refl _) (by omega)), e, bdE4]
      by_cases z : tjI f nc (kind p) (mark p) (nI k - nI k) cold (health p) N = 0
      · have a : alF f nc (kind p) (mark p) k cold (health p) N k = 1 := if_pos z
        rw [if_pos z, if_pos rfl, a, if_neg (show ¬ (1 : Int32) = 0 by decide)]
        simp only [nmE]
        obtain ⟨fu, rfl⟩ : ∃ q, fu = q + 1 := ⟨fu - 1, by omega⟩
        simp only [f_X7_tailor_L40, e7_dead hp, eo4 hp, d5, d6, bdE1]
        rw [nI_1, if_neg hl, if_pos rfl, if_pos (nI_lt (by omega) (by omega))]
        exact ⟨_, _, rfl⟩
      · have a : alF f nc (kind p) (mark p) k cold (health p) N k = 0 := if_neg z
        rw [if_neg z, if_neg (by decide), a, if_pos rfl]
        exact ⟨_, _, rfl⟩
    | succ m ih =>
      intro k fu names pile hk' hf
      obtain ⟨fu, rfl⟩ : ∃ q, fu = q + 1 := ⟨fu - 1, by omega⟩
      simp only [f_X7_tailor_L40, fzN]
      obtain ⟨n1, p1, e⟩ := e7_lives (o := nI o - nI k) H D h h2 hp hN hc names pile
      simp only [e7_dead hp, eo4 hp, d5, d6, bdE1]
      rw [if_neg hl, if_pos rfl, if_neg (nI_nlt (by omega) (by omega)), e, bdE4]
      by_cases z : tjI f nc (kind p) (mark p) (nI o - nI k) cold (health p) N = 0
      · have a : alF f nc (kind p) (mark p) o cold (health p) N k = 1 := if_pos z
        rw [if_pos z, if_pos rfl, a, if_neg (by decide)]
        simp only [nmE]
        rw [nI_1]
        exact ih (k + 1) fu n1 p1 (by omega) (by omega)
      · have a : alF f nc (kind p) (mark p) o cold (health p) N k = 0 := if_neg z
        rw [if_neg z, if_neg (by decide), a, if_pos rfl]
        exact ⟨_, _, rfl⟩
  exact L o 0 300 names pile (by omega) (by omega)
theorem e7_tdead {d ca names pile : Nat → Int32} {p fu : Nat} {P x : Int32} {J : (Nat → Int32) → (Nat → Int32) → (Nat → Int32) → Int32 → Option ((Nat → Int32) × (Nat → Int32) × (Nat → Int32) × (Nat → Int32) × (Nat → Int32) × (Int32))} (hp : p < 8) (h : d (15 + 6 * p) = 0) : f_X7_tailor_L40 P ca (nI p) J (fu + 1) d names pile x = J d names pile x := by
  simp only [f_X7_tailor_L40, e7_dead hp, bdE1]
  rw [if_pos h, if_neg (by decide)]
theorem lv_iff {h h' : Nat → Int32} : ∀ {n : Nat}, lvN h n = lvN h' n ↔ ∀ p, p < n → (h p = 0 ↔ h' p = 0)
  | 0 => ⟨fun _ p hp => absurd hp (by omega), fun _ => rfl⟩
  | n + 1 => by
    have ih := lv_iff (h := h) (h' := h') (n := n)
    have l1 := lvn_lt (health := h) n
    have l2 := lvn_lt (health := h') n
    simp only [lvN]
    constructor
    · intro e
      by_cases z : h n = 0
      · rw [if_pos z] at e
        by_cases y : h' n = 0
        · rw [if_pos y] at e
          intro p hp
          by_cases q : p = n
          · rw [q]
            exact ⟨fun _ => y, fun _ => z⟩
          · exact ih.mp e p (by omega)
        · rw [if_neg y] at e
          omega
      · rw [if_neg z] at e
        by_cases y : h' n = 0
        · rw [if_pos y] at e
          omega
        · rw [if_neg y] at e
          intro p hp
          by_cases q : p = n
          · rw [q]
            exact ⟨fun w => absurd w z, fun w => absurd w y⟩
          · exact ih.mp (by omega) p (by omega)
    · intro e
      have i := ih.mpr (fun p hp => e p (by omega))
      have j := e n (by omega)
      by_cases z : h n = 0
      · rw [if_pos z, if_pos (j.mp z), i]
      · rw [if_neg z, if_neg (fun w => z (j.mpr w)), i]
theorem lv8 {h : Nat → Int32} {n : Nat} (hn : n ≤ 8) : lvN h n < 2 ^ 31 := Nat.lt_of_lt_of_le (lvn_lt n) (Nat.pow_le_pow_right (by decide) (by omega))
theorem e6_harderP {kind mark horn brass open_ health f colds cold er cs : Nat → Int32} {nc n N : Nat} {wt : Int32} (H : FW kind mark horn brass open_ health) (hn : n ≤ 8) (h : TX f nc) (hN : N ≤ 60) (hc : ∀ k, k < N → colds k = cold k) (J : (Nat → Int32) → Option ((Nat → Int32) × (Nat → Int32) × (Nat → Int32) × (Nat → Int32) × (Int32))) : ∀ (m k fu : Nat) (st : Nat → Int32), k + m = n → m < fu → ((∀ p, k ≤ p → p < n → health p = 0 ∨ ¬ tjI f nc (kind p) (mark p) (open_ p) cold (health p) N = 0) ∧ ∃ st', f_X6_harder_L41 (nI n) kind mark open_ health 0 f (nI nc) er (nI N) wt cs colds J fu st (nI k) = J st') ∨ ((∃ p, p < n ∧ ¬ health p = 0 ∧ tjI f nc (kind p) (mark p) (open_ p) cold (health p) N = 0) ∧ ∃ st', f_X6_harder_L41 (nI n) kind mark open_ health 0 f (nI nc) er (nI N) wt cs colds J fu st (nI k) = some (st', cs, colds, er, wt)) := by
  intro m
  induction m with
  | zero =>
    intro k fu st hk hf
    obtain ⟨fu, rfl⟩ : ∃ q, fu = q + 1 := ⟨fu - 1, by omega⟩
    obtain rfl : k = n := by omega
    simp only [f_X6_harder_L41]
    rw [if_pos (nI_le (Nat.le_refl _) (by omega))]
    exact Or.inl ⟨fun p h1 h2 => absurd h1 (by omega), ⟨_, rfl⟩⟩
  | succ m ih =>
    intro k fu st hk hf
    obtain ⟨fu, rfl⟩ : ∃ q, fu = q + 1 := ⟨fu - 1, by omega⟩
    obtain ⟨x, hx, ex⟩ := (H k (by omega)).2.2.2.2.2
    simp only [f_X6_harder_L41, jnE, nmE, nI_1]
    rw [if_neg (nI_ge (by omega) (by omega)), rdA_i rfl (by omega)]
    have next : ∀ st2, (health k = 0 ∨ ¬ tjI f nc (kind k) (mark k) (open_ k) cold (health k) N = 0) → ((∀ p, k ≤ p → p < n → health p = 0 ∨ ¬ tjI f nc (kind p) (mark p) (open_ p) cold (health p) N = 0) ∧ ∃ st', f_X6_harder_L41 (nI n) kind mark open_ health 0 f (nI nc) er (nI N) wt cs colds J fu st2 (nI (k + 1)) = J st') ∨ ((∃ p, p < n ∧ ¬ health p = 0 ∧ tjI f nc (kind p) (mark p) (open_ p) cold (health p) N = 0) ∧ ∃ st', f_X6_harder_L41 (nI n) kind mark open_ health 0 f (nI nc) er (nI N) wt cs colds J fu st2 (nI (k + 1)) = some (st', cs, colds, er, wt)) := by
      intro st2 ok
      rcases ih (k + 1) fu st2 (by omega) (by omega) with ⟨a, b⟩ | ⟨a, b⟩
      · refine Or.inl ⟨fun p h1 h2 => ?_, b⟩
        by_cases e : p = k
        · rw [e]
          exact ok
        · exact a p (by omega) h2
      · exact Or.inr ⟨a, b⟩
    by_cases z : health k = 0
    · rw [if_pos (show health k ≤ 0 by rw [z]; decide)]
      exact next st (Or.inl z)
    · have z2 : ¬ health k ≤ 0 := by
        rw [ex]
        refine nI_nle ?_ (by omega)
        rcases Nat.eq_zero_or_pos x with q | q
        · exact absurd (by rw [ex, q]; rfl) z
        · exact q
      obtain ⟨s2, e⟩ := e6_lasts (mark := mark) (o := open_ k) (health := health) h (show k < 8 by omega) (H k (by omega)).1 hN hc st
      rw [if_neg z2, rdA_i rfl (by omega), e, bdE2]
      by_cases y : tjI f nc (kind k) (mark k) (open_ k) cold (health k) N = 0
      · rw [if_pos y, if_pos rfl]
        exact Or.inr ⟨⟨k, by omega, z, y⟩, ⟨_, rfl⟩⟩
      · rw [if_neg y, if_neg (by decide)]
        exact next s2 (Or.inr y)
set_option maxHeartbeats 1000000 in
set_option maxRecDepth 10000 in
theorem st_turning {c_now_folk_size : Int32} {c_now_folk_kind : Nat → Int32} {c_now_folk_mark : Nat → Int32} {c_now_folk_horn : Nat → Int32} {c_now_folk_brass : Nat → Int32} {c_now_folk_open : Nat → Int32} {c_now_folk_health : Nat → Int32} {c_now_motions : Int32} {c_now_quorum : Nat → Int32} {c_now_favour : Nat → Int32} {c_now_laws : Int32} {c_now_urnHorn : Int32} {c_now_urnBrass : Int32} {c_now_thread : Int32} {c_now_winter : Int32} {c_now_day : Int32} {c_now_chill_use : Int32} {c_now_chill_codes : Nat → Int32} {c_now_chill_size : Int32} {c_now_cold_use : Int32} {c_now_cold_codes : Nat → Int32} {c_now_cold_size : Int32} {c_now_tape : Nat → Int32} {c_now_taped : Int32} {c_now_z : Int32} {c_now_waiting : Nat → Int32} {c_now_waits : Int32} {c_kept_folk_size : Int32} {c_kept_folk_kind : Nat → Int32} {c_kept_folk_mark : Nat → Int32} {c_kept_folk_horn : Nat → Int32} {c_kept_folk_brass : Nat → Int32} {c_kept_folk_open : Nat → Int32} {c_kept_folk_health : Nat → Int32} {c_kept_motions : Int32} {c_kept_quorum : Nat → Int32} {c_kept_favour : Nat → Int32} {c_kept_laws : Int32} {c_kept_urnHorn : Int32} {c_kept_urnBrass : Int32} {c_kept_thread : Int32} {c_kept_winter : Int32} {c_kept_day : Int32} {c_kept_chill_use : Int32} {c_kept_chill_codes : Nat → Int32} {c_kept_chill_size : Int32} {c_kept_cold_use : Int32} {c_kept_cold_codes : Nat → Int32} {c_kept_cold_size : Int32} {c_kept_tape : Nat → Int32} {c_kept_taped : Int32} {c_kept_z : Int32} {c_kept_waiting : Nat → Int32} {c_kept_waits : Int32} {c_voices_traces : Nat → Int32} {c_voices_traced : Int32} {c_sh_bits : Nat → Int32} {c_sh_size : Nat → Int32} {c_sh_numbers : Nat → Nat → Int32} {c_errors : Nat → Int32} {c_images : Int32} {m_d : Nat → Int32} {m_kept : Nat → Int32} {m_images : Int32} {m_found : Nat → Int32} {m_horn : Int32} {m_brass : Int32} {m_traced : Nat → Int32} {m_traceMany : Int32} {m_bitsOf : Nat → Int32} {m_sizeOf : Nat → Int32} {m_number : Nat → Int32} (R : Rel c_now_folk_size c_now_folk_kind c_now_folk_mark c_now_folk_horn c_now_folk_brass c_now_folk_open c_now_folk_health c_now_motions c_now_quorum c_now_favour c_now_laws c_now_urnHorn c_now_urnBrass c_now_thread c_now_winter c_now_day c_now_chill_use c_now_chill_codes c_now_chill_size c_now_cold_use c_now_cold_codes c_now_cold_size c_now_tape c_now_taped c_now_z c_now_waiting c_now_waits c_kept_folk_size c_kept_folk_kind c_kept_folk_mark c_kept_folk_horn c_kept_folk_brass c_kept_folk_open c_kept_folk_health c_kept_motions c_kept_quorum c_kept_favour c_kept_laws c_kept_urnHorn c_kept_urnBrass c_kept_thread c_kept_winter c_kept_day c_kept_chill_use c_kept_chill_codes c_kept_chill_size c_kept_cold_use c_kept_cold_codes c_kept_cold_size c_kept_tape c_kept_taped c_kept_z c_kept_waiting c_kept_waits c_voices_traces c_voices_traced c_sh_bits c_sh_size c_sh_numbers c_errors c_images m_d m_kept m_images m_found m_traced m_traceMany m_bitsOf m_sizeOf m_number) (p0 : Int32) : ∃ (x_errors : Nat → Int32) (r : Int32) (y_d : Nat → Int32) (y_found : Nat → Int32) (y_horn : Int32) (y_brass : Int32), f_X6_turning c_now_folk_size c_now_folk_kind c_now_folk_mark c_now_folk_horn c_now_folk_brass c_now_folk_health c_now_motions c_now_quorum c_now_favour c_errors p0 = some (x_errors, r) ∧ f_X7_turning m_d m_found m_horn m_brass p0 = some (y_d, y_found, y_horn, y_brass, r) ∧ Rel c_now_folk_size c_now_folk_kind c_now_folk_mark c_now_folk_horn c_now_folk_brass c_now_folk_open c_now_folk_health c_now_motions c_now_quorum c_now_favour c_now_laws c_now_urnHorn c_now_urnBrass c_now_thread c_now_winter c_now_day c_now_chill_use c_now_chill_codes c_now_chill_size c_now_cold_use c_now_cold_codes c_now_cold_size c_now_tape c_now_taped c_now_z c_now_waiting c_now_waits c_kept_folk_size c_kept_folk_kind c_kept_folk_mark c_kept_folk_horn c_kept_folk_brass c_kept_folk_open c_kept_folk_health c_kept_motions c_kept_quorum c_kept_favour c_kept_laws c_kept_urnHorn c_kept_urnBrass c_kept_thread c_kept_winter c_kept_day c_kept_chill_use c_kept_chill_codes c_kept_chill_size c_kept_cold_use c_kept_cold_codes c_kept_cold_size c_kept_tape c_kept_taped c_kept_z c_kept_waiting c_kept_waits c_voices_traces c_voices_traced c_sh_bits c_sh_size c_sh_numbers x_errors c_images y_d m_kept m_images y_found m_traced m_traceMany m_bitsOf m_sizeOf m_number := by
  obtain ⟨⟨hPp, hMo, hSc, hTa, hWa, hUs, hCh, hCo⟩, hIm, hKe, hKu, hEr, hTr, hTn, hTg, hSh⟩ := R
  subst hEr
  obtain ⟨n, hn, hsz, hD0, H, D⟩ := PplR_out hPp
  subst hsz
  obtain ⟨mo, w, hmo, hlw, hL, hQ⟩ := MotR_out hMo
  subst hmo
  subst hlw
  have hmo6 : mo ≤ 6 := hL.1
  by_cases hp : inb p0 mo = true
  · obtain ⟨m, hm, rfl⟩ := inb_of hp (by omega)
    obtain ⟨q1, ⟨s, hs, q2⟩, q3, q4⟩ := hQ m (by omega)
    obtain ⟨a1, b1, e1⟩ := e7_wouldPass H D hD0 hn (show m < 6 by omega) (q4.trans q2) hs m_horn m_brass
    rw [q3] at e1
    have L : ∀ (R4 : Int32) (J : (Nat → Int32) → Int32 → Int32 → Int32 → Option ((Nat → Int32) × (Nat → Int32) × (Int32) × (Int32) × (Int32))) (k2 k fu fu2 : Nat) (acc : Int32) (dk : Nat → Int32) (a b : Int32), k + k2 = n → k2 < fu → k2 < fu2 → (∀ i, i ≠ 59 + 3 * m → dk i = m_d i) → ∃ r d' a' b', f_X6_turning_L57 (nI n) c_now_folk_kind c_now_folk_mark c_now_folk_horn c_now_folk_brass c_now_folk_health c_errors (nI s) (c_now_quorum m) R4 fu acc (nI k) = some (c_errors, r) ∧ f_X7_turning_L33 (nI m) R4 (nI s) J fu2 dk a b acc (nI k) = J d' a' b' r ∧ (∀ i, i ≠ 59 + 3 * m → d' i = m_d i) := by
      intro R4 J k2
      induction k2 with
      | zero =>
        intro k fu fu2 acc dk a b hk hf hf2 F
        obtain ⟨fu, rfl⟩ : ∃ q, fu = q + 1 := ⟨fu - 1, by omega⟩
        obtain ⟨fu2, rfl⟩ : ∃ q, fu2 = q + 1 := ⟨fu2 - 1, by omega⟩
        obtain rfl : k = n := by omega
        simp only [f_X6_turning_L57, f_X7_turning_L33]
        rw [if_pos (nI_le (Nat.le_refl _) (by omega)), rdA_i (i := 0) (k := 0) rfl (by decide), F 0 (by omega), hD0, if_pos (nI_le (Nat.le_refl _) (by omega))]
        exact ⟨_, _, _, _, rfl, rfl, F⟩
      | succ k2 ih =>
        intro k fu fu2 acc dk a b hk hf hf2 F
        obtain ⟨fu, rfl⟩ : ∃ q, fu = q + 1 := ⟨fu - 1, by omega⟩
        obtain ⟨fu2, rfl⟩ : ∃ q, fu2 = q + 1 := ⟨fu2 - 1, by omega⟩
        obtain ⟨x1, x2⟩ := xr8 (k := k) hs (by omega)
        have F2 : ∀ i, i ≠ 59 + 3 * m → upd dk (59 + 3 * m) (nI (s ^^^ 2 ^ k)) i = m_d i := fun i hi => by rw [upd_n hi]; exact F i hi
        obtain ⟨a2, b2, e2⟩ := e7_wouldPass (d := upd dk (59 + 3 * m) (nI (s ^^^ 2 ^ k))) H (D.fr (fun i h1 h2 => F2 i (by omega))) ((F2 0 (by omega)).trans hD0) hn (show m < 6 by omega) upd_s x2 a b
        rw [F2 (58 + 3 * m) (by omega), q3] at e2
        simp only [f_X6_turning_L57, f_X7_turning_L33, x1]
        rw [if_neg (nI_ge (by omega) (by omega)), e0_wouldPass H hn, bdE1, rdA_i (i := 0) (k := 0) rfl (by decide), F 0 (by omega), hD0, if_neg (nI_ge (by omega) (by omega)), wrA_i em1x (by omega), e2, bdE3]
        simp only [jnE, nmE, nI_1]
        by_cases z : wpI c_now_folk_kind c_now_folk_mark c_now_folk_horn c_now_folk_brass c_now_folk_health n (nI (s ^^^ 2 ^ k)) (c_now_quorum m) = R4
        · rw [if_pos z, if_pos z, Int32.or_zero]
          exact ih (k + 1) fu fu2 acc _ a2 b2 (by omega) (by omega) (by omega) F2
        · rw [if_neg z, if_neg z]
          exact ih (k + 1) fu fu2 _ _ a2 b2 (by omega) (by omega) (by omega) F2
    obtain ⟨r, d', a', b', e3, e4, F⟩ := L (wpI c_now_folk_kind c_now_folk_mark c_now_folk_horn c_now_folk_brass c_now_folk_health n (nI s) (c_now_quorum m)) (fun v_d_6 v_horn_7 v_brass_8 l4_9 => wrA 248 v_d_6 ((58 + (3 * nI m)) + 1) (nI s) (fun v_d_10 => some (v_d_10, c_errors, v_horn_7, v_brass_8, l4_9))) n 0 300 300 0 m_d a1 b1 (by omega) (by omega) (by omega) (fun i _ => rfl)
    have back : upd d' (59 + 3 * m) (nI s) = m_d := by
      funext i
      by_cases e : i = 59 + 3 * m
      · rw [e, upd_s, q4, q2]
      · rw [upd_n e]
        exact F i e
    have e5 : f_X7_turning_L33 (nI m) (wpI c_now_folk_kind c_now_folk_mark c_now_folk_horn c_now_folk_brass c_now_folk_health n (nI s) (c_now_quorum m)) (nI s) (fun v_d_6 v_horn_7 v_brass_8 l4_9 => wrA 248 v_d_6 ((58 + (3 * nI m)) + 1) (nI s) (fun v_d_10 => some (v_d_10, c_errors, v_horn_7, v_brass_8, l4_9))) 300 m_d a1 b1 0 (nI 0) = some (m_d, c_errors, a', b', r) := by
      refine e4.trans ?_
      show wrA 248 d' _ _ _ = _
      rw [wrA_i em1x (by omega), back]
    refine ⟨?_, ?_, ?_, ?_, ?_, ?_, ?c, ?m, ?r⟩
    case c =>
      simp only [f_X6_turning, e5_has rfl (show mo < 1000 by omega), bdE1]
      rw [if_pos hp, if_neg (by decide), rdA_i rfl (by omega), rdA_i rfl (by omega), e0_wouldPass H hn, bdE1, q2]
      exact e3
    case m =>
      simp only [f_X7_turning, e7_isMotion hL.2.2.1 (show mo < 1000 by omega), bdE1, jnE]
      rw [if_pos hp, if_neg (by decide), e1, bdE3, ei1 (by omega), bdE1, q4, q2]
      exact e5
    case r => exact ⟨⟨hPp, hMo, hSc, hTa, hWa, hUs, hCh, hCo⟩, hIm, hKe, hKu, rfl, hTr, hTn, hTg, hSh⟩
  · refine ⟨?_, ?_, ?_, ?_, ?_, ?_, ?c, ?m, ?r⟩
    case c =>
      simp only [f_X6_turning, e5_has rfl (show mo < 1000 by omega), bdE1]
      rw [if_neg hp, if_pos rfl, ef1]
      rfl
    case m =>
      simp only [f_X7_turning, e7_isMotion hL.2.2.1 (show mo < 1000 by omega), bdE1]
      rw [if_neg hp, if_pos rfl, eg1]
      rfl
    case r => exact ⟨⟨hPp, hMo, hSc, hTa, hWa, hUs, hCh, hCo⟩, hIm, hKe, hKu, rfl, hTr, hTn, hTg, hSh⟩
set_option maxHeartbeats 1000000 in
set_option maxRecDepth 10000 in
theorem st_spends {c_now_folk_size : Int32} {c_now_folk_kind : Nat → Int32} {c_now_folk_mark : Nat → Int32} {c_now_folk_horn : Nat → Int32} {c_now_folk_brass : Nat → Int32} {c_now_folk_open : Nat → Int32} {c_now_folk_health : Nat → Int32} {c_now_motions : Int32} {c_now_quorum : Nat → Int32} {c_now_favour : Nat → Int32} {c_now_laws : Int32} {c_now_urnHorn : Int32} {c_now_urnBrass : Int32} {c_now_thread : Int32} {c_now_winter : Int32} {c_now_day : Int32} {c_now_chill_use : Int32} {c_now_chill_codes : Nat → Int32} {c_now_chill_size : Int32} {c_now_chill_stack : Nat → Int32} {c_now_cold_use : Int32} {c_now_cold_codes : Nat → Int32} {c_now_cold_size : Int32} {c_now_cold_stack : Nat → Int32} {c_now_tape : Nat → Int32} {c_now_taped : Int32} {c_now_z : Int32} {c_now_waiting : Nat → Int32} {c_now_waits : Int32} {c_kept_folk_size : Int32} {c_kept_folk_kind : Nat → Int32} {c_kept_folk_mark : Nat → Int32} {c_kept_folk_horn : Nat → Int32} {c_kept_folk_brass : Nat → Int32} {c_kept_folk_open : Nat → Int32} {c_kept_folk_health : Nat → Int32} {c_kept_motions : Int32} {c_kept_quorum : Nat → Int32} {c_kept_favour : Nat → Int32} {c_kept_laws : Int32} {c_kept_urnHorn : Int32} {c_kept_urnBrass : Int32} {c_kept_thread : Int32} {c_kept_winter : Int32} {c_kept_day : Int32} {c_kept_chill_use : Int32} {c_kept_chill_codes : Nat → Int32} {c_kept_chill_size : Int32} {c_kept_cold_use : Int32} {c_kept_cold_codes : Nat → Int32} {c_kept_cold_size : Int32} {c_kept_tape : Nat → Int32} {c_kept_taped : Int32} {c_kept_z : Int32} {c_kept_waiting : Nat → Int32} {c_kept_waits : Int32} {c_voices_traces : Nat → Int32} {c_voices_traced : Int32} {c_sh_bits : Nat → Int32} {c_sh_size : Nat → Int32} {c_sh_numbers : Nat → Nat → Int32} {c_colds : Nat → Int32} {c_errors : Nat → Int32} {c_images : Int32} {m_d : Nat → Int32} {m_kept : Nat → Int32} {m_images : Int32} {m_found : Nat → Int32} {m_names : Nat → Int32} {m_pile : Nat → Int32} {m_coldAhead : Nat → Int32} {m_traced : Nat → Int32} {m_traceMany : Int32} {m_bitsOf : Nat → Int32} {m_sizeOf : Nat → Int32} {m_number : Nat → Int32} (R : Rel c_now_folk_size c_now_folk_kind c_now_folk_mark c_now_folk_horn c_now_folk_brass c_now_folk_open c_now_folk_health c_now_motions c_now_quorum c_now_favour c_now_laws c_now_urnHorn c_now_urnBrass c_now_thread c_now_winter c_now_day c_now_chill_use c_now_chill_codes c_now_chill_size c_now_cold_use c_now_cold_codes c_now_cold_size c_now_tape c_now_taped c_now_z c_now_waiting c_now_waits c_kept_folk_size c_kept_folk_kind c_kept_folk_mark c_kept_folk_horn c_kept_folk_brass c_kept_folk_open c_kept_folk_health c_kept_motions c_kept_quorum c_kept_favour c_kept_laws c_kept_urnHorn c_kept_urnBrass c_kept_thread c_kept_winter c_kept_day c_kept_chill_use c_kept_chill_codes c_kept_chill_size c_kept_cold_use c_kept_cold_codes c_kept_cold_size c_kept_tape c_kept_taped c_kept_z c_kept_waiting c_kept_waits c_voices_traces c_voices_traced c_sh_bits c_sh_size c_sh_numbers c_errors c_images m_d m_kept m_images m_found m_traced m_traceMany m_bitsOf m_sizeOf m_number) (p0 : Int32) (p1 : Int32) : ∃ (x_now_chill_stack : Nat → Int32) (x_now_cold_stack : Nat → Int32) (x_colds : Nat → Int32) (x_errors : Nat → Int32) (r : Int32) (y_d : Nat → Int32) (y_found : Nat → Int32) (y_names : Nat → Int32) (y_pile : Nat → Int32) (y_coldAhead : Nat → Int32), f_X6_spends c_now_folk_size c_now_folk_kind c_now_folk_mark c_now_folk_horn c_now_folk_brass c_now_folk_open c_now_folk_health c_now_laws c_now_winter c_now_day c_now_chill_use c_now_chill_codes c_now_chill_size c_now_chill_stack c_now_cold_use c_now_cold_codes c_now_cold_size c_now_cold_stack c_colds c_errors p0 p1 = some (x_now_chill_stack, x_now_cold_stack, x_colds, x_errors, r) ∧ f_X7_spends m_d m_found m_names m_pile m_coldAhead p0 p1 = some (y_d, y_found, y_names, y_pile, y_coldAhead, r) ∧ Rel c_now_folk_size c_now_folk_kind c_now_folk_mark c_now_folk_horn c_now_folk_brass c_now_folk_open c_now_folk_health c_now_motions c_now_quorum c_now_favour c_now_laws c_now_urnHorn c_now_urnBrass c_now_thread c_now_winter c_now_day c_now_chill_use c_now_chill_codes c_now_chill_size c_now_cold_use c_now_cold_codes c_now_cold_size c_now_tape c_now_taped c_now_z c_now_waiting c_now_waits c_kept_folk_size c_kept_folk_kind c_kept_folk_mark c_kept_folk_horn c_kept_folk_brass c_kept_folk_open c_kept_folk_health c_kept_motions c_kept_quorum c_kept_favour c_kept_laws c_kept_urnHorn c_kept_urnBrass c_kept_thread c_kept_winter c_kept_day c_kept_chill_use c_kept_chill_codes c_kept_chill_size c_kept_cold_use c_kept_cold_codes c_kept_cold_size c_kept_tape c_kept_taped c_kept_z c_kept_waiting c_kept_waits c_voices_traces c_voices_traced c_sh_bits c_sh_size c_sh_numbers x_errors c_images y_d m_kept m_images y_found m_traced m_traceMany m_bitsOf m_sizeOf m_number := by
  obtain ⟨⟨hPp, hMo, hSc, hTa, hWa, hUs, hCh, hCo⟩, hIm, hKe, hKu, hEr, hTr, hTn, hTg, hSh⟩ := R
  subst hEr
  obtain ⟨n, hn, hsz, hD0, H, D⟩ := PplR_out hPp
  subst hsz
  obtain ⟨mo, w, hmo, hlw, hL, hQ⟩ := MotR_out hMo
  subst hmo
  subst hlw
  have hmo6 : mo ≤ 6 := hL.1
  have hUs0 := hUs
  obtain ⟨hU0, hU1⟩ := hUs0
  subst hU0
  subst hU1
  obtain ⟨nc, hnc, hX, hY⟩ := TextR_0 hCh
  subst hnc
  obtain ⟨ng, hng, hX1, hY1⟩ := TextR_1 hCo
  subst hng
  have hSc0 := hSc
  obtain ⟨⟨u1, u2⟩, ⟨u3, u4⟩, ⟨u5, u6⟩, ⟨u7, u8⟩, ⟨u9, u10⟩, u11⟩ := hSc0
  obtain ⟨cold, hcold⟩ : ∃ cold : Nat → Int32, cold = fun k => clI c_now_cold_codes ng w (c_now_day + nI k) c_now_winter := ⟨_, rfl⟩
  have hc7 : ∀ k, cold k = clI c_now_cold_codes ng w (m_d 6 + nI k) (m_d 5) := fun k => by rw [hcold, u7, u9]
  have hca : (fun i => clI c_now_cold_codes ng w (m_d 6 + nI i) (m_d 5)) = cold := (funext hc7).symm
  by_cases hp : inb p0 n = true
  · obtain ⟨p, hpn, rfl⟩ := inb_of hp (by omega)
    by_cases hp1 : inb p1 61 = true
    · obtain ⟨N, hN, rfl⟩ := inb_of hp1 (by decide)
      obtain ⟨s1, e1⟩ := e6_foresee (g := c_now_cold_codes) (colds := c_colds) (day := c_now_day) (winter := c_now_winter) (N := N) hX1 hL.w (by omega) c_now_cold_stack
      rw [← hcold] at e1
      obtain ⟨n1, p1, e2⟩ := e7_findsCold (ca := m_coldAhead) (N := N) hX1 hY1 hL (by omega) m_names m_pile
      rw [hca] at e2
      have hcc : ∀ k, k < N → ovF cold c_colds N k = cold k := fun k hk => ov_in hk
      have hcd : ∀ k, k < N → ovF cold m_coldAhead N k = cold k := fun k hk => ov_in hk
      obtain ⟨a1, a2, ⟨x, hx, ex⟩, ⟨y, hy, ey⟩, ⟨o, ho, eo⟩, a6⟩ := H p (by omega)
      obtain ⟨d1, d2, d3, d4, d5, d6⟩ := D p (by omega)
      have L : ∀ (k fu fu2 : Nat) (st names pile : Nat → Int32), k ≤ 18 → k < fu → k < fu2 → ∃ st' n' p' r, f_X6_spends_L63 c_now_folk_kind c_now_folk_mark c_now_folk_open c_now_folk_health 0 c_now_chill_codes (nI nc) c_errors (nI p) (nI N) s1 (ovF cold c_colds N) fu st (nI k) = some (st', s1, ovF cold c_colds N, c_errors, r) ∧ f_X7_spends_L45 c_errors (nI p) (nI N) (ovF cold m_coldAhead N) fu2 m_d names pile (nI k) = some (m_d, c_errors, n', p', ovF cold m_coldAhead N, r) := by
        intro k
        induction k with
        | zero =>
          intro fu fu2 st names pile _ hf hf2
          obtain ⟨fu, rfl⟩ : ∃ q, fu = q + 1 := ⟨fu - 1, by omega⟩
          obtain ⟨fu2, rfl⟩ : ∃ q, fu2 = q + 1 := ⟨fu2 - 1, by omega⟩
          simp only [f_X6_spends_L63, f_X7_spends_L45]
          rw [if_pos (show nI 0 ≤ (0 : Int32) by decide), if_pos (show nI 0 ≤ (0 : Int32) by decide)]
          exact ⟨_, _, _, nI 0, rfl, rfl⟩
        | succ k ih =>
          intro fu fu2 st names pile hk hf hf2
          obtain ⟨fu, rfl⟩ : ∃ q, fu = q + 1 := ⟨fu - 1, by omega⟩
          obtain ⟨fu2, rfl⟩ : ∃ q, fu2 = q + 1 := ⟨fu2 - 1, by omega⟩
          simp only [f_X6_spends_L63, f_X7_spends_L45]
          obtain ⟨s2, e3⟩ := e6_lasts (mark := c_now_folk_mark) (o := nI (min 99 (o + (k + 1)))) (health := c_now_folk_health) hX (show p < 8 by omega) a1 (show N ≤ 60 by omega) hcc st
          obtain ⟨n2, p2, e4⟩ := e7_lives (o := nI (min 99 (o + (k + 1)))) H D hX hY (show p < 8 by omega) (show N ≤ 60 by omega) hcd names pile
          rw [if_neg (nI_nle (by omega) (by omega)), rdA_i rfl (by omega), eo, nI_add, mnN (m := 99) (M := 99) rfl (by decide) (by omega), e3, bdE2, if_neg (nI_nle (by omega) (by omega)), eo4 (by omega), bdE1, d5, eo, nI_add, e7_heldN (m := 99) (M := 99) rfl (by decide) (by omega), bdE1, e4, bdE4]
          simp only [nmE]
          by_cases z : tjI c_now_chill_codes nc (c_now_folk_kind p) (c_now_folk_mark p) (nI (min 99 (o + (k + 1)))) cold (c_now_folk_health p) N = 0
          · rw [if_pos z, if_pos rfl, if_pos rfl, pk_m1]
            exact ih fu fu2 s2 n2 p2 (by omega) (by omega) (by omega)
          · rw [if_neg z, if_neg (by decide), if_neg (by decide)]
            exact ⟨_, _, _, _, rfl, rfl⟩
      obtain ⟨st', n', p', r, e3, e4⟩ := L (x + y) 300 300 c_now_chill_stack n1 p1 (by omega) (by omega) (by omega)
      refine ⟨?_, ?_, ?_, ?_, ?_, ?_, ?_, ?_, ?_, ?_, ?c, ?m, ?r⟩
      case c =>
        simp only [f_X6_spends, e0_has rfl (show n < 1000 by omega), bdE1, jnE, nmE]
        rw [if_pos hp, if_neg (by decide), rngC 61 (by decide), if_pos hp1, e1, bdE2, rdA_i rfl (by omega), rdA_i rfl (by omega), ex, ey, nI_add]
        exact e3
      case m =>
        simp only [f_X7_spends, e7_isPerson hD0 (show n < 1000 by omega), bdE1, jnE, nmE]
        rw [if_pos hp, if_neg (by decide), e7_inb 61 (by decide), bdE1, b01, if_pos hp1, e2, bdE3, eo2 (by omega), bdE1, eo3 (by omega), bdE1, d3, d4, ex, ey, nI_add]
        exact e4
      case r => exact ⟨⟨hPp, hMo, hSc, hTa, hWa, hUs, hCh, hCo⟩, hIm, hKe, hKu, rfl, hTr, hTn, hTg, hSh⟩
    · refine ⟨?_, ?_, ?_, ?_, ?_, ?_, ?_, ?_, ?_, ?_, ?c, ?m, ?r⟩
      case c =>
        simp only [f_X6_spends, e0_has rfl (show n < 1000 by omega), bdE1, jnE]
        rw [if_pos hp, if_neg (by decide), rngC 61 (by decide), if_neg hp1, ef1]
        rfl
      case m =>
        simp only [f_X7_spends, e7_isPerson hD0 (show n < 1000 by omega), bdE1, jnE]
        rw [if_pos hp, if_neg (by decide), e7_inb 61 (by decide), bdE1, b01, if_neg hp1, eg1]
        rfl
      case r => exact ⟨⟨hPp, hMo, hSc, hTa, hWa, hUs, hCh, hCo⟩, hIm, hKe, hKu, rfl, hTr, hTn, hTg, hSh⟩
  · refine ⟨?_, ?_, ?_, ?_, ?_, ?_, ?_, ?_, ?_, ?_, ?c, ?m, ?r⟩
    case c =>
      simp only [f_X6_spends, e0_has rfl (show n < 1000 by omega), bdE1, jnE]
      rw [if_neg hp, if_pos rfl, ef1]
      rfl
    case m =>
      simp only [f_X7_spends, e7_isPerson hD0 (show n < 1000 by omega), bdE1, jnE]
      rw [if_neg hp, if_pos rfl, eg1]
      rfl
    case r => exact ⟨⟨hPp, hMo, hSc, hTa, hWa, hUs, hCh, hCo⟩, hIm, hKe, hKu, rfl, hTr, hTn, hTg, hSh⟩
set_option maxHeartbeats 1000000 in
set_option maxRecDepth 10000 in
theorem st_tailor {c_now_folk_size : Int32} {c_now_folk_kind : Nat → Int32} {c_now_folk_mark : Nat → Int32} {c_now_folk_horn : Nat → Int32} {c_now_folk_brass : Nat → Int32} {c_now_folk_open : Nat → Int32} {c_now_folk_health : Nat → Int32} {c_now_motions : Int32} {c_now_quorum : Nat → Int32} {c_now_favour : Nat → Int32} {c_now_laws : Int32} {c_now_urnHorn : Int32} {c_now_urnBrass : Int32} {c_now_thread : Int32} {c_now_winter : Int32} {c_now_day : Int32} {c_now_chill_use : Int32} {c_now_chill_codes : Nat → Int32} {c_now_chill_size : Int32} {c_now_chill_stack : Nat → Int32} {c_now_cold_use : Int32} {c_now_cold_codes : Nat → Int32} {c_now_cold_size : Int32} {c_now_cold_stack : Nat → Int32} {c_now_tape : Nat → Int32} {c_now_taped : Int32} {c_now_z : Int32} {c_now_waiting : Nat → Int32} {c_now_waits : Int32} {c_kept_folk_size : Int32} {c_kept_folk_kind : Nat → Int32} {c_kept_folk_mark : Nat → Int32} {c_kept_folk_horn : Nat → Int32} {c_kept_folk_brass : Nat → Int32} {c_kept_folk_open : Nat → Int32} {c_kept_folk_health : Nat → Int32} {c_kept_motions : Int32} {c_kept_quorum : Nat → Int32} {c_kept_favour : Nat → Int32} {c_kept_laws : Int32} {c_kept_urnHorn : Int32} {c_kept_urnBrass : Int32} {c_kept_thread : Int32} {c_kept_winter : Int32} {c_kept_day : Int32} {c_kept_chill_use : Int32} {c_kept_chill_codes : Nat → Int32} {c_kept_chill_size : Int32} {c_kept_cold_use : Int32} {c_kept_cold_codes : Nat → Int32} {c_kept_cold_size : Int32} {c_kept_tape : Nat → Int32} {c_kept_taped : Int32} {c_kept_z : Int32} {c_kept_waiting : Nat → Int32} {c_kept_waits : Int32} {c_voices_traces : Nat → Int32} {c_voices_traced : Int32} {c_sh_bits : Nat → Int32} {c_sh_size : Nat → Int32} {c_sh_numbers : Nat → Nat → Int32} {c_colds : Nat → Int32} {c_errors : Nat → Int32} {c_images : Int32} {m_d : Nat → Int32} {m_kept : Nat → Int32} {m_images : Int32} {m_found : Nat → Int32} {m_names : Nat → Int32} {m_pile : Nat → Int32} {m_coldAhead : Nat → Int32} {m_traced : Nat → Int32} {m_traceMany : Int32} {m_bitsOf : Nat → Int32} {m_sizeOf : Nat → Int32} {m_number : Nat → Int32} (R : Rel c_now_folk_size c_now_folk_kind c_now_folk_mark c_now_folk_horn c_now_folk_brass c_now_folk_open c_now_folk_health c_now_motions c_now_quorum c_now_favour c_now_laws c_now_urnHorn c_now_urnBrass c_now_thread c_now_winter c_now_day c_now_chill_use c_now_chill_codes c_now_chill_size c_now_cold_use c_now_cold_codes c_now_cold_size c_now_tape c_now_taped c_now_z c_now_waiting c_now_waits c_kept_folk_size c_kept_folk_kind c_kept_folk_mark c_kept_folk_horn c_kept_folk_brass c_kept_folk_open c_kept_folk_health c_kept_motions c_kept_quorum c_kept_favour c_kept_laws c_kept_urnHorn c_kept_urnBrass c_kept_thread c_kept_winter c_kept_day c_kept_chill_use c_kept_chill_codes c_kept_chill_size c_kept_cold_use c_kept_cold_codes c_kept_cold_size c_kept_tape c_kept_taped c_kept_z c_kept_waiting c_kept_waits c_voices_traces c_voices_traced c_sh_bits c_sh_size c_sh_numbers c_errors c_images m_d m_kept m_images m_found m_traced m_traceMany m_bitsOf m_sizeOf m_number) (p0 : Int32) : ∃ (x_now_chill_stack : Nat → Int32) (x_now_cold_stack : Nat → Int32) (x_colds : Nat → Int32) (x_errors : Nat → Int32) (r : Int32) (y_d : Nat → Int32) (y_found : Nat → Int32) (y_names : Nat → Int32) (y_pile : Nat → Int32) (y_coldAhead : Nat → Int32), f_X6_tailor c_now_folk_size c_now_folk_kind c_now_folk_mark c_now_folk_open c_now_folk_health c_now_laws c_now_winter c_now_day c_now_chill_use c_now_chill_codes c_now_chill_size c_now_chill_stack c_now_cold_use c_now_cold_codes c_now_cold_size c_now_cold_stack c_colds c_errors p0 = some (x_now_chill_stack, x_now_cold_stack, x_colds, x_errors, r) ∧ f_X7_tailor m_d m_found m_names m_pile m_coldAhead p0 = some (y_d, y_found, y_names, y_pile, y_coldAhead, r) ∧ Rel c_now_folk_size c_now_folk_kind c_now_folk_mark c_now_folk_horn c_now_folk_brass c_now_folk_open c_now_folk_health c_now_motions c_now_quorum c_now_favour c_now_laws c_now_urnHorn c_now_urnBrass c_now_thread c_now_winter c_now_day c_now_chill_use c_now_chill_codes c_now_chill_size c_now_cold_use c_now_cold_codes c_now_cold_size c_now_tape c_now_taped c_now_z c_now_waiting c_now_waits c_kept_folk_size c_kept_folk_kind c_kept_folk_mark c_kept_folk_horn c_kept_folk_brass c_kept_folk_open c_kept_folk_health c_kept_motions c_kept_quorum c_kept_favour c_kept_laws c_kept_urnHorn c_kept_urnBrass c_kept_thread c_kept_winter c_kept_day c_kept_chill_use c_kept_chill_codes c_kept_chill_size c_kept_cold_use c_kept_cold_codes c_kept_cold_size c_kept_tape c_kept_taped c_kept_z c_kept_waiting c_kept_waits c_voices_traces c_voices_traced c_sh_bits c_sh_size c_sh_numbers x_errors c_images y_d m_kept m_images y_found m_traced m_traceMany m_bitsOf m_sizeOf m_number := by
  obtain ⟨⟨hPp, hMo, hSc, hTa, hWa, hUs, hCh, hCo⟩, hIm, hKe, hKu, hEr, hTr, hTn, hTg, hSh⟩ := R
  subst hEr
  obtain ⟨n, hn, hsz, hD0, H, D⟩ := PplR_out hPp
  subst hsz
  obtain ⟨mo, w, hmo, hlw, hL, hQ⟩ := MotR_out hMo
  subst hmo
  subst hlw
  have hmo6 : mo ≤ 6 := hL.1
  have hUs0 := hUs
  obtain ⟨hU0, hU1⟩ := hUs0
  subst hU0
  subst hU1
  obtain ⟨nc, hnc, hX, hY⟩ := TextR_0 hCh
  subst hnc
  obtain ⟨ng, hng, hX1, hY1⟩ := TextR_1 hCo
  subst hng
  have hSc0 := hSc
  obtain ⟨⟨u1, u2⟩, ⟨u3, u4⟩, ⟨u5, u6⟩, ⟨u7, u8⟩, ⟨u9, u10⟩, u11⟩ := hSc0
  obtain ⟨cold, hcold⟩ : ∃ cold : Nat → Int32, cold = fun k => clI c_now_cold_codes ng w (c_now_day + nI k) c_now_winter := ⟨_, rfl⟩
  have hc7 : ∀ k, cold k = clI c_now_cold_codes ng w (m_d 6 + nI k) (m_d 5) := fun k => by rw [hcold, u7, u9]
  have hca : (fun i => clI c_now_cold_codes ng w (m_d 6 + nI i) (m_d 5)) = cold := (funext hc7).symm
  by_cases hp : inb p0 61 = true
  · obtain ⟨N, hN, rfl⟩ := inb_of hp (by decide)
    obtain ⟨s1, e1⟩ := e6_foresee (g := c_now_cold_codes) (colds := c_colds) (day := c_now_day) (winter := c_now_winter) (N := N) hX1 hL.w (by omega) c_now_cold_stack
    rw [← hcold] at e1
    obtain ⟨n1, p1, e2⟩ := e7_findsCold (ca := m_coldAhead) (N := N) hX1 hY1 hL (by omega) m_names m_pile
    rw [hca] at e2
    have hcc : ∀ k, k < N → ovF cold c_colds N k = cold k := fun k hk => ov_in hk
    have hcd : ∀ k, k < N → ovF cold m_coldAhead N k = cold k := fun k hk => ov_in hk
    have L : ∀ (m k fu fu2 : Nat) (st names pile : Nat → Int32) (acc : Int32), k + m = n → m < fu → m < fu2 → ∃ st' n' p' er r, f_X6_tailor_L32 (nI n) c_now_folk_kind c_now_folk_mark c_now_folk_open c_now_folk_health 0 c_now_chill_codes (nI nc) c_errors (nI N) s1 (ovF cold c_colds N) fu st acc (nI k) = some (st', s1, ovF cold c_colds N, er, r) ∧ f_X7_tailor_L27 c_errors (nI N) (ovF cold m_coldAhead N) fu2 m_d names pile acc (nI k) = some (m_d, er, n', p', ovF cold m_coldAhead N, r) := by
      intro m
      induction m with
      | zero =>
        intro k fu fu2 st names pile acc hk hf hf2
        obtain ⟨fu, rfl⟩ : ∃ q, fu = q + 1 := ⟨fu - 1, by omega⟩
        obtain ⟨fu2, rfl⟩ : ∃ q, fu2 = q + 1 := ⟨fu2 - 1, by omega⟩
        obtain rfl : k = n := by omega
        simp only [f_X6_tailor_L32, f_X7_tailor_L27]
        rw [if_pos (nI_le (Nat.le_refl _) (by omega)), rdA_i (i := 0) (k := 0) rfl (by decide), hD0, if_pos (nI_le (Nat.le_refl _) (by omega))]
        exact ⟨_, _, _, _, _, rfl, rfl⟩
      | succ m ih =>
        intro k fu fu2 st names pile acc hk hf hf2
        obtain ⟨fu, rfl⟩ : ∃ q, fu = q + 1 := ⟨fu - 1, by omega⟩
        obtain ⟨fu2, rfl⟩ : ∃ q, fu2 = q + 1 := ⟨fu2 - 1, by omega⟩
        obtain ⟨a1, a2, a3, a4, ⟨o, ho, eo⟩, ⟨x, hx, ex⟩⟩ := H k (by omega)
        obtain ⟨d1, d2, d3, d4, d5, d6⟩ := D k (by omega)
        simp only [f_X6_tailor_L32, f_X7_tailor_L27, jnE, nmE, nI_1]
        rw [if_neg (nI_ge (by omega) (by omega)), rdA_i rfl (by omega), rdA_i (i := 0) (k := 0) rfl (by decide), hD0, if_neg (nI_ge (by omega) (by omega))]
        by_cases z : c_now_folk_health k = 0
        · have q : ∀ J, f_X7_tailor_L40 (nI N) (ovF cold m_coldAhead N) (nI k) J 300 m_d names pile 0 = J m_d names pile 0 := by
            intro J
            exact e7_tdead (fu := 299) (by omega) (d6.trans z)
          rw [if_pos (show c_now_folk_health k ≤ 0 by rw [z]; decide), q, eo4 (by omega), bdE1, d5, eo, if_pos (nI_pos' (by omega)), Int32.add_zero]
          exact ih (k + 1) fu fu2 st names pile acc (by omega) (by omega) (by omega)
        · have z2 : ¬ c_now_folk_health k ≤ 0 := by
            rw [ex]
            refine nI_nle ?_ (by omega)
            rcases Nat.eq_zero_or_pos x with q | q
            · exact absurd (by rw [ex, q]; rfl) z
            · exact q
          obtain ⟨s2, e3⟩ := e6_fewest (mark := c_now_folk_mark) (open_ := c_now_folk_open) (health := c_now_folk_health) hX (show k < 8 by omega) a1 eo ho (show N ≤ 60 by omega) hcc st
          obtain ⟨n2, p2, e4⟩ := e7_fewest H D hX hY (show k < 8 by omega) eo ho z (show N ≤ 60 by omega) hcd (fun v_d_11 v_names_12 v_pile_13 l4_14 => bd1 (f_X7_of v_d_11 (nI k) 4) (fun r_15 => (if l4_14 ≤ r_15 then f_X7_tailor_L27 c_errors (nI N) (ovF cold m_coldAhead N) fu2 v_d_11 v_names_12 v_pile_13 (acc + l4_14) (nI (k + 1)) else bd2 (f_X7_finds c_errors 2) (fun v_found_18 r_19 => some (v_d_11, v_found_18, v_names_12, v_pile_13, ovF cold m_coldAhead N, r_19))))) names pile
          obtain ⟨b1, b2⟩ := fz_b (h := alF c_now_chill_codes nc (c_now_folk_kind k) (c_now_folk_mark k) o cold (c_now_folk_health k) N) o 0
          rw [if_neg z2, e3, bdE2, e4]
          simp only [eo4 (show k < 8 by omega), bdE1, d5, eo]
          by_cases y : fzN (alF c_now_chill_codes nc (c_now_folk_kind k) (c_now_folk_mark k) o cold (c_now_folk_health k) N) 0 o ≤ o
          · rw [if_pos y, if_pos (nI_pos' (by omega)), if_pos (nI_le y (by omega))]
            exact ih (k + 1) fu fu2 s2 n2 p2 _ (by omega) (by omega) (by omega)
          · rw [if_neg y, if_neg (by decide), if_neg (nI_ge (by omega) (by omega)), ef2, eg2]
            exact ⟨_, _, _, _, _, rfl, rfl⟩
    obtain ⟨st', n', p', er, r, e3, e4⟩ := L n 0 300 300 c_now_chill_stack n1 p1 0 (by omega) (by omega) (by omega)
    refine ⟨?_, ?_, ?_, ?_, ?_, ?_, ?_, ?_, ?_, ?_, ?c, ?m, ?r⟩
    case c =>
      simp only [f_X6_tailor, jnE]
      rw [rngC 61 (by decide), if_pos hp, e1, bdE2]
      exact e3
    case m =>
      simp only [f_X7_tailor]
      rw [e7_inb 61 (by decide), bdE1, b01, if_pos hp, e2, bdE3]
      exact e4
    case r => exact ⟨⟨hPp, hMo, hSc, hTa, hWa, hUs, hCh, hCo⟩, hIm, hKe, hKu, rfl, hTr, hTn, hTg, hSh⟩
  · refine ⟨?_, ?_, ?_, ?_, ?_, ?_, ?_, ?_, ?_, ?_, ?c, ?m, ?r⟩
    case c =>
      simp only [f_X6_tailor, jnE]
      rw [rngC 61 (by decide), if_neg hp, ef1]
      rfl
    case m =>
      simp only [f_X7_tailor]
      rw [e7_inb 61 (by decide), bdE1, b01, if_neg hp, eg1]
      rfl
    case r => exact ⟨⟨hPp, hMo, hSc, hTa, hWa, hUs, hCh, hCo⟩, hIm, hKe, hKu, rfl, hTr, hTn, hTg, hSh⟩
set_option maxHeartbeats 1000000 in
set_option maxRecDepth 10000 in
theorem st_harder {c_now_folk_size : Int32} {c_now_folk_kind : Nat → Int32} {c_now_folk_mark : Nat → Int32} {c_now_folk_horn : Nat → Int32} {c_now_folk_brass : Nat → Int32} {c_now_folk_open : Nat → Int32} {c_now_folk_health : Nat → Int32} {c_now_motions : Int32} {c_now_quorum : Nat → Int32} {c_now_favour : Nat → Int32} {c_now_laws : Int32} {c_now_urnHorn : Int32} {c_now_urnBrass : Int32} {c_now_thread : Int32} {c_now_winter : Int32} {c_now_day : Int32} {c_now_chill_use : Int32} {c_now_chill_codes : Nat → Int32} {c_now_chill_size : Int32} {c_now_chill_stack : Nat → Int32} {c_now_cold_use : Int32} {c_now_cold_codes : Nat → Int32} {c_now_cold_size : Int32} {c_now_cold_stack : Nat → Int32} {c_now_tape : Nat → Int32} {c_now_taped : Int32} {c_now_z : Int32} {c_now_waiting : Nat → Int32} {c_now_waits : Int32} {c_kept_folk_size : Int32} {c_kept_folk_kind : Nat → Int32} {c_kept_folk_mark : Nat → Int32} {c_kept_folk_horn : Nat → Int32} {c_kept_folk_brass : Nat → Int32} {c_kept_folk_open : Nat → Int32} {c_kept_folk_health : Nat → Int32} {c_kept_motions : Int32} {c_kept_quorum : Nat → Int32} {c_kept_favour : Nat → Int32} {c_kept_laws : Int32} {c_kept_urnHorn : Int32} {c_kept_urnBrass : Int32} {c_kept_thread : Int32} {c_kept_winter : Int32} {c_kept_day : Int32} {c_kept_chill_use : Int32} {c_kept_chill_codes : Nat → Int32} {c_kept_chill_size : Int32} {c_kept_cold_use : Int32} {c_kept_cold_codes : Nat → Int32} {c_kept_cold_size : Int32} {c_kept_tape : Nat → Int32} {c_kept_taped : Int32} {c_kept_z : Int32} {c_kept_waiting : Nat → Int32} {c_kept_waits : Int32} {c_voices_traces : Nat → Int32} {c_voices_traced : Int32} {c_sh_bits : Nat → Int32} {c_sh_size : Nat → Int32} {c_sh_numbers : Nat → Nat → Int32} {c_colds : Nat → Int32} {c_errors : Nat → Int32} {c_images : Int32} {m_d : Nat → Int32} {m_kept : Nat → Int32} {m_images : Int32} {m_found : Nat → Int32} {m_aside : Nat → Int32} {m_names : Nat → Int32} {m_pile : Nat → Int32} {m_traced : Nat → Int32} {m_traceMany : Int32} {m_bitsOf : Nat → Int32} {m_sizeOf : Nat → Int32} {m_number : Nat → Int32} (R : Rel c_now_folk_size c_now_folk_kind c_now_folk_mark c_now_folk_horn c_now_folk_brass c_now_folk_open c_now_folk_health c_now_motions c_now_quorum c_now_favour c_now_laws c_now_urnHorn c_now_urnBrass c_now_thread c_now_winter c_now_day c_now_chill_use c_now_chill_codes c_now_chill_size c_now_cold_use c_now_cold_codes c_now_cold_size c_now_tape c_now_taped c_now_z c_now_waiting c_now_waits c_kept_folk_size c_kept_folk_kind c_kept_folk_mark c_kept_folk_horn c_kept_folk_brass c_kept_folk_open c_kept_folk_health c_kept_motions c_kept_quorum c_kept_favour c_kept_laws c_kept_urnHorn c_kept_urnBrass c_kept_thread c_kept_winter c_kept_day c_kept_chill_use c_kept_chill_codes c_kept_chill_size c_kept_cold_use c_kept_cold_codes c_kept_cold_size c_kept_tape c_kept_taped c_kept_z c_kept_waiting c_kept_waits c_voices_traces c_voices_traced c_sh_bits c_sh_size c_sh_numbers c_errors c_images m_d m_kept m_images m_found m_traced m_traceMany m_bitsOf m_sizeOf m_number) (p0 : Int32) : ∃ (x_now_chill_stack : Nat → Int32) (x_now_cold_stack : Nat → Int32) (x_colds : Nat → Int32) (x_errors : Nat → Int32) (r : Int32) (y_d : Nat → Int32) (y_found : Nat → Int32) (y_aside : Nat → Int32) (y_names : Nat → Int32) (y_pile : Nat → Int32), f_X6_harder c_now_folk_size c_now_folk_kind c_now_folk_mark c_now_folk_open c_now_folk_health c_now_laws c_now_day c_now_chill_use c_now_chill_codes c_now_chill_size c_now_chill_stack c_now_cold_use c_now_cold_codes c_now_cold_size c_now_cold_stack c_colds c_errors p0 = some (x_now_chill_stack, x_now_cold_stack, x_colds, x_errors, r) ∧ f_X7_harder m_d m_found m_aside m_names m_pile p0 = some (y_d, y_found, y_aside, y_names, y_pile, r) ∧ Rel c_now_folk_size c_now_folk_kind c_now_folk_mark c_now_folk_horn c_now_folk_brass c_now_folk_open c_now_folk_health c_now_motions c_now_quorum c_now_favour c_now_laws c_now_urnHorn c_now_urnBrass c_now_thread c_now_winter c_now_day c_now_chill_use c_now_chill_codes c_now_chill_size c_now_cold_use c_now_cold_codes c_now_cold_size c_now_tape c_now_taped c_now_z c_now_waiting c_now_waits c_kept_folk_size c_kept_folk_kind c_kept_folk_mark c_kept_folk_horn c_kept_folk_brass c_kept_folk_open c_kept_folk_health c_kept_motions c_kept_quorum c_kept_favour c_kept_laws c_kept_urnHorn c_kept_urnBrass c_kept_thread c_kept_winter c_kept_day c_kept_chill_use c_kept_chill_codes c_kept_chill_size c_kept_cold_use c_kept_cold_codes c_kept_cold_size c_kept_tape c_kept_taped c_kept_z c_kept_waiting c_kept_waits c_voices_traces c_voices_traced c_sh_bits c_sh_size c_sh_numbers x_errors c_images y_d m_kept m_images y_found m_traced m_traceMany m_bitsOf m_sizeOf m_number := by
  obtain ⟨⟨hPp, hMo, hSc, hTa, hWa, hUs, hCh, hCo⟩, hIm, hKe, hKu, hEr, hTr, hTn, hTg, hSh⟩ := R
  subst hEr
  obtain ⟨n, hn, hsz, hD0, H, D⟩ := PplR_out hPp
  subst hsz
  obtain ⟨mo, w, hmo, hlw, hL, hQ⟩ := MotR_out hMo
  subst hmo
  subst hlw
  have hmo6 : mo ≤ 6 := hL.1
  have hUs0 := hUs
  obtain ⟨hU0, hU1⟩ := hUs0
  subst hU0
  subst hU1
  obtain ⟨nc, hnc, hX, hY⟩ := TextR_0 hCh
  subst hnc
  obtain ⟨ng, hng, hX1, hY1⟩ := TextR_1 hCo
  subst hng
  have hSc0 := hSc
  obtain ⟨⟨u1, u2⟩, ⟨u3, u4⟩, ⟨u5, u6⟩, ⟨u7, u8⟩, ⟨u9, u10⟩, u11⟩ := hSc0
  by_cases hp : inb p0 61 = true
  · obtain ⟨N, hN, rfl⟩ := inb_of hp (by decide)
    have L : ∀ (m k fu fu2 : Nat) (st cs cl aside names pile : Nat → Int32), k + m = 10 → m < fu → m < fu2 → ∃ st' cs' cl' er r as' n' p', f_X6_harder_L26 (nI n) c_now_folk_kind c_now_folk_mark c_now_folk_open c_now_folk_health (nI w) c_now_day 0 c_now_chill_codes (nI nc) 1 c_now_cold_codes (nI ng) c_errors (nI N) fu st cs cl (nI k) = some (st', cs', cl', er, r) ∧ f_X7_harder_L25 c_errors (nI N) (nI (lvN c_now_folk_health n)) fu2 m_d aside names pile (nI k) = some (m_d, er, as', n', p', r) := by
      intro m
      induction m with
      | zero =>
        intro k fu fu2 st cs cl aside names pile hk hf hf2
        obtain ⟨fu, rfl⟩ : ∃ q, fu = q + 1 := ⟨fu - 1, by omega⟩
        obtain ⟨fu2, rfl⟩ : ∃ q, fu2 = q + 1 := ⟨fu2 - 1, by omega⟩
        obtain rfl : k = 10 := by omega
        simp only [f_X6_harder_L26, f_X7_harder_L25]
        rw [if_pos (show (9 : Int32) < nI 10 by decide), if_pos (show (9 : Int32) < nI 10 by decide), ef2, eg2]
        exact ⟨_, _, _, _, _, _, _, _, rfl, rfl⟩
      | succ m ih =>
        intro k fu fu2 st cs cl aside names pile hk hf hf2
        obtain ⟨fu, rfl⟩ : ∃ q, fu = q + 1 := ⟨fu - 1, by omega⟩
        obtain ⟨fu2, rfl⟩ : ∃ q, fu2 = q + 1 := ⟨fu2 - 1, by omega⟩
        obtain ⟨cold, hcold⟩ : ∃ cold : Nat → Int32, cold = fun i => clI c_now_cold_codes ng w (c_now_day + nI i) (nI k) := ⟨_, rfl⟩
        have F0 : ∀ i, i ≠ 5 → upd m_d 5 (nI k) i = m_d i := fun i hi => upd_n hi
        have hc7 : ∀ i, cold i = clI c_now_cold_codes ng w (upd m_d 5 (nI k) 6 + nI i) (upd m_d 5 (nI k) 5) := fun i => by rw [hcold, F0 6 (by decide), u9, upd_s]
        obtain ⟨s1, e1⟩ := e6_foresee (g := c_now_cold_codes) (colds := cl) (day := c_now_day) (winter := nI k) (N := N) hX1 hL.w (by omega) cs
        rw [← hcold] at e1
        have hcc : ∀ i, i < N → ovF cold cl N i = cold i := fun i hi => ov_in hi
        obtain ⟨d', n1, p1, e2, A⟩ := e7_daysGo (cold := cold) (N := N) (d := upd m_d 5 (nI k)) H hn ((F0 0 (by decide)).trans hD0) hX (hY.frame (fun i hi => F0 i (by omega))) hX1 (hY1.frame (fun i hi => F0 i (by omega))) (hL.frame (fun i hi => F0 i (by omega))) (by omega) hc7 (D.fr (fun i h1 h2 => F0 i (by omega))) names pile
        have back : f_X7_putBack d' (ovF m_d aside 76) = some m_d := e7_back (fun i hi => (A.2.2 i (by unfold HP; omega) (by omega)).trans (F0 i (by omega)))
        simp only [f_X6_harder_L26, f_X7_harder_L25, jnE, nmE, nI_1]
        rw [if_neg (show ¬ (9 : Int32) < nI k from nI_nlt (a := 9) (by omega) (by decide)), e1, bdE2, if_neg (show ¬ (9 : Int32) < nI k from nI_nlt (a := 9) (by omega) (by decide)), e7_keep, bdE1, wrA_i (i := 5) (k := 5) rfl (by decide), e2, bdE3, e7_aliveSet (fun p hp => (A.1 p hp).2.2.2.2.2) ((A.2.2 0 (by unfold HP; omega) (by decide)).trans ((F0 0 (by decide)).trans hD0)) hn, bdE1, back, bdE1]
        rcases e6_harderP (mark := c_now_folk_mark) (colds := ovF cold cl N) (cold := cold) (er := c_errors) (cs := s1) (wt := nI k) H hn hX (show N ≤ 60 by omega) hcc (fun st' => f_X6_harder_L26 (nI n) c_now_folk_kind c_now_folk_mark c_now_folk_open c_now_folk_health (nI w) c_now_day 0 c_now_chill_codes (nI nc) 1 c_now_cold_codes (nI ng) c_errors (nI N) fu st' s1 (ovF cold cl N) (nI (k + 1))) n 0 300 st (by omega) (by omega) with ⟨ok, st2, e3⟩ | ⟨⟨p, hpn, z, y⟩, st2, e3⟩
        · have e3' : f_X6_harder_L41 (nI n) c_now_folk_kind c_now_folk_mark c_now_folk_open c_now_folk_health 0 c_now_chill_codes (nI nc) c_errors (nI N) (nI k) s1 (ovF cold cl N) (fun st' => f_X6_harder_L26 (nI n) c_now_folk_kind c_now_folk_mark c_now_folk_open c_now_folk_health (nI w) c_now_day 0 c_now_chill_codes (nI nc) 1 c_now_cold_codes (nI ng) c_errors (nI N) fu st' s1 (ovF cold cl N) (nI (k + 1))) 300 st 0 = f_X6_harder_L26 (nI n) c_now_folk_kind c_now_folk_mark c_now_folk_open c_now_folk_health (nI w) c_now_day 0 c_now_chill_codes (nI nc) 1 c_now_cold_codes (nI ng) c_errors (nI N) fu st2 s1 (ovF cold cl N) (nI (k + 1)) := e3
          have same : lvN (hIt c_now_chill_codes nc c_now_folk_kind c_now_folk_mark c_now_folk_open c_now_folk_health cold n N) n = lvN c_now_folk_health n := by
            refine lv_iff.mpr (fun p hpn => ?_)
            rw [hI_in hpn]
            refine ⟨fun q => (ok p (by omega) hpn).resolve_right (fun g => g q), fun q => ?_⟩
            have : ∀ j, tjI c_now_chill_codes nc (c_now_folk_kind p) (c_now_folk_mark p) (c_now_folk_open p) cold (c_now_folk_health p) j = 0 := by
              intro j
              induction j with
              | zero => exact q
              | succ j ih => exact tj_0 ih
            exact this N
          rw [e3', same, if_pos rfl]
          exact ih (k + 1) fu fu2 st2 s1 _ _ n1 p1 (by omega) (by omega) (by omega)
        · have e3' : f_X6_harder_L41 (nI n) c_now_folk_kind c_now_folk_mark c_now_folk_open c_now_folk_health 0 c_now_chill_codes (nI nc) c_errors (nI N) (nI k) s1 (ovF cold cl N) (fun st' => f_X6_harder_L26 (nI n) c_now_folk_kind c_now_folk_mark c_now_folk_open c_now_folk_health (nI w) c_now_day 0 c_now_chill_codes (nI nc) 1 c_now_cold_codes (nI ng) c_errors (nI N) fu st' s1 (ovF cold cl N) (nI (k + 1))) 300 st 0 = some (st2, s1, ovF cold cl N, c_errors, nI k) := e3
          have other : ¬ nI (lvN (hIt c_now_chill_codes nc c_now_folk_kind c_now_folk_mark c_now_folk_open c_now_folk_health cold n N) n) = nI (lvN c_now_folk_health n) := by
            intro q
            have q2 := (lv_iff.mp ((nI_eq (lv8 hn) (lv8 hn)).mp q)) p hpn
            rw [hI_in hpn] at q2
            exact z (q2.mp y)
          rw [e3', if_neg other]
          exact ⟨_, _, _, _, _, _, _, _, rfl, rfl⟩
    obtain ⟨st', cs', cl', er, r, as', n', p', e3, e4⟩ := L 10 0 300 300 c_now_chill_stack c_now_cold_stack c_colds m_aside m_names m_pile (by omega) (by omega) (by omega)
    refine ⟨?_, ?_, ?_, ?_, ?_, ?_, ?_, ?_, ?_, ?_, ?c, ?m, ?r⟩
    case c =>
      simp only [f_X6_harder, jnE]
      rw [rngC 61 (by decide), if_pos hp]
      exact e3
    case m =>
      simp only [f_X7_harder]
      rw [e7_inb 61 (by decide), bdE1, b01, if_pos hp, e7_aliveSet (fun p hp => (D p hp).2.2.2.2.2) hD0 hn, bdE1]
      exact e4
    case r => exact ⟨⟨hPp, hMo, hSc, hTa, hWa, hUs, hCh, hCo⟩, hIm, hKe, hKu, rfl, hTr, hTn, hTg, hSh⟩
  · refine ⟨?_, ?_, ?_, ?_, ?_, ?_, ?_, ?_, ?_, ?_, ?c, ?m, ?r⟩
    case c =>
      simp only [f_X6_harder, jnE]
      rw [rngC 61 (by decide), if_neg hp, ef1]
      rfl
    case m =>
      simp only [f_X7_harder]
      rw [e7_inb 61 (by decide), bdE1, b01, if_neg hp, eg1]
      rfl
    case r => exact ⟨⟨hPp, hMo, hSc, hTa, hWa, hUs, hCh, hCo⟩, hIm, hKe, hKu, rfl, hTr, hTn, hTg, hSh⟩
