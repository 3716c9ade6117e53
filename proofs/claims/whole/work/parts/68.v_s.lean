/-! plans -/
def cntN (S i : Nat) : Nat := ((List.range i).filter (fun j => S / 2 ^ j % 2 == 1)).length
def bitN (S q : Nat) : Nat := ((List.range 6).filter (fun j => S / 2 ^ j % 2 == 1)).getD q 0
theorem cn_s : ∀ S, S < 64 → ∀ i, i < 6 → cntN S (i + 1) = cntN S i + S / 2 ^ i % 2 := by decide +kernel
theorem cn_b : ∀ S, S < 64 → ∀ i, i < 6 → S / 2 ^ i % 2 = 1 → bitN S (cntN S i) = i := by decide +kernel
theorem cn_le : ∀ S, S < 64 → ∀ i, i < 7 → cntN S i ≤ cntN S 6 := by decide +kernel
theorem cn_mo : ∀ mo, mo < 7 → ∀ S, S < 64 → S < 2 ^ mo → cntN S mo = cntN S 6 := by decide +kernel
theorem cn_pc : ∀ S, S < 64 → pcN S = cntN S 6 := by decide +kernel
theorem cn_1 : ∀ S, S < 64 → 0 < S → 0 < cntN S 6 := by decide +kernel
theorem cn_bt : ∀ S, S < 64 → ∀ i, i < 6 → btI (nI S) (nI i) = nI (S / 2 ^ i % 2) := by decide +kernel
theorem cn_sh : ∀ S, S < 64 → ∀ mo, mo < 7 → ((nI S >>> (nI mo &&& 31)) = 0 ↔ S < 2 ^ mo) := by decide +kernel
theorem pc8 (w : Nat) : pcN w ≤ 8 := by
  unfold pcN
  omega
theorem e6_dir {C N pl : Nat} (hC : C < 2 ^ 31) (hN : 0 < N) (hN2 : N < 2 ^ 31) (hp : pl ≤ 200) : f_X6_dayInRow (nI C) (nI N) (nI pl) = some (nI (C / N ^ pl % N)) := by
  unfold f_X6_dayInRow
  simp only [jnE]
  have L : ∀ (J : Int32 → Option Int32) (m k fu : Nat), k + m = pl → m < fu → f_X6_dayInRow_L6 (nI N) (nI pl) J fu (nI (C / N ^ k)) (nI k) = J (nI (C / N ^ pl)) := by
    intro J m
    induction m with
    | zero =>
      intro k fu hk hf
      obtain ⟨fu, rfl⟩ : ∃ q, fu = q + 1 := ⟨fu - 1, by omega⟩
      obtain rfl : k = pl := by omega
      simp only [f_X6_dayInRow_L6]
      rw [if_pos (nI_le (Nat.le_refl _) (by omega))]
    | succ m ih =>
      intro k fu hk hf
      obtain ⟨fu, rfl⟩ : ∃ q, fu = q + 1 := ⟨fu - 1, by omega⟩
      have b : C / N ^ k ≤ C := Nat.div_le_self _ _
      simp only [f_X6_dayInRow_L6]
      rw [if_neg (nI_ge (by omega) (by omega)), if_neg (nI_nle hN hN2), nzA_k (nI_ne0 hN hN2), pk_div (by omega) hN hN2, Nat.div_div_eq_div_mul, ← Nat.pow_succ]
      simp only [nmE, nI_1]
      exact ih (k + 1) fu (by omega) (by omega)
  have R := L (fun l4_1 => if nI N ≤ 0 then some 0 else nzA (nI N) (some (rmI l4_1 (nI N)))) pl 0 300 (by omega) (by omega)
  rw [Nat.pow_zero, Nat.div_one] at R
  refine R.trans ?_
  have b : C / N ^ pl ≤ C := Nat.div_le_self _ _
  show (if nI N ≤ 0 then some 0 else nzA (nI N) (some (rmI (nI (C / N ^ pl)) (nI N)))) = _
  rw [if_neg (nI_nle hN hN2), nzA_k (nI_ne0 hN hN2), rm_nI (by omega) hN hN2]
theorem pw_b {N c : Nat} (hN : N ≤ 5) (hc : c ≤ 3) : N ^ c ≤ 125 := by
  have h : ∀ N, N ≤ 5 → ∀ c, c ≤ 3 → N ^ c ≤ 125 := by decide +kernel
  exact h N hN c hc
theorem e7_pow {N c : Nat} (hN : N ≤ 5) (hc0 : 0 < c) (hc : c ≤ 3) (J : Int32 → Option ((Nat → Int32) × (Nat → Int32) × (Nat → Int32) × (Nat → Int32) × (Int32) × (Int32) × (Int32) × (Int32) × (Int32))) : f_X7_tries_L24 (nI c) (nI N) J 300 1 1 = J (nI (N ^ (c - 1))) := by
  have L : ∀ (m k fu : Nat), k + 1 + m = c → m < fu → f_X7_tries_L24 (nI c) (nI N) J fu (nI (N ^ k)) (nI (k + 1)) = J (nI (N ^ (c - 1))) := by
    intro m
    induction m with
    | zero =>
      intro k fu hk hf
      obtain ⟨fu, rfl⟩ : ∃ q, fu = q + 1 := ⟨fu - 1, by omega⟩
      simp only [f_X7_tries_L24]
      rw [if_pos (nI_le (by omega) (by omega)), show c - 1 = k by omega]
    | succ m ih =>
      intro k fu hk hf
      obtain ⟨fu, rfl⟩ : ∃ q, fu = q + 1 := ⟨fu - 1, by omega⟩
      simp only [f_X7_tries_L24]
      rw [if_neg (nI_ge (by omega) (by omega)), pk_mul, ← Nat.pow_succ]
      simp only [nmE, nI_1]
      exact ih (k + 1) fu (by omega) (by omega)
  exact L (c - 1) 0 300 (by omega) (by omega)
theorem e7_rows {N c : Nat} (hN : N ≤ 5) (hc : c ≤ 3) (J : Int32 → Option ((Nat → Int32) × (Nat → Int32) × (Nat → Int32) × (Nat → Int32) × (Nat → Int32) × (Int32) × (Int32) × (Nat → Int32) × (Int32) × (Int32) × (Int32) × (Int32) × (Int32))) : f_X7_plan_L172 (nI N) (nI c) J 300 1 0 = J (nI (N ^ c)) := by
  have L : ∀ (m k fu : Nat), k + m = c → m < fu → f_X7_plan_L172 (nI N) (nI c) J fu (nI (N ^ k)) (nI k) = J (nI (N ^ c)) := by
    intro m
    induction m with
    | zero =>
      intro k fu hk hf
      obtain ⟨fu, rfl⟩ : ∃ q, fu = q + 1 := ⟨fu - 1, by omega⟩
      obtain rfl : k = c := by omega
      simp only [f_X7_plan_L172]
      rw [if_pos (nI_le (Nat.le_refl _) (by omega))]
    | succ m ih =>
      intro k fu hk hf
      obtain ⟨fu, rfl⟩ : ∃ q, fu = q + 1 := ⟨fu - 1, by omega⟩
      simp only [f_X7_plan_L172]
      rw [if_neg (nI_ge (by omega) (by omega)), pk_mul, ← Nat.pow_succ]
      simp only [nmE, nI_1]
      exact ih (k + 1) fu (by omega) (by omega)
  exact L c 0 300 (by omega) (by omega)
theorem pw_div {N p : Nat} (hN : 0 < N) : N ^ (p + 1) / N = N ^ p := by
  rw [Nat.pow_succ]
  exact Nat.mul_div_cancel _ hN
theorem e7_unit {N c t : Nat} (hN0 : 0 < N) (hN : N ≤ 5) (hc : c ≤ 3) (ht : t < c) (J : Int32 → Option ((Nat → Int32) × (Nat → Int32) × (Nat → Int32) × (Nat → Int32) × (Nat → Int32) × (Int32) × (Int32) × (Nat → Int32) × (Int32) × (Int32) × (Int32) × (Int32) × (Int32))) : f_X7_plan_L228 (nI N) (nI t) J 300 (nI (N ^ c)) 0 = J (nI (N ^ (c - 1 - t))) := by
  have L : ∀ (m k fu : Nat), k + m = t + 1 → m < fu → f_X7_plan_L228 (nI N) (nI t) J fu (nI (N ^ (c - k))) (nI k) = J (nI (N ^ (c - 1 - t))) := by
    intro m
    induction m with
    | zero =>
      intro k fu hk hf
      obtain ⟨fu, rfl⟩ : ∃ q, fu = q + 1 := ⟨fu - 1, by omega⟩
      simp only [f_X7_plan_L228]
      rw [if_pos (nI_lt (by omega) (by omega)), show c - k = c - 1 - t by omega]
    | succ m ih =>
      intro k fu hk hf
      obtain ⟨fu, rfl⟩ : ∃ q, fu = q + 1 := ⟨fu - 1, by omega⟩
      have b := pw_b (N := N) (c := c - k) hN (by omega)
      simp only [f_X7_plan_L228]
      rw [if_neg (nI_nlt (by omega) (by omega)), nzA_k (nI_ne0 hN0 (by omega)), pk_div (by omega) hN0 (by omega), show c - k = (c - (k + 1)) + 1 by omega, pw_div hN0]
      simp only [nmE, nI_1]
      exact ih (k + 1) fu (by omega) (by omega)
  exact L (t + 1) 0 300 (by omega) (by omega)
/-- which motions are in a set -/
theorem e7_which {S : Nat} (hS : S < 64) (hc : cntN S 6 ≤ 3) (wh : Nat → Int32) : ∃ wh', (∀ q, q < cntN S 6 → wh' q = nI (bitN S q)) ∧ ∀ J : (Nat → Int32) → Int32 → Int32 → Option ((Nat → Int32) × (Nat → Int32) × (Nat → Int32) × (Nat → Int32) × (Nat → Int32) × (Int32) × (Int32) × (Nat → Int32) × (Int32) × (Int32) × (Int32) × (Int32) × (Int32)), f_X7_plan_L63 (nI S) J 300 wh 0 1 0 = J wh' (nI (cntN S 6)) 1 := by
  have L : ∀ (m i fu : Nat) (wh : Nat → Int32) (one : Int32), one = 1 → i + m = 6 → m < fu → (∀ q, q < cntN S i → wh q = nI (bitN S q)) → ∃ wh', (∀ q, q < cntN S 6 → wh' q = nI (bitN S q)) ∧ ∀ J : (Nat → Int32) → Int32 → Int32 → Option ((Nat → Int32) × (Nat → Int32) × (Nat → Int32) × (Nat → Int32) × (Nat → Int32) × (Int32) × (Int32) × (Nat → Int32) × (Int32) × (Int32) × (Int32) × (Int32) × (Int32)), f_X7_plan_L63 (nI S) J fu wh (nI (cntN S i)) one (nI i) = J wh' (nI (cntN S 6)) 1 := by
    intro m
    induction m with
    | zero =>
      intro i fu wh one ho hk hf hw
      obtain ⟨fu, rfl⟩ : ∃ q, fu = q + 1 := ⟨fu - 1, by omega⟩
      obtain rfl : i = 6 := by omega
      refine ⟨wh, hw, fun J => ?_⟩
      simp only [f_X7_plan_L63]
      rw [if_pos (show (6 : Int32) ≤ nI 6 by decide), ho]
    | succ m ih =>
      intro i fu wh one ho hk hf hw
      obtain ⟨fu, rfl⟩ : ∃ q, fu = q + 1 := ⟨fu - 1, by omega⟩
      have c1 := cn_s S hS i (by omega)
      have c2 := cn_le S hS (i + 1) (by omega)
      have bt : (nI S >>> (nI i &&& 31)) &&& 1 = nI (S / 2 ^ i % 2) := cn_bt S hS i (by omega)
      by_cases z : S / 2 ^ i % 2 = 1
      · have e : cntN S (i + 1) = cntN S i + 1 := by omega
        obtain ⟨wh', h1, h2⟩ := ih (i + 1) fu (upd wh (cntN S i) (nI i)) 1 rfl (by omega) (by omega) (fun q hq => by
          by_cases x : q = cntN S i
          · rw [x, upd_s, cn_b S hS i (by omega) z]
          · rw [upd_n x]
            exact hw q (by omega))
        rw [e] at h2
        refine ⟨wh', h1, fun J => ?_⟩
        simp only [f_X7_plan_L63, jnE, nmE, nI_1]
        rw [if_neg (show ¬ (6 : Int32) ≤ nI i from nI_ge (b := 6) (by omega) (by decide)), if_neg (by rw [ho]; decide), bt, if_pos (show nI (S / 2 ^ i % 2) = (1 : Int32) by rw [z]; rfl), if_neg (show ¬ (3 : Int32) ≤ nI (cntN S i) from nI_ge (b := 3) (by omega) (by decide)), if_neg (show ¬ (1 : Int32) = 0 by decide), wrA_i rfl (by omega)]
        exact h2 J
      · have e : cntN S (i + 1) = cntN S i := by omega
        obtain ⟨wh', h1, h2⟩ := ih (i + 1) fu wh one ho (by omega) (by omega) (fun q hq => hw q (by omega))
        rw [e] at h2
        refine ⟨wh', h1, fun J => ?_⟩
        simp only [f_X7_plan_L63, jnE, nmE, nI_1]
        rw [if_neg (show ¬ (6 : Int32) ≤ nI i from nI_ge (b := 6) (by omega) (by decide)), if_neg (by rw [ho]; decide), bt, if_neg (show ¬ nI (S / 2 ^ i % 2) = (1 : Int32) from fun q => z ((nI_eq (b := 1) (by omega) (by decide)).mp q))]
        exact h2 J
  exact L 6 0 300 wh 1 rfl (by omega) (by omega) (fun q hq => absurd hq (Nat.not_lt_zero q))
theorem e7_many {S : Nat} (hS : S < 64) (hc : 3 < cntN S 6) (wh : Nat → Int32) : ∃ wh' mm', ∀ J : (Nat → Int32) → Int32 → Int32 → Option ((Nat → Int32) × (Nat → Int32) × (Nat → Int32) × (Nat → Int32) × (Nat → Int32) × (Int32) × (Int32) × (Nat → Int32) × (Int32) × (Int32) × (Int32) × (Int32) × (Int32)), f_X7_plan_L63 (nI S) J 300 wh 0 1 0 = J wh' mm' 0 := by
  have L : ∀ (m i fu : Nat) (wh : Nat → Int32) (one : Int32), one = 1 → i + m = 6 → m < fu → cntN S i ≤ 3 → ∃ wh' mm', ∀ J : (Nat → Int32) → Int32 → Int32 → Option ((Nat → Int32) × (Nat → Int32) × (Nat → Int32) × (Nat → Int32) × (Nat → Int32) × (Int32) × (Int32) × (Nat → Int32) × (Int32) × (Int32) × (Int32) × (Int32) × (Int32)), f_X7_plan_L63 (nI S) J fu wh (nI (cntN S i)) one (nI i) = J wh' mm' 0 := by
    intro m
    induction m with
    | zero =>
      intro i fu wh one ho hk hf hw
      obtain rfl : i = 6 := by omega
      omega
    | succ m ih =>
      intro i fu wh one ho hk hf hw
      obtain ⟨fu, rfl⟩ : ∃ q, fu = q + 1 := ⟨fu - 1, by omega⟩
      have c1 := cn_s S hS i (by omega)
      have bt : (nI S >>> (nI i &&& 31)) &&& 1 = nI (S / 2 ^ i % 2) := cn_bt S hS i (by omega)
      by_cases z : S / 2 ^ i % 2 = 1
      · have e : cntN S (i + 1) = cntN S i + 1 := by omega
        by_cases y : cntN S i = 3
        · refine ⟨upd wh 0 (nI i), nI (cntN S i + 1), fun J => ?_⟩
          simp only [f_X7_plan_L63, jnE, nmE, nI_1]
          rw [if_neg (show ¬ (6 : Int32) ≤ nI i from nI_ge (b := 6) (by omega) (by decide)), if_neg (by rw [ho]; decide), bt, if_pos (show nI (S / 2 ^ i % 2) = (1 : Int32) by rw [z]; rfl), if_pos (show (3 : Int32) ≤ nI (cntN S i) by rw [y]; decide), if_pos trivial, wrA_i (i := 0) (k := 0) rfl (by decide)]
          obtain ⟨fu, rfl⟩ : ∃ q, fu = q + 1 := ⟨fu - 1, by omega⟩
          simp only [f_X7_plan_L63]
          by_cases x : (6 : Int32) ≤ nI (i + 1)
          · rw [if_pos x]
          · rw [if_neg x, if_pos trivial]
        · obtain ⟨wh', mm', h2⟩ := ih (i + 1) fu (upd wh (cntN S i) (nI i)) 1 rfl (by omega) (by omega) (by omega)
          rw [e] at h2
          refine ⟨wh', mm', fun J => ?_⟩
          simp only [f_X7_plan_L63, jnE, nmE, nI_1]
          rw [if_neg (show ¬ (6 : Int32) ≤ nI i from nI_ge (b := 6) (by omega) (by decide)), if_neg (by rw [ho]; decide), bt, if_pos (show nI (S / 2 ^ i % 2) = (1 : Int32) by rw [z]; rfl), if_neg (show ¬ (3 : Int32) ≤ nI (cntN S i) from nI_ge (b := 3) (by omega) (by decide)), if_neg (show ¬ (1 : Int32) = 0 by decide), wrA_i rfl (by omega)]
          exact h2 J
      · have e : cntN S (i + 1) = cntN S i := by omega
        obtain ⟨wh', mm', h2⟩ := ih (i + 1) fu wh one ho (by omega) (by omega) (by omega)
        rw [e] at h2
        refine ⟨wh', mm', fun J => ?_⟩
        simp only [f_X7_plan_L63, jnE, nmE, nI_1]
        rw [if_neg (show ¬ (6 : Int32) ≤ nI i from nI_ge (b := 6) (by omega) (by decide)), if_neg (by rw [ho]; decide), bt, if_neg (show ¬ nI (S / 2 ^ i % 2) = (1 : Int32) from fun q => z ((nI_eq (b := 1) (by omega) (by decide)).mp q))]
        exact h2 J
  exact L 6 0 300 wh 1 rfl (by omega) (by omega) (Nat.zero_le _)
theorem e7_flag0 {t mm i : Int32} {wh : Nat → Int32} {fu : Nat} (J : (Nat → Int32) → Int32 → Int32 → Option ((Nat → Int32) × (Nat → Int32) × (Nat → Int32) × (Nat → Int32) × (Nat → Int32) × (Int32) × (Int32) × (Nat → Int32) × (Int32) × (Int32) × (Int32) × (Int32) × (Int32))) : f_X7_plan_L63 t J (fu + 1) wh mm 0 i = J wh mm 0 := by
  rw [f_X7_plan_L63]
  by_cases x : (6 : Int32) ≤ i
  · rw [if_pos x]
  · rw [if_neg x, if_pos rfl]
theorem e7_unitN {p1 p2 x : Int32} {fu : Nat} (h : p2 < 0) (J : Int32 → Option ((Nat → Int32) × (Nat → Int32) × (Nat → Int32) × (Nat → Int32) × (Nat → Int32) × (Int32) × (Int32) × (Nat → Int32) × (Int32) × (Int32) × (Int32) × (Int32) × (Int32))) : f_X7_plan_L228 p1 p2 J (fu + 1) x 0 = J x := by
  rw [f_X7_plan_L228, if_pos h]
