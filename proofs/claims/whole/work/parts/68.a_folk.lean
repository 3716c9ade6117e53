/-! what is worked out of a person, value by value -/
def wlI (k hl : Int32) : Int32 := if (if k = 0 ∨ k = 1 ∨ k = 4 then 30 ≤ hl else 1 ≤ hl) then 1 else 0
def cHI (k h b w : Int32) : Int32 := if w = 0 ∨ k = 2 ∨ k = 5 then 0 else if k = 3 then minI (1 - minI 1 b) h else if k = 6 then minI (2 - minI 2 b) h else minI 1 h
def cBI (k h b w : Int32) : Int32 := if w = 0 ∨ k = 2 ∨ k = 5 then 0 else if k = 3 then minI 1 b else if k = 6 then minI 2 b else minI (1 - minI 1 h) b
def ctI (k m h b hl w : Int32) : Int32 := if w = 0 then 0 else if k = 2 then rmI m 2 else if k = 5 then rmI m 2 + (if hl < 50 then 1 else 0) else if k = 4 then cHI k h b w + cBI k h b w * 5 else cHI k h b w + cBI k h b w * 3
def chI (k m v : Int32) : Int32 := if k = 1 then v / 2 else if k = 2 then v + 2 else if k = 4 then maxI 0 (v / 2 - m) else if k = 5 then maxI 0 (v + 2 - m) else v
theorem e0_will {kind health : Nat → Int32} {p : Nat} (hp : p < 8) (hk : rg 6 (kind p)) (hl : rg 99 (health p)) : f_X0_isWilling kind health (nI p) = some (wlI (kind p) (health p)) := by
  unfold f_X0_isWilling
  rw [rdA_i rfl hp, rdA_i rfl hp]
  obtain ⟨j, hj, e⟩ := hk
  obtain ⟨x, hx, e2⟩ := hl
  rw [e, e2]
  clear e e2
  revert x
  revert j
  decide +kernel
theorem wl01 (k hl : Int32) : wlI k hl = nI 0 ∨ wlI k hl = nI 1 := by
  unfold wlI
  by_cases h : (if k = 0 ∨ k = 1 ∨ k = 4 then 30 ≤ hl else 1 ≤ hl)
  · rw [if_pos h]; exact Or.inr rfl
  · rw [if_neg h]; exact Or.inl rfl
theorem wl_rg (k hl : Int32) : ∃ w, w ≤ 1 ∧ wlI k hl = nI w := by
  rcases wl01 k hl with h | h
  · exact ⟨0, by decide, h⟩
  · exact ⟨1, by decide, h⟩
theorem e0_cutH {kind horn brass health : Nat → Int32} {p : Nat} (hp : p < 8) (hk : rg 6 (kind p)) (hh : rg 9 (horn p)) (hb : rg 9 (brass p)) (hl : rg 99 (health p)) : f_X0_cutsHorn kind horn brass health (nI p) = some (cHI (kind p) (horn p) (brass p) (wlI (kind p) (health p))) := by
  unfold f_X0_cutsHorn
  rw [e0_will hp hk hl]
  simp only [bd1, Option.bind_some]
  rw [rdA_i rfl hp]
  simp only [rdA_i (rfl : nI p = nI p) hp]
  obtain ⟨w, hw, e3⟩ := wl_rg (kind p) (health p)
  rw [e3]
  obtain ⟨j, hj, e⟩ := hk
  obtain ⟨x, hx, e2⟩ := hh
  obtain ⟨y, hy, e4⟩ := hb
  rw [e, e2, e4]
  clear e e2 e3 e4
  revert w
  revert y
  revert x
  revert j
  decide +kernel
theorem e0_cutB {kind horn brass health : Nat → Int32} {p : Nat} (hp : p < 8) (hk : rg 6 (kind p)) (hh : rg 9 (horn p)) (hb : rg 9 (brass p)) (hl : rg 99 (health p)) : f_X0_cutsBrass kind horn brass health (nI p) = some (cBI (kind p) (horn p) (brass p) (wlI (kind p) (health p))) := by
  unfold f_X0_cutsBrass
  rw [e0_will hp hk hl]
  simp only [bd1, Option.bind_some]
  rw [rdA_i rfl hp]
  simp only [rdA_i (rfl : nI p = nI p) hp]
  obtain ⟨w, hw, e3⟩ := wl_rg (kind p) (health p)
  rw [e3]
  obtain ⟨j, hj, e⟩ := hk
  obtain ⟨x, hx, e2⟩ := hh
  obtain ⟨y, hy, e4⟩ := hb
  rw [e, e2, e4]
  clear e e2 e3 e4
  revert w
  revert y
  revert x
  revert j
  decide +kernel
theorem e0_counts {kind mark horn brass health : Nat → Int32} {p : Nat} (hp : p < 8) (hk : rg 6 (kind p)) (hh : rg 9 (horn p)) (hb : rg 9 (brass p)) (hl : rg 99 (health p)) : f_X0_counts kind mark horn brass health (nI p) = some (ctI (kind p) (mark p) (horn p) (brass p) (health p) (wlI (kind p) (health p))) := by
  unfold f_X0_counts
  rw [e0_will hp hk hl, e0_cutH hp hk hh hb hl, e0_cutB hp hk hh hb hl]
  simp only [bd1, Option.bind_some, rdA_i (rfl : nI p = nI p) hp]
  unfold ctI
  by_cases hw : wlI (kind p) (health p) = 0
  · rw [if_pos hw, if_pos hw]
  rw [if_neg hw, if_neg hw]
  obtain ⟨j, hj, e⟩ := hk
  rw [e]
  generalize cHI _ _ _ _ = ch
  generalize cBI _ _ _ _ = cb
  generalize mark p = m
  generalize health p = x
  rcases (show j = 0 ∨ j = 1 ∨ j = 2 ∨ j = 3 ∨ j = 4 ∨ j = 5 ∨ j = 6 by omega) with rfl | rfl | rfl | rfl | rfl | rfl | rfl
  · rfl
  · rfl
  · show some (rmI m 2 + 0) = some (rmI m 2)
    rw [Int32.add_zero]
  · rfl
  · rfl
  · show (if 50 ≤ x then some (rmI m 2 + 0) else some (rmI m 2 + 1)) = some (rmI m 2 + if x < 50 then 1 else 0)
    by_cases h : 50 ≤ x
    · rw [if_pos h, if_neg (Int32.not_lt.mpr h)]
    · rw [if_neg h, if_pos (Int32.not_le.mp h)]
  · rfl
theorem e0_chill {kind mark : Nat → Int32} {p : Nat} {v : Int32} (hp : p < 8) (hk : rg 6 (kind p)) : f_X0_chillOf kind mark (nI p) v = some (chI (kind p) (mark p) v) := by
  unfold f_X0_chillOf
  simp only [rdA_i (rfl : nI p = nI p) hp]
  obtain ⟨j, hj, e⟩ := hk
  rw [e]
  generalize mark p = m
  rcases (show j = 0 ∨ j = 1 ∨ j = 2 ∨ j = 3 ∨ j = 4 ∨ j = 5 ∨ j = 6 by omega) with rfl | rfl | rfl | rfl | rfl | rfl | rfl <;> rfl
theorem e7_dead {d : Nat → Int32} {p : Nat} (hp : p < 8) : f_X7_isDead d (nI p) = some (if d (15 + 6 * p) = 0 then 1 else 0) := by
  unfold f_X7_isDead
  rw [eo5 hp]
  simp only [bd1, Option.bind_some]
  split <;> rfl
theorem e7_will {d : Nat → Int32} {p : Nat} (hp : p < 8) (hk : rg 6 (d (10 + 6 * p))) (hl : rg 99 (d (15 + 6 * p))) : f_X7_isWilling d (nI p) = some (wlI (d (10 + 6 * p)) (d (15 + 6 * p))) := by
  unfold f_X7_isWilling
  rw [eo0 hp, eo5 hp, e7_dead hp]
  obtain ⟨j, hj, e⟩ := hk
  obtain ⟨x, hx, e2⟩ := hl
  rw [e, e2]
  clear e e2
  revert x
  revert j
  decide +kernel
theorem e7_cuts {d : Nat → Int32} {a b : Int32} {p : Nat} (hp : p < 8) (hk : rg 6 (d (10 + 6 * p))) (hh : rg 9 (d (12 + 6 * p))) (hb : rg 9 (d (13 + 6 * p))) (hl : rg 99 (d (15 + 6 * p))) : f_X7_cuts d a b (nI p) = some (cHI (d (10 + 6 * p)) (d (12 + 6 * p)) (d (13 + 6 * p)) (wlI (d (10 + 6 * p)) (d (15 + 6 * p))), cBI (d (10 + 6 * p)) (d (12 + 6 * p)) (d (13 + 6 * p)) (wlI (d (10 + 6 * p)) (d (15 + 6 * p)))) := by
  unfold f_X7_cuts
  rw [eo0 hp, e7_will hp hk hl]
  unfold f_X7_cutsOne
  rw [eo2 hp, eo3 hp]
  obtain ⟨w, hw, e3⟩ := wl_rg (d (10 + 6 * p)) (d (15 + 6 * p))
  rw [e3]
  obtain ⟨j, hj, e⟩ := hk
  obtain ⟨x, hx, e2⟩ := hh
  obtain ⟨y, hy, e4⟩ := hb
  rw [e, e2, e4]
  clear e e2 e3 e4
  rcases (show j = 0 ∨ j = 1 ∨ j = 2 ∨ j = 3 ∨ j = 4 ∨ j = 5 ∨ j = 6 by omega) with rfl | rfl | rfl | rfl | rfl | rfl | rfl <;> rcases (show w = 0 ∨ w = 1 by omega) with rfl | rfl <;> revert x y <;> decide +kernel
theorem e7_counts {d : Nat → Int32} {a b : Int32} {p : Nat} (hp : p < 8) (hk : rg 6 (d (10 + 6 * p))) (hh : rg 9 (d (12 + 6 * p))) (hb : rg 9 (d (13 + 6 * p))) (hl : rg 99 (d (15 + 6 * p))) : ∃ a' b', f_X7_counts d a b (nI p) = some (a', b', ctI (d (10 + 6 * p)) (d (11 + 6 * p)) (d (12 + 6 * p)) (d (13 + 6 * p)) (d (15 + 6 * p)) (wlI (d (10 + 6 * p)) (d (15 + 6 * p)))) := by
  unfold f_X7_counts
  rw [e7_will hp hk hl, e7_cuts hp hk hh hb hl, eo0 hp, eo1 hp, eo5 hp]
  simp only [bd1, bd2, Option.bind_some]
  unfold ctI
  by_cases hw : wlI (d (10 + 6 * p)) (d (15 + 6 * p)) = 0
  · rw [if_pos hw, if_pos hw]
    exact ⟨_, _, rfl⟩
  rw [if_neg hw, if_neg hw]
  obtain ⟨j, hj, e⟩ := hk
  rw [e]
  generalize cHI _ _ _ _ = ch
  generalize cBI _ _ _ _ = cb
  generalize d (11 + 6 * p) = m
  generalize d (15 + 6 * p) = x
  rcases (show j = 0 ∨ j = 1 ∨ j = 2 ∨ j = 3 ∨ j = 4 ∨ j = 5 ∨ j = 6 by omega) with rfl | rfl | rfl | rfl | rfl | rfl | rfl
  · exact ⟨ch, cb, congrArg (fun z => some (ch, cb, ch + z)) (Int32.mul_comm 3 cb)⟩
  · exact ⟨ch, cb, congrArg (fun z => some (ch, cb, ch + z)) (Int32.mul_comm 3 cb)⟩
  · exact ⟨ch, cb, rfl⟩
  · exact ⟨ch, cb, congrArg (fun z => some (ch, cb, ch + z)) (Int32.mul_comm 3 cb)⟩
  · exact ⟨ch, cb, congrArg (fun z => some (ch, cb, ch + z)) (Int32.mul_comm 5 cb)⟩
  · refine ⟨ch, cb, ?_⟩
    show (if 50 ≤ x then some (ch, cb, rmI m 2 + 0) else some (ch, cb, rmI m 2 + 1)) = some (ch, cb, rmI m 2 + if x < 50 then 1 else 0)
    by_cases h : 50 ≤ x
    · rw [if_pos h, if_neg (Int32.not_lt.mpr h)]
    · rw [if_neg h, if_pos (Int32.not_le.mp h)]
  · exact ⟨ch, cb, congrArg (fun z => some (ch, cb, ch + z)) (Int32.mul_comm 3 cb)⟩
/-- what the reference makes of a chill, behind its text -/
theorem e7_chill {d names names' pile pile' : Nat → Int32} {p : Nat} {c v : Int32} (hp : p < 8) (hk : rg 6 (d (10 + 6 * p))) (hm : rg 9 (d (11 + 6 * p))) (hv : rg 99 v) (ht : f_X7_textGives d names pile 0 c (d (14 + 6 * p)) (d (15 + 6 * p)) = some (names', pile', v)) : f_X7_chillOf d names pile (nI p) c = some (names', pile', chI (d (10 + 6 * p)) (d (11 + 6 * p)) v) := by
  unfold f_X7_chillOf
  rw [eo0 hp, eo1 hp, eo4 hp, eo5 hp]
  simp only [bd1, bd3, Option.bind_some]
  rw [ht]
  simp only [Option.bind_some]
  obtain ⟨j, hj, e⟩ := hk
  rw [e]
  obtain ⟨m, hm, e2⟩ := hm
  obtain ⟨x, hx, e3⟩ := hv
  rw [e2, e3]
  rcases (show j = 0 ∨ j = 1 ∨ j = 2 ∨ j = 3 ∨ j = 4 ∨ j = 5 ∨ j = 6 by omega) with rfl | rfl | rfl | rfl | rfl | rfl | rfl
  · rfl
  · rfl
  · rfl
  · rfl
  · have h : ∀ m, m ≤ 9 → ∀ x, x ≤ 99 → maxI 0 (nI x / 2 - nI m) = if nI m ≤ nI x / 2 then nI x / 2 - nI m else 0 := by decide +kernel
    show (if nI m ≤ nI x / 2 then some (names', pile', nI x / 2 - nI m) else some (names', pile', 0)) = some (names', pile', maxI 0 (nI x / 2 - nI m))
    rw [h m hm x hx]
    split <;> rfl
  · have h : ∀ m, m ≤ 9 → ∀ x, x ≤ 99 → maxI 0 (nI x + 2 - nI m) = if nI m ≤ nI x + 2 then nI x + 2 - nI m else 0 := by decide +kernel
    show (if nI m ≤ nI x + 2 then some (names', pile', nI x + 2 - nI m) else some (names', pile', 0)) = some (names', pile', maxI 0 (nI x + 2 - nI m))
    rw [h m hm x hx]
    split <;> rfl
  · rfl
theorem ch_rg {k m v : Int32} (hk : rg 6 k) (hm : rg 9 m) (hv : rg 99 v) : rg 101 (chI k m v) := by
  obtain ⟨j, hj, rfl⟩ := hk
  obtain ⟨m, hm, rfl⟩ := hm
  obtain ⟨x, hx, rfl⟩ := hv
  have h : ∀ j, j ≤ 6 → ∀ m, m ≤ 9 → ∀ x, x ≤ 99 → (chI (nI j) (nI m) (nI x)) = nI (chI (nI j) (nI m) (nI x)).toNatClampNeg ∧ (chI (nI j) (nI m) (nI x)).toNatClampNeg ≤ 101 := by decide +kernel
  exact ⟨_, (h j hj m hm x hx).2, (h j hj m hm x hx).1⟩
def okc (a : Int32) (x : Nat) : Bool := (a == nI a.toNatClampNeg) && Nat.ble a.toNatClampNeg 2 && Nat.ble a.toNatClampNeg x
theorem okc_e {a : Int32} {x : Nat} (h : okc a x = true) : ∃ n, n ≤ 2 ∧ n ≤ x ∧ a = nI n := by
  unfold okc at h
  simp only [Bool.and_eq_true, beq_iff_eq] at h
  exact ⟨_, Nat.le_of_ble_eq_true h.1.2, Nat.le_of_ble_eq_true h.2, h.1.1⟩
theorem cut_sm {k h b hl : Int32} {x y : Nat} (hk : rg 6 k) (hx : x ≤ 9) (hy : y ≤ 9) (hh : h = nI x) (hb : b = nI y) : (∃ n, n ≤ 2 ∧ n ≤ x ∧ cHI k h b (wlI k hl) = nI n) ∧ (∃ n, n ≤ 2 ∧ n ≤ y ∧ cBI k h b (wlI k hl) = nI n) := by
  obtain ⟨w, hw, e3⟩ := wl_rg k hl
  rw [e3]
  obtain ⟨j, hj, rfl⟩ := hk
  subst hh
  subst hb
  clear e3
  have g1 : ∀ j, j ≤ 6 → ∀ x, x ≤ 9 → ∀ y, y ≤ 9 → ∀ w, w ≤ 1 → okc (cHI (nI j) (nI x) (nI y) (nI w)) x = true := by decide +kernel
  have g2 : ∀ j, j ≤ 6 → ∀ x, x ≤ 9 → ∀ y, y ≤ 9 → ∀ w, w ≤ 1 → okc (cBI (nI j) (nI x) (nI y) (nI w)) y = true := by decide +kernel
  exact ⟨okc_e (g1 j hj x hx y hy w hw), okc_e (g2 j hj x hx y hy w hw)⟩
theorem cut_rg {k h b hl : Int32} (hk : rg 6 k) (hh : rg 9 h) (hb : rg 9 b) : rg 2 (cHI k h b (wlI k hl)) ∧ rg 2 (cBI k h b (wlI k hl)) ∧ rg 9 (h - cHI k h b (wlI k hl)) ∧ rg 9 (b - cBI k h b (wlI k hl)) := by
  obtain ⟨x, hx, rfl⟩ := hh
  obtain ⟨y, hy, rfl⟩ := hb
  obtain ⟨⟨n1, a1, a2, a3⟩, n2, b1, b2, b3⟩ := cut_sm (hl := hl) hk hx hy rfl rfl
  rw [a3, b3]
  exact ⟨⟨_, a1, rfl⟩, ⟨_, b1, rfl⟩, ⟨x - n1, by omega, pk_sub a2⟩, ⟨y - n2, by omega, pk_sub b2⟩⟩
