/-! pure rows: the generated functions, worked out -/
theorem nI_bd {k n : Nat} (h : k < n) (hn : n < 2 ^ 31) : inb (nI k) n = true := by
  unfold inb
  rw [nI_toInt (by omega)]
  simp only [Bool.and_eq_true, decide_eq_true_eq]
  omega
theorem rdA_i {β : Type} {n k : Nat} {f : Nat → Int32} {i : Int32} {g : Int32 → Option β} (hi : i = nI k) (h : k < n) (hn : n < 2 ^ 31 := by decide) : rdA n f i g = g (f k) := by
  subst hi
  unfold rdA
  rw [if_pos (nI_bd h hn), nI_clamp (by omega)]
theorem wrA_i {β : Type} {n k : Nat} {f : Nat → Int32} {i v : Int32} {g : (Nat → Int32) → Option β} (hi : i = nI k) (h : k < n) (hn : n < 2 ^ 31 := by decide) : wrA n f i v g = g (upd f k v) := by
  subst hi
  unfold wrA
  rw [if_pos (nI_bd h hn), nI_clamp (by omega)]
theorem nzA_k {β : Type} {y : Int32} {k : Option β} (h : ¬ y = 0) : nzA y k = k := by
  unfold nzA
  rw [if_neg h]
theorem bzA_0 {β : Type} {k : Option β} : bzA 0 k = k := rfl
theorem bzA_1 {β : Type} {k : Option β} : bzA 1 k = k := rfl
theorem upd_s {f : Nat → Int32} {k : Nat} {v : Int32} : upd f k v k = v := by simp [upd]
theorem upd_n {f : Nat → Int32} {k j : Nat} {v : Int32} (h : j ≠ k) : upd f k v j = f j := by simp [upd, h]
theorem i64_toInt (x : Int32) : x.toInt64.toInt = x.toInt := Int32.toInt_toInt64 x
/-- the reference's interval -/
theorem e7_in (v lo hi : Int64) : f_X7_in v lo hi = some (if lo ≤ v ∧ v ≤ hi then 1 else 0) := by
  unfold f_X7_in lg_cmp
  rw [Int64.le_iff_toInt_le, Int64.le_iff_toInt_le]
  simp only [Int64.lt_iff_toInt_lt]
  by_cases h1 : v.toInt < lo.toInt
  · simp [h1]; omega
  · by_cases h2 : hi.toInt < v.toInt
    · simp [h1, h2]; omega
    · simp [h1, h2]; omega
