/-! what a text gives: one value for class and reference -/
theorem jnE {α β : Type} (x : α) (k : α → Option β) : jnA x k = k x := (rfl)
theorem nmE {α β : Type} (x : α) (k : α → Option β) : nmA x k = k x := (rfl)
theorem bdE1 {α1 β : Type} (x : α1) (k : α1 → Option β) : bd1 (some x) k = k x := (rfl)
theorem bdE2 {α1 α2 β : Type} (x : α1) (y : α2) (k : α1 → α2 → Option β) : bd2 (some (x, y)) k = k x y := (rfl)
theorem bdE3 {α1 α2 α3 β : Type} (x : α1) (y : α2) (z : α3) (k : α1 → α2 → α3 → Option β) : bd3 (some (x, y, z)) k = k x y z := (rfl)
def apI (s l r : Int32) : Int32 := (f_X7_done s l r).getD 0
def vlI (a b c x : Int32) : Int32 := if x = -1 then a else if x = -2 then b else if x = -3 then c else x
def svS (a b c x : Int32) (q : Nat × (Nat → Int32)) : Nat × (Nat → Int32) := if -3 ≤ x then (q.1 + 1, upd q.2 q.1 (vlI a b c x)) else if x = -33 then (q.1, upd q.2 (q.1 - 1) (if q.2 (q.1 - 1) = 0 then 1 else 0)) else (q.1 - 1, upd q.2 (q.1 - 2) (apI (-x) (q.2 (q.1 - 2)) (q.2 (q.1 - 1))))
def sv (f : Nat → Int32) (a b c : Int32) : Nat → Nat × (Nat → Int32)
  | 0 => (0, fun _ => 0)
  | n + 1 => svS a b c (f n) (sv f a b c n)
def tvI (use : Nat) (f : Nat → Int32) (n : Nat) (a b c : Int32) : Int32 := maxI 0 (minI 99 (if n = 0 then (if use = 0 then a * b / 2 else b) else (sv f a b c n).2 0))
theorem tv_rg {use : Nat} {f : Nat → Int32} {n : Nat} {a b c : Int32} : rg 99 (tvI use f n a b c) := by
  unfold tvI
  generalize (if n = 0 then _ else _ : Int32) = v
  have h : ¬ maxI 0 (minI 99 v) < 0 ∧ maxI 0 (minI 99 v) ≤ 99 := by
    unfold maxI minI
    simp only [Int32.lt_iff_toInt_lt, Int32.le_iff_toInt_le]
    split <;> split <;> simp only [show (0 : Int32).toInt = 0 from rfl, show (99 : Int32).toInt = 99 from rfl] at * <;> omega
  exact nI_of2 (n := 99) (by decide) h.1 h.2
def Ag (t : Nat) (s g : Nat → Int32) : Prop := ∀ i, i < t → s i = g i
theorem agu {t t' i : Nat} {s g : Nat → Int32} {v : Int32} (h : Ag t s g) (ht : ∀ j, j < t' → j < t ∨ j = i) : Ag t' (upd s i v) (upd g i v) := by
  intro j hj
  by_cases e : j = i
  · subst e; rw [upd_s, upd_s]
  · rw [upd_n e, upd_n e]
    exact h j ((ht j hj).resolve_right e)
theorem sv_top {f : Nat → Int32} {a b c : Int32} : ∀ {k t : Nat}, cdepth f k = some t → (sv f a b c k).1 = t
  | 0, t, h => by simp only [cdepth, Option.some.injEq] at h; subst h; rfl
  | k + 1, t, h => by
    simp only [cdepth] at h
    obtain ⟨t0, h0, h1⟩ := Option.bind_eq_some_iff.mp h
    have ih := sv_top (a := a) (b := b) (c := c) h0
    simp only [sv, svS]
    unfold cdp at h1
    rw [ih]
    by_cases e1 : -3 ≤ f k
    · rw [if_pos e1] at h1 ⊢
      simpa using h1
    · rw [if_neg e1] at h1 ⊢
      by_cases e2 : f k = -33
      · rw [if_pos e2] at h1 ⊢
        split at h1
        · simpa using h1
        · cases h1
      · rw [if_neg e2] at h1 ⊢
        split at h1
        · simpa using h1
        · cases h1
theorem cd_pre {f : Nat → Int32} : ∀ {n t : Nat}, cdepth f n = some t → ∀ k, k ≤ n → ∃ t', cdepth f k = some t' ∧ t' ≤ k
  | 0, t, h, k, hk => by
    obtain rfl : k = 0 := by omega
    exact ⟨0, rfl, by omega⟩
  | n + 1, t, h, k, hk => by
    have h' := h
    simp only [cdepth] at h
    obtain ⟨t0, h0, h1⟩ := Option.bind_eq_some_iff.mp h
    by_cases e : k ≤ n
    · exact cd_pre h0 k e
    · obtain rfl : k = n + 1 := by omega
      refine ⟨t, h', ?_⟩
      obtain ⟨t1, h2, h3⟩ := cd_pre h0 n (Nat.le_refl _)
      rw [h0] at h2
      cases h2
      unfold cdp at h1
      split at h1
      · cases h1; omega
      · split at h1
        · split at h1
          · cases h1; omega
          · cases h1
        · split at h1
          · cases h1; omega
          · cases h1
/-- the signs but '!' -/
def SG (g : Nat) : Prop := g = 124 ∨ g = 38 ∨ g = 60 ∨ g = 61 ∨ g = 62 ∨ g = 43 ∨ g = 45 ∨ g = 42 ∨ g = 47 ∨ g = 37
theorem nzd {y : Int32} {v : Int32} (h : ¬ y = 0) : nzA y (some v) = some v := by
  unfold nzA
  rw [if_neg h]
theorem ap7 {g : Nat} (h : SG g) (l r : Int32) : f_X7_done (nI g) l r = some (apI (nI g) l r) := by
  have : ∃ v, f_X7_done (nI g) l r = some v := by
    unfold f_X7_done
    rcases h with rfl | rfl | rfl | rfl | rfl | rfl | rfl | rfl | rfl | rfl
    · show ∃ v, (if l = 0 then (if r = 0 then some 0 else some 1) else some 1) = some v
      repeat' split
      all_goals exact ⟨_, rfl⟩
    · show ∃ v, (if l = 0 then some 0 else (if r = 0 then some 0 else some 1)) = some v
      repeat' split
      all_goals exact ⟨_, rfl⟩
    · show ∃ v, (if r ≤ l then some 0 else some 1) = some v
      repeat' split
      all_goals exact ⟨_, rfl⟩
    · show ∃ v, (if l = r then some 1 else some 0) = some v
      repeat' split
      all_goals exact ⟨_, rfl⟩
    · show ∃ v, (if l ≤ r then some 0 else some 1) = some v
      repeat' split
      all_goals exact ⟨_, rfl⟩
    · exact ⟨_, rfl⟩
    · exact ⟨_, rfl⟩
    · exact ⟨_, rfl⟩
    · show ∃ v, (if r = 0 then some 0 else nzA r (some (l / r))) = some v
      split
      · exact ⟨_, rfl⟩
      · next e => rw [nzd e]; exact ⟨_, rfl⟩
    · show ∃ v, (if r = 0 then some 0 else nzA r (some (rmI l r))) = some v
      split
      · exact ⟨_, rfl⟩
      · next e => rw [nzd e]; exact ⟨_, rfl⟩
  obtain ⟨v, hv⟩ := this
  unfold apI
  rw [hv]
  rfl
theorem ap3 {g : Nat} (h : SG g) (l r : Int32) : f_X3_apply (nI g) l r = some (apI (nI g) l r) := by
  rw [← ap7 h]
  unfold f_X3_apply f_X7_done
  rcases h with rfl | rfl | rfl | rfl | rfl | rfl | rfl | rfl | rfl | rfl <;> rfl
theorem negneg (g : Nat) : - -nI g = nI g := Int32.neg_neg
theorem SG_of {g : Nat} (h : g ∈ ([33, 124, 38, 60, 61, 62, 43, 45, 42, 47, 37] : List Nat)) : g = 33 ∨ SG g := by
  unfold SG
  simp only [List.mem_cons, List.not_mem_nil, or_false] at h
  exact h
theorem SG_neg {g : Nat} (h : SG g) : -nI g < -3 ∧ ¬ (-nI g = -33) ∧ ¬ (-3 ≤ -nI g) := by
  rcases h with rfl | rfl | rfl | rfl | rfl | rfl | rfl | rfl | rfl | rfl <;> exact ⟨by decide, by decide, by decide⟩
theorem num_neg {v : Nat} (h : v ≤ 9999) : ¬ nI v < -3 ∧ -3 ≤ nI v ∧ ¬ nI v = -1 ∧ ¬ nI v = -2 ∧ ¬ nI v = -3 := by
  have e : (nI v).toInt = v := nI_toInt (by omega)
  refine ⟨?_, ?_, ?_, ?_, ?_⟩
  · rw [Int32.lt_iff_toInt_lt, e]; show ¬ (v : Int) < -3; omega
  · rw [Int32.le_iff_toInt_le, e]; show (-3 : Int) ≤ v; omega
  · intro q; rw [q] at e; have : (-1 : Int) = v := e; omega
  · intro q; rw [q] at e; have : (-2 : Int) = v := e; omega
  · intro q; rw [q] at e; have : (-3 : Int) = v := e; omega
