/-! pure rows: the generated functions, worked out -/
theorem nI_bd {k n : Nat} (h : k < n) (hn : n < 2 ^ 31) : inb (nI k) n = true := by
  unfold inb
  rw [nI_toInt (by omega)]
  simp only [Bool.and_eq_true, decide_eq_true_eq]
  omega
theorem rdA_i {β : Type} {n k : Nat} {f : Nat → Int32} {i : Int32} {g : Int32 → Option β} (hi : i = nI k) (h : k < n) (hn : n < 2 ^ 31 := by decide) : rdA n f i g = g (f k) := by
  subst hi
  unfold rdA
  rw [if_pos (nI_bd h hn), nI_clamp (by omega)]
theorem wrA_i {β : Type} {n k : Nat} {f : Nat → Int32} {i v : Int32} {g : (Nat → Int32) → Option β} (hi : i = nI k) (h : k < n) (hn : n < 2 ^ 31 := by decide) : wrA n f i v g = g (upd f k v) := by
  subst hi
  unfold wrA
  rw [if_pos (nI_bd h hn), nI_clamp (by omega)]
theorem nzA_k {β : Type} {y : Int32} {k : Option β} (h : ¬ y = 0) : nzA y k = k := by
  unfold nzA
  rw [if_neg h]
theorem bzA_0 {β : Type} {k : Option β} : bzA 0 k = k := rfl
theorem bzA_1 {β : Type} {k : Option β} : bzA 1 k = k := rfl
theorem upd_s {f : Nat → Int32} {k : Nat} {v : Int32} : upd f k v k = v := by simp [upd]
theorem upd_n {f : Nat → Int32} {k j : Nat} {v : Int32} (h : j ≠ k) : upd f k v j = f j := by simp [upd, h]
theorem inb_iff {x : Int32} {n : Nat} : inb x n = true ↔ 0 ≤ x.toInt ∧ x.toInt < n := by
  unfold inb
  simp only [Bool.and_eq_true, decide_eq_true_eq]
theorem inb_of {x : Int32} {n : Nat} (h : inb x n = true) (hn : n < 2 ^ 31) : ∃ k, k < n ∧ x = nI k := vp_in_of (inb_in h) hn
theorem lc_lt (x y : Int64) : lg_cmp x y < 0 ↔ x.toInt < y.toInt := by
  unfold lg_cmp
  simp only [gt_iff_lt, Int64.lt_iff_toInt_lt]
  by_cases h : y.toInt < x.toInt
  · rw [if_pos h]
    constructor
    · intro q; exact absurd q (by decide)
    · intro q; omega
  · rw [if_neg h]
    by_cases e : x = y
    · subst e
      rw [if_pos rfl]
      constructor
      · intro q; exact absurd q (by decide)
      · intro q; omega
    · rw [if_neg e]
      constructor
      · intro _
        have : x.toInt ≠ y.toInt := fun q => e (Int64.toInt_inj.mp q)
        omega
      · intro _; decide
theorem lc_gt (x y : Int64) : 0 < lg_cmp x y ↔ y.toInt < x.toInt := by
  unfold lg_cmp
  simp only [gt_iff_lt, Int64.lt_iff_toInt_lt]
  by_cases h : y.toInt < x.toInt
  · rw [if_pos h]
    exact ⟨fun _ => h, fun _ => by decide⟩
  · rw [if_neg h]
    by_cases e : x = y
    · subst e
      rw [if_pos rfl]
      constructor
      · intro q; exact absurd q (by decide)
      · intro q; omega
    · rw [if_neg e]
      constructor
      · intro q; exact absurd q (by decide)
      · intro q; omega
/-- the reference's interval -/
theorem e7_in (v lo hi : Int64) : f_X7_in v lo hi = some (if lo.toInt ≤ v.toInt ∧ v.toInt ≤ hi.toInt then 1 else 0) := by
  unfold f_X7_in
  simp only [lc_lt, lc_gt]
  by_cases h1 : v.toInt < lo.toInt
  · rw [if_pos h1, if_neg (by omega)]
  · rw [if_neg h1]
    by_cases h2 : hi.toInt < v.toInt
    · rw [if_pos h2, if_neg (by omega)]
    · rw [if_neg h2, if_pos (by omega)]
theorem e7_inb {x : Int32} {c : Int64} (n : Nat) (hc : c.toInt = (n : Int) - 1) : f_X7_in x.toInt64 0 c = some (if inb x n = true then 1 else 0) := by
  rw [e7_in]
  have h0 : (0 : Int64).toInt = 0 := by decide
  have hx : x.toInt64.toInt = x.toInt := Int32.toInt_toInt64 x
  by_cases h : inb x n = true
  · have := inb_iff.mp h
    rw [if_pos h, if_pos (by omega)]
  · rw [if_neg h, if_neg (fun q => h (inb_iff.mpr (by omega)))]
theorem rngA {α : Type} {x c : Int32} {a b : α} (n : Nat) (hc : c.toInt = (n : Int) - 1) : (if x < 0 then a else (if c < x then a else b)) = if inb x n = true then b else a := by
  simp only [Int32.lt_iff_toInt_lt, show (0 : Int32).toInt = 0 from rfl]
  by_cases h : inb x n = true
  · have := inb_iff.mp h
    rw [if_pos h, if_neg (by omega), if_neg (by omega)]
  · rw [if_neg h]
    by_cases h1 : x.toInt < 0
    · rw [if_pos h1]
    · rw [if_neg h1]
      by_cases h2 : c.toInt < x.toInt
      · rw [if_pos h2]
      · exact absurd (inb_iff.mpr (by omega)) h
theorem rngB {α : Type} {x c : Int32} {a b : α} (n : Nat) (hc : c.toInt = (n : Int)) : (if x < 0 then a else (if c ≤ x then a else b)) = if inb x n = true then b else a := by
  simp only [Int32.lt_iff_toInt_lt, Int32.le_iff_toInt_le, show (0 : Int32).toInt = 0 from rfl]
  by_cases h : inb x n = true
  · have := inb_iff.mp h
    rw [if_pos h, if_neg (by omega), if_neg (by omega)]
  · rw [if_neg h]
    by_cases h1 : x.toInt < 0
    · rw [if_pos h1]
    · rw [if_neg h1]
      by_cases h2 : c.toInt ≤ x.toInt
      · rw [if_pos h2]
      · exact absurd (inb_iff.mpr (by omega)) h
theorem rngC {α : Type} {x c : Int32} {a b : α} (n : Nat) (hc : c.toInt = (n : Int) - 1) : (if x < 0 then a else (if x ≤ c then b else a)) = if inb x n = true then b else a := by
  rw [← rngA n hc]
  simp only [Int32.lt_iff_toInt_lt, Int32.le_iff_toInt_le]
  by_cases h1 : x.toInt < (0 : Int32).toInt
  · rw [if_pos h1, if_pos h1]
  · rw [if_neg h1, if_neg h1]
    by_cases h2 : x.toInt ≤ c.toInt
    · rw [if_pos h2, if_neg (by omega)]
    · rw [if_neg h2, if_pos (by omega)]
theorem b01 {α : Type} {c : Prop} {_ : Decidable c} {a b : α} : (if (if c then (1 : Int32) else 0) = 0 then a else b) = if c then b else a := by
  by_cases h : c
  · rw [if_pos h, if_pos h]; rfl
  · rw [if_neg h, if_neg h]; rfl
theorem bz01 {β : Type} {c : Prop} {_ : Decidable c} {k : Option β} : bzA (if c then (1 : Int32) else 0) k = k := by
  by_cases h : c
  · rw [if_pos h]; rfl
  · rw [if_neg h]; rfl
theorem e6_fail {e : Nat → Int32} {i : Int32} (k : Nat) (hi : i = nI k) (h : k < 6) : f_X6_fail e i = some (upd e k (e k + 1), (-1000000000) - i) := by
  unfold f_X6_fail
  rw [rdA_i hi h, wrA_i hi h]
theorem e7_finds {e : Nat → Int32} {i : Int32} (k : Nat) (hi : i = nI k) (h : k < 6) : f_X7_finds e i = some (upd e k (e k + 1), (-1000000000) - i) := by
  unfold f_X7_finds
  rw [rdA_i hi h, wrA_i hi h]
theorem ef1 (e : Nat → Int32) : f_X6_fail e 1 = some (upd e 1 (e 1 + 1), (-1000000000) - 1) := e6_fail 1 rfl (by decide)
theorem eg1 (e : Nat → Int32) : f_X7_finds e 1 = some (upd e 1 (e 1 + 1), (-1000000000) - 1) := e7_finds 1 rfl (by decide)
theorem ef2 (e : Nat → Int32) : f_X6_fail e 2 = some (upd e 2 (e 2 + 1), (-1000000000) - 2) := e6_fail 2 rfl (by decide)
theorem eg2 (e : Nat → Int32) : f_X7_finds e 2 = some (upd e 2 (e 2 + 1), (-1000000000) - 2) := e7_finds 2 rfl (by decide)
theorem ef3 (e : Nat → Int32) : f_X6_fail e 3 = some (upd e 3 (e 3 + 1), (-1000000000) - 3) := e6_fail 3 rfl (by decide)
theorem eg3 (e : Nat → Int32) : f_X7_finds e 3 = some (upd e 3 (e 3 + 1), (-1000000000) - 3) := e7_finds 3 rfl (by decide)
theorem ef4 (e : Nat → Int32) : f_X6_fail e 4 = some (upd e 4 (e 4 + 1), (-1000000000) - 4) := e6_fail 4 rfl (by decide)
theorem eg4 (e : Nat → Int32) : f_X7_finds e 4 = some (upd e 4 (e 4 + 1), (-1000000000) - 4) := e7_finds 4 rfl (by decide)
theorem ef5 (e : Nat → Int32) : f_X6_fail e 5 = some (upd e 5 (e 5 + 1), (-1000000000) - 5) := e6_fail 5 rfl (by decide)
theorem eg5 (e : Nat → Int32) : f_X7_finds e 5 = some (upd e 5 (e 5 + 1), (-1000000000) - 5) := e7_finds 5 rfl (by decide)
theorem rngD {α : Type} {x c : Int32} {a b : α} (n : Nat) (hc : c.toInt = (n : Int)) : (if x < 0 then a else (if x < c then b else a)) = if inb x n = true then b else a := by
  rw [← rngB n hc]
  simp only [Int32.lt_iff_toInt_lt, Int32.le_iff_toInt_le]
  by_cases h1 : x.toInt < (0 : Int32).toInt
  · rw [if_pos h1, if_pos h1]
  · rw [if_neg h1, if_neg h1]
    by_cases h2 : x.toInt < c.toInt
    · rw [if_pos h2, if_neg (by omega)]
    · rw [if_neg h2, if_pos (by omega)]
theorem e6_km (x : Int32) : f_X6_isKindAndMark x = some (if inb x 70 = true then 1 else 0) := by
  unfold f_X6_isKindAndMark
  rw [rngB 70 (by decide)]
  split <;> rfl
theorem e6_set (x : Int32) : f_X6_isSetOfPeople x = some (if inb x 256 = true then 1 else 0) := by
  unfold f_X6_isSetOfPeople
  rw [rngB 256 (by decide)]
  split <;> rfl
theorem e6_sheet (x : Int32) : f_X6_isSheet x = some (if inb x 4 = true then 1 else 0) := by
  unfold f_X6_isSheet
  rw [rngB 4 (by decide)]
  split <;> rfl
theorem e7_sheet (x : Int32) : f_X7_isSheet x = some (if inb x 4 = true then 1 else 0) := by
  unfold f_X7_isSheet
  rw [e7_inb 4 (by decide)]
  simp only [bd1, Option.bind_some, bz01]
theorem e0_has {size p : Int32} {n : Nat} (hs : size = nI n) (hn : n < 1000) : f_X0_has size p = some (if inb p n = true then 1 else 0) := by
  unfold f_X0_has
  rw [rngB n (by rw [hs]; exact nI_toInt (by omega))]
  split <;> rfl
theorem e5_has {size p : Int32} {n : Nat} (hs : size = nI n) (hn : n < 1000) : f_X5_hasMotion size p = some (if inb p n = true then 1 else 0) := by
  unfold f_X5_hasMotion
  rw [rngB n (by rw [hs]; exact nI_toInt (by omega))]
  split <;> rfl
theorem pred_toInt {n : Nat} (hn : n < 1000) : ((nI n - 1).toInt64).toInt = (n : Int) - 1 := by
  rw [Int32.toInt_toInt64]
  have : ∀ n, n < 1000 → (nI n - 1).toInt = (n : Int) - 1 := by
    intro n hn
    rw [show (1 : Int32) = nI 1 from rfl, pk_sub_toInt (by omega) (by omega)]
    rfl
  exact this n hn
theorem e7_isPerson {d : Nat → Int32} {p : Int32} {n : Nat} (h : d 0 = nI n) (hn : n < 1000) : f_X7_isPerson d p = some (if inb p n = true then 1 else 0) := by
  unfold f_X7_isPerson
  rw [rdA_i (i := 0) (k := 0) rfl (by decide), h, e7_inb n (pred_toInt hn)]
  simp only [bd1, Option.bind_some, bz01]
theorem e7_isMotion {d : Nat → Int32} {p : Int32} {n : Nat} (h : d 1 = nI n) (hn : n < 1000) : f_X7_isMotion d p = some (if inb p n = true then 1 else 0) := by
  unfold f_X7_isMotion
  rw [rdA_i (i := 1) (k := 1) rfl (by decide), h, e7_inb n (pred_toInt hn)]
  simp only [bd1, Option.bind_some, bz01]
theorem ix7 {p w : Nat} {w' : Int32} (hw : w' = nI w) : ((10 : Int32) + (6 * nI p)) + w' = nI (10 + w + 6 * p) := by
  rw [hw, show (10 : Int32) = nI 10 from rfl, show (6 : Int32) = nI 6 from rfl, pk_mul, nI_add, nI_add]
  congr 1; omega
theorem ix7m {p w : Nat} {w' : Int32} (hw : w' = nI w) : ((58 : Int32) + (3 * nI p)) + w' = nI (58 + w + 3 * p) := by
  rw [hw, show (58 : Int32) = nI 58 from rfl, show (3 : Int32) = nI 3 from rfl, pk_mul, nI_add, nI_add]
  congr 1; omega
theorem e7_of {d : Nat → Int32} {p : Nat} {w' : Int32} (w : Nat) (hw : w' = nI w) (hp : p < 8) (h6 : w < 6) : f_X7_of d (nI p) w' = some (d (10 + w + 6 * p)) := by
  unfold f_X7_of
  rw [rdA_i (ix7 hw) (by omega)]
theorem e7_sets {d : Nat → Int32} {p : Nat} {w' v : Int32} (w : Nat) (hw : w' = nI w) (hp : p < 8) (h6 : w < 6) : f_X7_sets d (nI p) w' v = some (upd d (10 + w + 6 * p) v) := by
  unfold f_X7_sets
  rw [wrA_i (ix7 hw) (by omega)]
theorem e7_its {d : Nat → Int32} {p : Nat} {w' : Int32} (w : Nat) (hw : w' = nI w) (hp : p < 6) (h3 : w < 3) : f_X7_its d (nI p) w' = some (d (58 + w + 3 * p)) := by
  unfold f_X7_its
  rw [rdA_i (ix7m hw) (by omega)]
theorem eo0 {d : Nat → Int32} {p : Nat} (hp : p < 8) : f_X7_of d (nI p) 0 = some (d (10 + 6 * p)) := e7_of 0 rfl hp (by decide)
theorem es0 {d : Nat → Int32} {p : Nat} {v : Int32} (hp : p < 8) : f_X7_sets d (nI p) 0 v = some (upd d (10 + 6 * p) v) := e7_sets 0 rfl hp (by decide)
theorem eo1 {d : Nat → Int32} {p : Nat} (hp : p < 8) : f_X7_of d (nI p) 1 = some (d (11 + 6 * p)) := e7_of 1 rfl hp (by decide)
theorem es1 {d : Nat → Int32} {p : Nat} {v : Int32} (hp : p < 8) : f_X7_sets d (nI p) 1 v = some (upd d (11 + 6 * p) v) := e7_sets 1 rfl hp (by decide)
theorem eo2 {d : Nat → Int32} {p : Nat} (hp : p < 8) : f_X7_of d (nI p) 2 = some (d (12 + 6 * p)) := e7_of 2 rfl hp (by decide)
theorem es2 {d : Nat → Int32} {p : Nat} {v : Int32} (hp : p < 8) : f_X7_sets d (nI p) 2 v = some (upd d (12 + 6 * p) v) := e7_sets 2 rfl hp (by decide)
theorem eo3 {d : Nat → Int32} {p : Nat} (hp : p < 8) : f_X7_of d (nI p) 3 = some (d (13 + 6 * p)) := e7_of 3 rfl hp (by decide)
theorem es3 {d : Nat → Int32} {p : Nat} {v : Int32} (hp : p < 8) : f_X7_sets d (nI p) 3 v = some (upd d (13 + 6 * p) v) := e7_sets 3 rfl hp (by decide)
theorem eo4 {d : Nat → Int32} {p : Nat} (hp : p < 8) : f_X7_of d (nI p) 4 = some (d (14 + 6 * p)) := e7_of 4 rfl hp (by decide)
theorem es4 {d : Nat → Int32} {p : Nat} {v : Int32} (hp : p < 8) : f_X7_sets d (nI p) 4 v = some (upd d (14 + 6 * p) v) := e7_sets 4 rfl hp (by decide)
theorem eo5 {d : Nat → Int32} {p : Nat} (hp : p < 8) : f_X7_of d (nI p) 5 = some (d (15 + 6 * p)) := e7_of 5 rfl hp (by decide)
theorem es5 {d : Nat → Int32} {p : Nat} {v : Int32} (hp : p < 8) : f_X7_sets d (nI p) 5 v = some (upd d (15 + 6 * p) v) := e7_sets 5 rfl hp (by decide)
theorem ei0 {d : Nat → Int32} {p : Nat} (hp : p < 6) : f_X7_its d (nI p) 0 = some (d (58 + 3 * p)) := e7_its 0 rfl hp (by decide)
theorem em0x {p : Nat} : ((58 : Int32) + (3 * nI p)) + 0 = nI (58 + 3 * p) := ix7m (w := 0) rfl
theorem ei1 {d : Nat → Int32} {p : Nat} (hp : p < 6) : f_X7_its d (nI p) 1 = some (d (59 + 3 * p)) := e7_its 1 rfl hp (by decide)
theorem em1x {p : Nat} : ((58 : Int32) + (3 * nI p)) + 1 = nI (59 + 3 * p) := ix7m (w := 1) rfl
theorem ei2 {d : Nat → Int32} {p : Nat} (hp : p < 6) : f_X7_its d (nI p) 2 = some (d (60 + 3 * p)) := e7_its 2 rfl hp (by decide)
theorem em2x {p : Nat} : ((58 : Int32) + (3 * nI p)) + 2 = nI (60 + 3 * p) := ix7m (w := 2) rfl
/-! frames: what a part of the relation hangs on -/
theorem PplR.frame {size : Int32} {kind mark horn brass open_ health d d' : Nat → Int32} (h : PplR size kind mark horn brass open_ health d) (e : ∀ i, i = 0 ∨ (10 ≤ i ∧ i < 58) → d' i = d i) : PplR size kind mark horn brass open_ health d' := by
  obtain ⟨h1, h2, h3⟩ := h
  refine ⟨h1, by rw [e 0 (Or.inl rfl)]; exact h2, fun p hp => ?_⟩
  obtain ⟨a, b1, b2, b3, b4, b5, b6⟩ := h3 p hp
  exact ⟨a, by rw [e _ (by omega)]; exact b1, by rw [e _ (by omega)]; exact b2, by rw [e _ (by omega)]; exact b3, by rw [e _ (by omega)]; exact b4, by rw [e _ (by omega)]; exact b5, by rw [e _ (by omega)]; exact b6⟩
theorem MotR.frame {motions : Int32} {quorum favour : Nat → Int32} {laws : Int32} {d d' : Nat → Int32} (h : MotR motions quorum favour laws d) (e : ∀ i, i = 1 ∨ (58 ≤ i ∧ i < 76) → d' i = d i) : MotR motions quorum favour laws d' := by
  obtain ⟨h1, ⟨n, w, a1, a2, a3, a4, a5⟩, h3⟩ := h
  refine ⟨by rw [e 1 (Or.inl rfl)]; exact h1, ⟨n, w, a1, a2, a3, a4, fun i hi => by rw [e _ (by omega)]; exact a5 i hi⟩, fun i hi => ?_⟩
  obtain ⟨b1, b2, b3, b4⟩ := h3 i hi
  exact ⟨b1, b2, by rw [e _ (by omega)]; exact b3, by rw [e _ (by omega)]; exact b4⟩
theorem ScR.frame {urnHorn urnBrass thread winter day z : Int32} {d d' : Nat → Int32} (h : ScR urnHorn urnBrass thread winter day z d) (e : ∀ i, 2 ≤ i ∧ i < 8 → d' i = d i) : ScR urnHorn urnBrass thread winter day z d' := by
  unfold ScR at *
  rw [e 2 (by omega), e 3 (by omega), e 4 (by omega), e 5 (by omega), e 6 (by omega), e 7 (by omega)]
  exact h
theorem TapeR.frame {tape : Nat → Int32} {taped : Int32} {d d' : Nat → Int32} (h : TapeR tape taped d) (e : ∀ i, i = 8 ∨ (198 ≤ i ∧ i < 248) → d' i = d i) : TapeR tape taped d' := by
  obtain ⟨h1, h2, h3⟩ := h
  exact ⟨by rw [e 8 (Or.inl rfl)]; exact h1, h2, fun i hi => by rw [e _ (by omega)]; exact h3 i hi⟩
theorem WaitR.frame {waiting : Nat → Int32} {waits : Int32} {d d' : Nat → Int32} (h : WaitR waiting waits d) (e : ∀ i, i = 9 ∨ (78 ≤ i ∧ i < 98) → d' i = d i) : WaitR waiting waits d' := by
  obtain ⟨h1, h2, h3⟩ := h
  exact ⟨by rw [e 9 (Or.inl rfl)]; exact h1, h2, fun i hi => by rw [e _ (by omega)]; exact h3 i hi⟩
theorem TextR.frame {codes : Nat → Int32} {size ds ds' : Int32} {dc dc' : Nat → Int32} (h : TextR codes size ds dc) (e1 : ds' = ds) (e : ∀ k, k < 50 → dc' k = dc k) : TextR codes size ds' dc' := by
  obtain ⟨n, h1, h2, h3, h4, h5⟩ := h
  exact ⟨n, h1, h2, by rw [e1]; exact h3, fun k hk => by rw [e k (by omega)]; exact h4 k hk, h5⟩
