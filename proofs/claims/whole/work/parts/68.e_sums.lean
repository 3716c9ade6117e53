/-! sums over people, for class and reference -/
def FW (kind mark horn brass open_ health : Nat → Int32) : Prop := ∀ p, p < 8 → rg 6 (kind p) ∧ rg 9 (mark p) ∧ rg 9 (horn p) ∧ rg 9 (brass p) ∧ rg 99 (open_ p) ∧ rg 99 (health p)
def FD (kind mark horn brass open_ health d : Nat → Int32) : Prop := ∀ p, p < 8 → d (10 + 6 * p) = kind p ∧ d (11 + 6 * p) = mark p ∧ d (12 + 6 * p) = horn p ∧ d (13 + 6 * p) = brass p ∧ d (14 + 6 * p) = open_ p ∧ d (15 + 6 * p) = health p
theorem PplR_FW {size : Int32} {kind mark horn brass open_ health d : Nat → Int32} (h : PplR size kind mark horn brass open_ health d) : FW kind mark horn brass open_ health := fun p hp => (h.2.2 p hp).1
theorem PplR_FD {size : Int32} {kind mark horn brass open_ health d : Nat → Int32} (h : PplR size kind mark horn brass open_ health d) : FD kind mark horn brass open_ health d := fun p hp => (h.2.2 p hp).2
def btI (s i : Int32) : Int32 := (s >>> (i &&& 31)) &&& 1
theorem bt01 (s i : Int32) : btI s i = 0 ∨ btI s i = 1 := by
  unfold btI
  obtain ⟨j, hj, h⟩ := pk_andE (s >>> (i &&& 31)) (m := 1) 1 (by decide)
  rw [h]
  rcases (show j = 0 ∨ j = 1 by omega) with rfl | rfl
  · exact Or.inl rfl
  · exact Or.inr rfl
theorem btn {s i : Nat} (hs : s ≤ 255) (hi : i < 8) : btI (nI s ^^^ -1) (nI i) = 0 ↔ btI (nI s) (nI i) = 1 := by
  revert i
  revert s
  decide +kernel
theorem bt255 {i : Nat} (hi : i < 8) : btI 255 (nI i) = 1 := by
  revert i
  decide +kernel
theorem e6_isIn (s i : Int32) : f_X6_isIn s i = some (if btI s i = 0 then 0 else 1) := by
  unfold f_X6_isIn btI
  split <;> rfl
def smI (g : Nat → Int32) : Nat → Int32
  | 0 => 0
  | n + 1 => smI g n + g n
theorem sm_s {g : Nat → Int32} {k : Nat} {v : Int32} (h : g k = v) : smI g k + v = smI g (k + 1) := by rw [← h]; rfl
theorem sm_z {g : Nat → Int32} {k : Nat} (h : g k = 0) : smI g (k + 1) = smI g k := by
  show smI g k + g k = smI g k
  rw [h, Int32.add_zero]
theorem sm_congr {g g' : Nat → Int32} : ∀ {n : Nat}, (∀ p, p < n → g p = g' p) → smI g n = smI g' n
  | 0, _ => rfl
  | n + 1, h => by
    show smI g n + g n = smI g' n + g' n
    rw [sm_congr (fun p hp => h p (by omega)), h n (by omega)]
def wi (kind health : Nat → Int32) (p : Nat) : Int32 := wlI (kind p) (health p)
def cH (kind horn brass health : Nat → Int32) (p : Nat) : Int32 := cHI (kind p) (horn p) (brass p) (wlI (kind p) (health p))
def cB (kind horn brass health : Nat → Int32) (p : Nat) : Int32 := cBI (kind p) (horn p) (brass p) (wlI (kind p) (health p))
def cT (kind mark horn brass health : Nat → Int32) (p : Nat) : Int32 := ctI (kind p) (mark p) (horn p) (brass p) (health p) (wlI (kind p) (health p))
def selI (s : Int32) (g : Nat → Int32) (p : Nat) : Int32 := if btI s (nI p) = 0 then 0 else g p
theorem e0_countsOf_L {kind mark horn brass open_ health : Nat → Int32} {n : Nat} {s : Int32} (H : FW kind mark horn brass open_ health) (hn : n ≤ 8) : ∀ (m k fu : Nat), k + m = n → m < fu → f_X0_countsOf_L4 (nI n) kind mark horn brass health s fu (smI (selI s (cT kind mark horn brass health)) k) (nI k) = some (smI (selI s (cT kind mark horn brass health)) n) := by
  intro m
  induction m with
  | zero =>
    intro k fu hk hf
    obtain ⟨fu, rfl⟩ : ∃ q, fu = q + 1 := ⟨fu - 1, by omega⟩
    obtain rfl : k = n := by omega
    simp only [f_X0_countsOf_L4]
    rw [if_pos (nI_le (Nat.le_refl _) (by omega))]
  | succ m ih =>
    intro k fu hk hf
    obtain ⟨fu, rfl⟩ : ∃ q, fu = q + 1 := ⟨fu - 1, by omega⟩
    obtain ⟨a1, a2, a3, a4, a5, a6⟩ := H k (by omega)
    simp only [f_X0_countsOf_L4]
    rw [if_neg (nI_ge (by omega) (by omega)), e6_isIn, e0_counts (by omega) a1 a3 a4 a6]
    simp only [bdE1, jnE, nmE, nI_1]
    have := ih (k + 1) fu (by omega) (by omega)
    by_cases z : btI s (nI k) = 0
    · rw [if_pos z, if_pos rfl]
      rw [sm_z (if_pos z)] at this
      exact this
    · rw [if_neg z, if_neg (by decide)]
      rw [← sm_s (if_neg z)] at this
      exact this
theorem e0_countsOf {kind mark horn brass open_ health : Nat → Int32} {n : Nat} (s : Int32) (H : FW kind mark horn brass open_ health) (hn : n ≤ 8) : f_X0_countsOf (nI n) kind mark horn brass health s = some (smI (selI s (cT kind mark horn brass health)) n) := e0_countsOf_L H hn n 0 300 (by omega) (by omega)
theorem e0_hornOf_L {kind mark horn brass open_ health : Nat → Int32} {n : Nat} {s : Int32} (H : FW kind mark horn brass open_ health) (hn : n ≤ 8) : ∀ (m k fu : Nat), k + m = n → m < fu → f_X0_hornOf_L4 (nI n) kind horn brass health s fu (smI (selI s (cH kind horn brass health)) k) (nI k) = some (smI (selI s (cH kind horn brass health)) n) := by
  intro m
  induction m with
  | zero =>
    intro k fu hk hf
    obtain ⟨fu, rfl⟩ : ∃ q, fu = q + 1 := ⟨fu - 1, by omega⟩
    obtain rfl : k = n := by omega
    simp only [f_X0_hornOf_L4]
    rw [if_pos (nI_le (Nat.le_refl _) (by omega))]
  | succ m ih =>
    intro k fu hk hf
    obtain ⟨fu, rfl⟩ : ∃ q, fu = q + 1 := ⟨fu - 1, by omega⟩
    obtain ⟨a1, a2, a3, a4, a5, a6⟩ := H k (by omega)
    simp only [f_X0_hornOf_L4]
    rw [if_neg (nI_ge (by omega) (by omega)), e6_isIn, e0_cutH (by omega) a1 a3 a4 a6]
    simp only [bdE1, jnE, nmE, nI_1]
    have := ih (k + 1) fu (by omega) (by omega)
    by_cases z : btI s (nI k) = 0
    · rw [if_pos z, if_pos rfl]
      rw [sm_z (if_pos z)] at this
      exact this
    · rw [if_neg z, if_neg (by decide)]
      rw [← sm_s (if_neg z)] at this
      exact this
theorem e0_hornOf {kind mark horn brass open_ health : Nat → Int32} {n : Nat} (s : Int32) (H : FW kind mark horn brass open_ health) (hn : n ≤ 8) : f_X0_hornOf (nI n) kind horn brass health s = some (smI (selI s (cH kind horn brass health)) n) := e0_hornOf_L H hn n 0 300 (by omega) (by omega)
theorem e0_brassOf_L {kind mark horn brass open_ health : Nat → Int32} {n : Nat} {s : Int32} (H : FW kind mark horn brass open_ health) (hn : n ≤ 8) : ∀ (m k fu : Nat), k + m = n → m < fu → f_X0_brassOf_L4 (nI n) kind horn brass health s fu (smI (selI s (cB kind horn brass health)) k) (nI k) = some (smI (selI s (cB kind horn brass health)) n) := by
  intro m
  induction m with
  | zero =>
    intro k fu hk hf
    obtain ⟨fu, rfl⟩ : ∃ q, fu = q + 1 := ⟨fu - 1, by omega⟩
    obtain rfl : k = n := by omega
    simp only [f_X0_brassOf_L4]
    rw [if_pos (nI_le (Nat.le_refl _) (by omega))]
  | succ m ih =>
    intro k fu hk hf
    obtain ⟨fu, rfl⟩ : ∃ q, fu = q + 1 := ⟨fu - 1, by omega⟩
    obtain ⟨a1, a2, a3, a4, a5, a6⟩ := H k (by omega)
    simp only [f_X0_brassOf_L4]
    rw [if_neg (nI_ge (by omega) (by omega)), e6_isIn, e0_cutB (by omega) a1 a3 a4 a6]
    simp only [bdE1, jnE, nmE, nI_1]
    have := ih (k + 1) fu (by omega) (by omega)
    by_cases z : btI s (nI k) = 0
    · rw [if_pos z, if_pos rfl]
      rw [sm_z (if_pos z)] at this
      exact this
    · rw [if_neg z, if_neg (by decide)]
      rw [← sm_s (if_neg z)] at this
      exact this
theorem e0_brassOf {kind mark horn brass open_ health : Nat → Int32} {n : Nat} (s : Int32) (H : FW kind mark horn brass open_ health) (hn : n ≤ 8) : f_X0_brassOf (nI n) kind horn brass health s = some (smI (selI s (cB kind horn brass health)) n) := e0_brassOf_L H hn n 0 300 (by omega) (by omega)
theorem e7_countsFor_L {kind mark horn brass open_ health d : Nat → Int32} {n mm v : Nat} (H : FW kind mark horn brass open_ health) (D : FD kind mark horn brass open_ health d) (h0 : d 0 = nI n) (hn : n ≤ 8) (hm : mm < 6) : ∀ (m k fu : Nat) (a b : Int32), k + m = n → m < fu → ∃ a' b', f_X7_countsFor_L5 d (nI mm) (nI v) fu a b (smI (fun p => if btI (d (59 + 3 * mm)) (nI p) = nI v then cT kind mark horn brass health p else 0) k) (nI k) = some (a', b', smI (fun p => if btI (d (59 + 3 * mm)) (nI p) = nI v then cT kind mark horn brass health p else 0) n) := by
  intro m
  induction m with
  | zero =>
    intro k fu a b hk hf
    obtain ⟨fu, rfl⟩ : ∃ q, fu = q + 1 := ⟨fu - 1, by omega⟩
    obtain rfl : k = n := by omega
    simp only [f_X7_countsFor_L5]
    rw [rdA_i (i := 0) (k := 0) rfl (by decide), h0, if_pos (nI_le (Nat.le_refl _) (by omega))]
    exact ⟨_, _, rfl⟩
  | succ m ih =>
    intro k fu a b hk hf
    obtain ⟨fu, rfl⟩ : ∃ q, fu = q + 1 := ⟨fu - 1, by omega⟩
    obtain ⟨a1, a2, a3, a4, a5, a6⟩ := H k (by omega)
    obtain ⟨d1, d2, d3, d4, d5, d6⟩ := D k (by omega)
    simp only [f_X7_countsFor_L5]
    rw [rdA_i (i := 0) (k := 0) rfl (by decide), h0, if_neg (nI_ge (by omega) (by omega)), ei1 hm]
    simp only [bdE1, jnE, nmE, nI_1]
    by_cases z : btI (d (59 + 3 * mm)) (nI k) = nI v
    · rw [if_pos (show (d (59 + 3 * mm) >>> (nI k &&& 31)) &&& 1 = nI v from z)]
      obtain ⟨a', b', h⟩ := e7_counts (d := d) (a := a) (b := b) (p := k) (by omega) (by rw [d1]; exact a1) (by rw [d3]; exact a3) (by rw [d4]; exact a4) (by rw [d6]; exact a6)
      rw [h, bdE3]
      rw [d1, d2, d3, d4, d6]
      obtain ⟨a2, b2, this⟩ := ih (k + 1) fu a' b' (by omega) (by omega)
      refine ⟨a2, b2, ?_⟩
      rw [← sm_s (if_pos z)] at this
      exact this
    · rw [if_neg (show ¬ (d (59 + 3 * mm) >>> (nI k &&& 31)) &&& 1 = nI v from z)]
      obtain ⟨a2, b2, this⟩ := ih (k + 1) fu a b (by omega) (by omega)
      refine ⟨a2, b2, ?_⟩
      rw [← sm_s (if_neg z)] at this
      exact this
def csI (kind mark horn brass health : Nat → Int32) (s : Int32) (n : Nat) : Int32 := smI (selI s (cT kind mark horn brass health)) n
theorem e7_countsFor1 {kind mark horn brass open_ health d : Nat → Int32} {n mm s : Nat} (H : FW kind mark horn brass open_ health) (D : FD kind mark horn brass open_ health d) (h0 : d 0 = nI n) (hn : n ≤ 8) (hm : mm < 6) (hs : d (59 + 3 * mm) = nI s) (a b : Int32) : ∃ a' b', f_X7_countsFor d a b (nI mm) 1 = some (a', b', csI kind mark horn brass health (nI s) n) := by
  obtain ⟨a', b', h⟩ := e7_countsFor_L (v := 1) H D h0 hn hm n 0 300 a b (by omega) (by omega)
  refine ⟨a', b', ?_⟩
  have e : csI kind mark horn brass health (nI s) n = smI (fun p => if btI (d (59 + 3 * mm)) (nI p) = nI 1 then cT kind mark horn brass health p else 0) n := by
    refine sm_congr (fun p hp => ?_)
    unfold selI
    rw [hs]
    rcases bt01 (nI s) (nI p) with z | z
    · rw [if_pos z, if_neg (by rw [z]; decide)]
    · rw [if_neg (by rw [z]; decide), if_pos (by rw [z]; rfl)]
  rw [e]
  exact h
theorem e7_countsFor0 {kind mark horn brass open_ health d : Nat → Int32} {n mm s : Nat} (H : FW kind mark horn brass open_ health) (D : FD kind mark horn brass open_ health d) (h0 : d 0 = nI n) (hn : n ≤ 8) (hm : mm < 6) (hs : d (59 + 3 * mm) = nI s) (hs2 : s ≤ 255) (a b : Int32) : ∃ a' b', f_X7_countsFor d a b (nI mm) 0 = some (a', b', csI kind mark horn brass health (nI s ^^^ -1) n) := by
  obtain ⟨a', b', h⟩ := e7_countsFor_L (v := 0) H D h0 hn hm n 0 300 a b (by omega) (by omega)
  refine ⟨a', b', ?_⟩
  have e : csI kind mark horn brass health (nI s ^^^ -1) n = smI (fun p => if btI (d (59 + 3 * mm)) (nI p) = nI 0 then cT kind mark horn brass health p else 0) n := by
    refine sm_congr (fun p hp => ?_)
    unfold selI
    rw [hs]
    rcases bt01 (nI s) (nI p) with z | z
    · rw [if_neg (fun q => absurd ((btn hs2 (by omega)).mp q) (by rw [z]; decide)), if_pos (by rw [z]; rfl)]
    · rw [if_pos ((btn hs2 (by omega)).mpr z), if_neg (by rw [z]; decide)]
  rw [e]
  exact h
def wpI (kind mark horn brass health : Nat → Int32) (n : Nat) (s q : Int32) : Int32 := if csI kind mark horn brass health s n ≤ csI kind mark horn brass health (s ^^^ -1) n then 0 else if csI kind mark horn brass health s n + csI kind mark horn brass health (s ^^^ -1) n < q then 0 else 1
theorem wp01 {kind mark horn brass health : Nat → Int32} {n : Nat} {s q : Int32} : wpI kind mark horn brass health n s q = 0 ∨ wpI kind mark horn brass health n s q = 1 := by
  unfold wpI
  split
  · exact Or.inl rfl
  · split
    · exact Or.inl rfl
    · exact Or.inr rfl
theorem e0_wouldPass {kind mark horn brass open_ health : Nat → Int32} {n : Nat} {s q : Int32} (H : FW kind mark horn brass open_ health) (hn : n ≤ 8) : f_X0_wouldPass (nI n) kind mark horn brass health s q = some (wpI kind mark horn brass health n s q) := by
  unfold f_X0_wouldPass wpI csI
  rw [e0_countsOf s H hn, e0_countsOf (s ^^^ -1) H hn]
  simp only [bdE1]
  split
  · rfl
  · split <;> rfl
theorem e7_wouldPass {kind mark horn brass open_ health d : Nat → Int32} {n mm s : Nat} (H : FW kind mark horn brass open_ health) (D : FD kind mark horn brass open_ health d) (h0 : d 0 = nI n) (hn : n ≤ 8) (hm : mm < 6) (hs : d (59 + 3 * mm) = nI s) (hs2 : s ≤ 255) (a b : Int32) : ∃ a' b', f_X7_wouldPass d a b (nI mm) = some (a', b', wpI kind mark horn brass health n (nI s) (d (58 + 3 * mm))) := by
  unfold f_X7_wouldPass wpI
  obtain ⟨a1, b1, h1⟩ := e7_countsFor1 H D h0 hn hm hs a b
  obtain ⟨a2, b2, h2⟩ := e7_countsFor0 H D h0 hn hm hs hs2 a1 b1
  rw [h1, bdE3, h2, bdE3]
  split
  · exact ⟨_, _, rfl⟩
  · rw [ei0 hm, bdE1]
    split
    · exact ⟨_, _, rfl⟩
    · exact ⟨_, _, rfl⟩
/-! who lives, and bits -/
def pcN (w : Nat) : Nat := w % 2 + w / 2 % 2 + w / 4 % 2 + w / 8 % 2 + w / 16 % 2 + w / 32 % 2 + w / 64 % 2 + w / 128 % 2
theorem pc_bits {w : Nat} (h : w < 256) : f_J6_bitCount_0f7a4 (nI w) = some (nI (pcN w)) := by
  revert w
  decide +kernel
theorem pc_set {w k : Nat} (hk : k < 8) (h : w < 2 ^ k) : pcN (w + 2 ^ k) = pcN w + 1 ∧ nI w ||| (1 <<< (nI k &&& 31)) = nI (w + 2 ^ k) := by
  have : ∀ k, k < 8 → ∀ w, w < 128 → w < 2 ^ k → pcN (w + 2 ^ k) = pcN w + 1 ∧ nI w ||| (1 <<< (nI k &&& 31)) = nI (w + 2 ^ k) := by decide +kernel
  refine this k hk w ?_ h
  have : 2 ^ k ≤ 2 ^ 7 := Nat.pow_le_pow_right (by decide) (by omega)
  omega
/-- who lives of the first so many, as a number -/
def lvN (health : Nat → Int32) : Nat → Nat
  | 0 => 0
  | n + 1 => if health n = 0 then lvN health n else lvN health n + 2 ^ n
theorem lvn_lt {health : Nat → Int32} : ∀ n, lvN health n < 2 ^ n
  | 0 => Nat.one_pos
  | n + 1 => by
    have := lvn_lt (health := health) n
    simp only [lvN]
    have e : 2 ^ (n + 1) = 2 ^ n + 2 ^ n := by rw [Nat.pow_succ]; omega
    split <;> omega
theorem lv_congr {h h' : Nat → Int32} : ∀ {n : Nat}, (∀ p, p < n → h p = h' p) → lvN h n = lvN h' n
  | 0, _ => rfl
  | n + 1, e => by
    simp only [lvN]
    rw [e n (by omega), lv_congr (fun p hp => e p (by omega))]
theorem e0_living {health : Nat → Int32} {n : Nat} (H : ∀ p, p < 8 → rg 99 (health p)) (hn : n ≤ 8) : f_X0_living (nI n) health = some (nI (lvN health n)) := by
  have L : ∀ (m k fu : Nat), k + m = n → m < fu → f_X0_living_L4 (nI n) health fu (nI (lvN health k)) (nI k) = some (nI (lvN health n)) := by
    intro m
    induction m with
    | zero =>
      intro k fu hk hf
      obtain ⟨fu, rfl⟩ : ∃ q, fu = q + 1 := ⟨fu - 1, by omega⟩
      obtain rfl : k = n := by omega
      simp only [f_X0_living_L4]
      rw [if_pos (nI_le (Nat.le_refl _) (by omega))]
    | succ m ih =>
      intro k fu hk hf
      obtain ⟨fu, rfl⟩ : ∃ q, fu = q + 1 := ⟨fu - 1, by omega⟩
      simp only [f_X0_living_L4]
      rw [if_neg (nI_ge (by omega) (by omega)), rdA_i rfl (by omega)]
      simp only [jnE, nmE, nI_1]
      have := ih (k + 1) fu (by omega) (by omega)
      obtain ⟨x, hx, e⟩ := H k (by omega)
      simp only [lvN] at this
      rw [e] at this ⊢
      by_cases z : x = 0
      · subst z
        rw [if_pos (show nI 0 = (0 : Int32) from rfl)] at this
        rw [if_pos (show nI 0 ≤ (0 : Int32) by decide)]
        exact this
      · rw [if_neg (nI_ne0 (by omega) (by omega))] at this
        rw [if_neg (nI_nle (by omega) (by omega)), (pc_set (by omega) (lvn_lt k)).2]
        exact this
  exact L n 0 300 (by omega) (by omega)
theorem e7_aliveSet {d health : Nat → Int32} {n : Nat} (D : ∀ p, p < 8 → d (15 + 6 * p) = health p) (h0 : d 0 = nI n) (hn : n ≤ 8) : f_X7_aliveSet d = some (nI (lvN health n)) := by
  have L : ∀ (m k fu : Nat), k + m = n → m < fu → f_X7_aliveSet_L4 d fu (nI (lvN health k)) (nI k) = some (nI (lvN health n)) := by
    intro m
    induction m with
    | zero =>
      intro k fu hk hf
      obtain ⟨fu, rfl⟩ : ∃ q, fu = q + 1 := ⟨fu - 1, by omega⟩
      obtain rfl : k = n := by omega
      simp only [f_X7_aliveSet_L4]
      rw [rdA_i (i := 0) (k := 0) rfl (by decide), h0, if_pos (nI_le (Nat.le_refl _) (by omega))]
    | succ m ih =>
      intro k fu hk hf
      obtain ⟨fu, rfl⟩ : ∃ q, fu = q + 1 := ⟨fu - 1, by omega⟩
      simp only [f_X7_aliveSet_L4]
      rw [rdA_i (i := 0) (k := 0) rfl (by decide), h0, if_neg (nI_ge (by omega) (by omega)), e7_dead (by omega), D k (by omega)]
      simp only [bdE1, jnE, nmE, nI_1]
      have := ih (k + 1) fu (by omega) (by omega)
      simp only [lvN] at this
      by_cases z : health k = 0
      · rw [if_pos z] at this
        rw [if_pos z, if_neg (by decide), Int32.or_zero]
        exact this
      · rw [if_neg z] at this
        rw [if_neg z, if_pos rfl, (pc_set (by omega) (lvn_lt k)).2]
        exact this
  exact L n 0 300 (by omega) (by omega)
theorem e7_alive {d health : Nat → Int32} {n : Nat} (D : ∀ p, p < 8 → d (15 + 6 * p) = health p) (h0 : d 0 = nI n) (hn : n ≤ 8) : f_X7_alive d = some (nI (pcN (lvN health n))) := by
  have L : ∀ (m k fu : Nat), k + m = n → m < fu → f_X7_alive_L4 d fu (nI (pcN (lvN health k))) (nI k) = some (nI (pcN (lvN health n))) := by
    intro m
    induction m with
    | zero =>
      intro k fu hk hf
      obtain ⟨fu, rfl⟩ : ∃ q, fu = q + 1 := ⟨fu - 1, by omega⟩
      obtain rfl : k = n := by omega
      simp only [f_X7_alive_L4]
      rw [rdA_i (i := 0) (k := 0) rfl (by decide), h0, if_pos (nI_le (Nat.le_refl _) (by omega))]
    | succ m ih =>
      intro k fu hk hf
      obtain ⟨fu, rfl⟩ : ∃ q, fu = q + 1 := ⟨fu - 1, by omega⟩
      simp only [f_X7_alive_L4]
      rw [rdA_i (i := 0) (k := 0) rfl (by decide), h0, if_neg (nI_ge (by omega) (by omega)), e7_dead (by omega), D k (by omega)]
      simp only [bdE1, jnE, nmE, nI_1]
      have := ih (k + 1) fu (by omega) (by omega)
      simp only [lvN] at this
      by_cases z : health k = 0
      · rw [if_pos z] at this
        rw [if_pos z, if_neg (by decide), Int32.add_zero]
        exact this
      · rw [if_neg z, (pc_set (by omega) (lvn_lt k)).1] at this
        rw [if_neg z, if_pos rfl]
        exact this
  have R := L n 0 300 (by omega) (by omega)
  rw [show lvN health 0 = 0 from rfl, show nI (pcN 0) = 0 by decide] at R
  exact R
theorem pc_lv {health : Nat → Int32} {n : Nat} (hn : n ≤ 8) : f_J6_bitCount_0f7a4 (nI (lvN health n)) = some (nI (pcN (lvN health n))) := by
  refine pc_bits (Nat.lt_of_lt_of_le (lvn_lt n) ?_)
  exact Nat.le_trans (Nat.pow_le_pow_right (by decide) hn) (by decide)
theorem bits6 {n w : Nat} (hn : n ≤ 6) (hw : w < 2 ^ n) : smI (fun i => nI (w / 2 ^ i % 2)) n = nI (pcN w) := by
  have h : ∀ n, n ≤ 6 → ∀ w, w < 64 → w < 2 ^ n → smI (fun i => nI (w / 2 ^ i % 2)) n = nI (pcN w) := by decide +kernel
  refine h n hn w ?_ hw
  have : 2 ^ n ≤ 2 ^ 6 := Nat.pow_le_pow_right (by decide) hn
  omega
theorem w64 {n w : Nat} (hn : n ≤ 6) (hw : w < 2 ^ n) : w < 64 := by
  have : 2 ^ n ≤ 2 ^ 6 := Nat.pow_le_pow_right (by decide) hn
  omega
theorem e7_lawMany {d : Nat → Int32} {n w : Nat} (h1 : d 1 = nI n) (hn : n ≤ 6) (hw : w < 2 ^ n) (hl : ∀ i, i < 6 → d (60 + 3 * i) = nI (w / 2 ^ i % 2)) : f_X7_lawMany d = some (nI (pcN w)) := by
  rw [← bits6 hn hw]
  have L : ∀ (m k fu : Nat), k + m = n → m < fu → f_X7_lawMany_L4 d fu (smI (fun i => nI (w / 2 ^ i % 2)) k) (nI k) = some (smI (fun i => nI (w / 2 ^ i % 2)) n) := by
    intro m
    induction m with
    | zero =>
      intro k fu hk hf
      obtain ⟨fu, rfl⟩ : ∃ q, fu = q + 1 := ⟨fu - 1, by omega⟩
      obtain rfl : k = n := by omega
      simp only [f_X7_lawMany_L4]
      rw [rdA_i (i := 1) (k := 1) rfl (by decide), h1, if_pos (nI_le (Nat.le_refl _) (by omega))]
    | succ m ih =>
      intro k fu hk hf
      obtain ⟨fu, rfl⟩ : ∃ q, fu = q + 1 := ⟨fu - 1, by omega⟩
      simp only [f_X7_lawMany_L4]
      rw [rdA_i (i := 1) (k := 1) rfl (by decide), h1, if_neg (nI_ge (by omega) (by omega)), ei2 (by omega), hl k (by omega)]
      simp only [bdE1, jnE, nmE, nI_1]
      exact ih (k + 1) fu (by omega) (by omega)
  exact L n 0 300 (by omega) (by omega)
