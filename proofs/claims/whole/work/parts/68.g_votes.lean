/-! a vote, for class and reference -/
def ovF (g f : Nat → Int32) (n : Nat) : Nat → Int32 := fun p => if p < n then g p else f p
theorem ov_at {g f : Nat → Int32} {n p : Nat} (h : n ≤ p) : ovF g f n p = f p := by
  unfold ovF
  rw [if_neg (by omega)]
theorem ov_in {g f : Nat → Int32} {n p : Nat} (h : p < n) : ovF g f n p = g p := by
  unfold ovF
  rw [if_pos h]
theorem ov_s {g f : Nat → Int32} {n : Nat} : upd (ovF g f n) n (g n) = ovF g f (n + 1) := by
  funext p
  by_cases e : p = n
  · subst e
    rw [upd_s, ov_in (by omega)]
  · rw [upd_n e]
    by_cases g : p < n
    · rw [ov_in g, ov_in (by omega)]
    · rw [ov_at (by omega), ov_at (by omega)]
theorem ov_z {g f : Nat → Int32} : ovF g f 0 = f := by
  funext p
  exact ov_at (by omega)
def hoG (kind horn brass health : Nat → Int32) (p : Nat) : Int32 := horn p - cH kind horn brass health p
def brG (kind horn brass health : Nat → Int32) (p : Nat) : Int32 := brass p - cB kind horn brass health p
def opG (kind horn brass open_ health : Nat → Int32) (p : Nat) : Int32 := minI 99 (open_ p + cH kind horn brass health p + cB kind horn brass health p)
theorem mnN {a M : Nat} {m : Int32} (hm : m = nI M) (hM : M < 2 ^ 31) (ha : a < 2 ^ 31) : minI m (nI a) = nI (min M a) := by
  subst hm
  unfold minI
  by_cases h : a < M
  · rw [if_pos (nI_lt h hM), Nat.min_eq_right (by omega)]
  · rw [if_neg (nI_nlt (by omega) ha), Nat.min_eq_left (by omega)]
theorem e7_heldN {a M : Nat} {m : Int32} (hm : m = nI M) (hM : M < 2 ^ 31) (ha : a < 2 ^ 31) : f_X7_held (nI a) 0 m = some (nI (min M a)) := by
  subst hm
  unfold f_X7_held
  rw [if_pos (nI_pos' ha)]
  by_cases h : a ≤ M
  · rw [if_pos (nI_le h hM), Nat.min_eq_right h]
  · rw [if_neg (nI_ge (by omega) ha), Nat.min_eq_left (by omega)]
theorem cH_rg {kind mark horn brass open_ health : Nat → Int32} (H : FW kind mark horn brass open_ health) {p : Nat} (hp : p < 8) : rg 2 (cH kind horn brass health p) ∧ rg 2 (cB kind horn brass health p) ∧ rg 9 (hoG kind horn brass health p) ∧ rg 9 (brG kind horn brass health p) := by
  obtain ⟨a1, a2, a3, a4, a5, a6⟩ := H p hp
  exact cut_rg a1 a3 a4
theorem FW.cut {kind mark horn brass open_ health : Nat → Int32} (H : FW kind mark horn brass open_ health) {n : Nat} : FW kind mark (ovF (hoG kind horn brass health) horn n) (ovF (brG kind horn brass health) brass n) (ovF (opG kind horn brass open_ health) open_ n) health := by
  intro p hp
  obtain ⟨c1, c2, c3, c4⟩ := cH_rg H hp
  obtain ⟨a1, a2, a3, a4, a5, a6⟩ := H p hp
  by_cases g : p < n
  · rw [ov_in g, ov_in g, ov_in g]
    refine ⟨a1, a2, c3, c4, ?_, a6⟩
    unfold opG
    obtain ⟨x, hx, e⟩ := a5
    obtain ⟨y, hy, e2⟩ := c1
    obtain ⟨z, hz, e3⟩ := c2
    rw [e, e2, e3, nI_add, nI_add, mnN (m := 99) (M := 99) rfl (by decide) (by omega)]
    exact ⟨_, Nat.min_le_left _ _, rfl⟩
  · rw [ov_at (by omega), ov_at (by omega), ov_at (by omega)]
    exact ⟨a1, a2, a3, a4, a5, a6⟩
theorem e0_cutAll {kind mark horn brass open_ health : Nat → Int32} {n : Nat} (H : FW kind mark horn brass open_ health) (hn : n ≤ 8) : f_X0_cutAll (nI n) kind horn brass open_ health = some (ovF (hoG kind horn brass health) horn n, ovF (brG kind horn brass health) brass n, ovF (opG kind horn brass open_ health) open_ n) := by
  have L : ∀ (m k fu : Nat), k + m = n → m < fu → f_X0_cutAll_L2 (nI n) kind health fu (ovF (hoG kind horn brass health) horn k) (ovF (brG kind horn brass health) brass k) (ovF (opG kind horn brass open_ health) open_ k) (nI k) = some (ovF (hoG kind horn brass health) horn n, ovF (brG kind horn brass health) brass n, ovF (opG kind horn brass open_ health) open_ n) := by
    intro m
    induction m with
    | zero =>
      intro k fu hk hf
      obtain ⟨fu, rfl⟩ : ∃ q, fu = q + 1 := ⟨fu - 1, by omega⟩
      obtain rfl : k = n := by omega
      simp only [f_X0_cutAll_L2]
      rw [if_pos (nI_le (Nat.le_refl _) (by omega))]
    | succ m ih =>
      intro k fu hk hf
      obtain ⟨fu, rfl⟩ : ∃ q, fu = q + 1 := ⟨fu - 1, by omega⟩
      obtain ⟨a1, a2, a3, a4, a5, a6⟩ := H k (by omega)
      have q1 : ovF (hoG kind horn brass health) horn k k = horn k := ov_at (Nat.le_refl _)
      have q2 : ovF (brG kind horn brass health) brass k k = brass k := ov_at (Nat.le_refl _)
      have q3 : ovF (opG kind horn brass open_ health) open_ k k = open_ k := ov_at (Nat.le_refl _)
      simp only [f_X0_cutAll_L2]
      rw [if_neg (nI_ge (by omega) (by omega)), e0_cutH (by omega) a1 (by rw [q1]; exact a3) (by rw [q2]; exact a4) a6, e0_cutB (by omega) a1 (by rw [q1]; exact a3) (by rw [q2]; exact a4) a6, bdE1, bdE1]
      rw [rdA_i rfl (by omega), wrA_i rfl (by omega), rdA_i rfl (by omega), wrA_i rfl (by omega), rdA_i rfl (by omega), wrA_i rfl (by omega)]
      simp only [nmE, nI_1]
      rw [q1, q2, q3]
      have s1 : upd (ovF (hoG kind horn brass health) horn k) k (horn k - cHI (kind k) (horn k) (brass k) (wlI (kind k) (health k))) = ovF (hoG kind horn brass health) horn (k + 1) := ov_s
      have s2 : upd (ovF (brG kind horn brass health) brass k) k (brass k - cBI (kind k) (horn k) (brass k) (wlI (kind k) (health k))) = ovF (brG kind horn brass health) brass (k + 1) := ov_s
      have s3 : upd (ovF (opG kind horn brass open_ health) open_ k) k (minI 99 (open_ k + cHI (kind k) (horn k) (brass k) (wlI (kind k) (health k)) + cBI (kind k) (horn k) (brass k) (wlI (kind k) (health k)))) = ovF (opG kind horn brass open_ health) open_ (k + 1) := ov_s
      rw [s1, s2, s3]
      exact ih (k + 1) fu (by omega) (by omega)
  have R := L n 0 300 (by omega) (by omega)
  rw [ov_z, ov_z, ov_z] at R
  exact R
theorem sm_rg {g : Nat → Int32} : ∀ {n : Nat}, n ≤ 8 → (∀ p, p < n → rg 2 (g p)) → rg (2 * n) (smI g n)
  | 0, _, _ => ⟨0, by decide, rfl⟩
  | n + 1, hn, h => by
    obtain ⟨x, hx, e⟩ := sm_rg (n := n) (by omega) (fun p hp => h p (by omega))
    obtain ⟨y, hy, e2⟩ := h n (by omega)
    refine ⟨x + y, by omega, ?_⟩
    show smI g n + g n = _
    rw [e, e2, nI_add]
theorem sel255 {g : Nat → Int32} {n : Nat} (hn : n ≤ 8) : smI (selI 255 g) n = smI g n := by
  refine sm_congr (fun p hp => ?_)
  unfold selI
  rw [bt255 (by omega), if_neg (by decide)]
/-- what the urn holds behind so many -/
def urI (u : Int32) (g : Nat → Int32) (n : Nat) : Int32 := minI 999 (u + smI g n)
theorem ur_z {u : Int32} {g : Nat → Int32} (h : rg 999 u) : urI u g 0 = u := by
  unfold urI
  show minI 999 (u + 0) = u
  obtain ⟨x, hx, rfl⟩ := h
  rw [Int32.add_zero, mnN (m := 999) (M := 999) rfl (by decide) (by omega), Nat.min_eq_right hx]
theorem ur_rg {u : Int32} {g : Nat → Int32} {n : Nat} (h : rg 999 u) (hn : n ≤ 8) (hg : ∀ p, p < n → rg 2 (g p)) : rg 999 (urI u g n) := by
  obtain ⟨x, hx, rfl⟩ := h
  obtain ⟨y, hy, e⟩ := sm_rg hn hg
  unfold urI
  rw [e, nI_add, mnN (m := 999) (M := 999) rfl (by decide) (by omega)]
  exact ⟨_, Nat.min_le_left _ _, rfl⟩
theorem ur_s {u : Int32} {g : Nat → Int32} {n : Nat} (h : rg 999 u) (hn : n < 8) (hg : ∀ p, p < n + 1 → rg 2 (g p)) : f_X7_held (urI u g n + g n) 0 999 = some (urI u g (n + 1)) := by
  obtain ⟨x, hx, rfl⟩ := h
  obtain ⟨y, hy, e⟩ := sm_rg (n := n) (by omega) (fun p hp => hg p (by omega))
  obtain ⟨z, hz, e2⟩ := hg n (by omega)
  unfold urI
  have e3 : smI g (n + 1) = nI (y + z) := by
    show smI g n + g n = _
    rw [e, e2, nI_add]
  rw [e3, e, e2, nI_add, nI_add, mnN (m := 999) (M := 999) rfl (by decide) (by omega), mnN (m := 999) (M := 999) rfl (by decide) (by omega), nI_add, e7_heldN (m := 999) (M := 999) rfl (by decide) (by omega)]
  congr 2
  omega
/-- places of buttons and of what is open in the reference's row, and the urn's -/
def VP (i : Nat) : Prop := i = 2 ∨ i = 3 ∨ (10 ≤ i ∧ i < 58 ∧ i % 6 < 3 ∧ i % 6 ≠ 3)
theorem FD.setV {kind mark horn brass open_ health d : Nat → Int32} (D : FD kind mark horn brass open_ health d) {k : Nat} {a b c e f : Int32} (hk : k < 8) : FD kind mark (upd horn k a) (upd brass k b) (upd open_ k c) health (upd (upd (upd (upd (upd d (12 + 6 * k) a) (13 + 6 * k) b) (14 + 6 * k) c) 2 e) 3 f) := by
  intro p hp
  obtain ⟨d1, d2, d3, d4, d5, d6⟩ := D p hp
  refine ⟨?_, ?_, ?_, ?_, ?_, ?_⟩
  · rw [upd_n (by omega), upd_n (by omega), upd_n (by omega), upd_n (by omega), upd_n (by omega)]; exact d1
  · rw [upd_n (by omega), upd_n (by omega), upd_n (by omega), upd_n (by omega), upd_n (by omega)]; exact d2
  · rw [upd_n (by omega), upd_n (by omega), upd_n (by omega), upd_n (by omega)]
    by_cases e : p = k
    · subst e
      rw [upd_s, upd_s]
    · rw [upd_n (by omega), upd_n e]; exact d3
  · rw [upd_n (by omega), upd_n (by omega), upd_n (by omega)]
    by_cases e : p = k
    · subst e
      rw [upd_s, upd_s]
    · rw [upd_n (by omega), upd_n (by omega), upd_n e]; exact d4
  · rw [upd_n (by omega), upd_n (by omega)]
    by_cases e : p = k
    · subst e
      rw [upd_s, upd_s]
    · rw [upd_n (by omega), upd_n (by omega), upd_n (by omega), upd_n e]; exact d5
  · rw [upd_n (by omega), upd_n (by omega), upd_n (by omega), upd_n (by omega), upd_n (by omega)]; exact d6
theorem e7_votes_L {kind mark horn brass open_ health d : Nat → Int32} {n : Nat} {uh ub : Int32} (H : FW kind mark horn brass open_ health) (hn : n ≤ 8) (h0 : d 0 = nI n) (hu : rg 999 uh) (hb : rg 999 ub) (J : (Nat → Int32) → Int32 → Int32 → Option ((Nat → Int32) × Int32 × Int32 × Int32)) : ∀ (m k fu : Nat) (dk : Nat → Int32) (a b : Int32), k + m = n → m < fu → FD kind mark (ovF (hoG kind horn brass health) horn k) (ovF (brG kind horn brass health) brass k) (ovF (opG kind horn brass open_ health) open_ k) health dk → dk 2 = urI uh (cH kind horn brass health) k → dk 3 = urI ub (cB kind horn brass health) k → (∀ i, i ≠ 2 → i ≠ 3 → ¬ (10 ≤ i ∧ i < 58) → dk i = d i) → ∃ d' a' b', f_X7_votes_L8 J fu dk a b (nI k) = J d' a' b' ∧ FD kind mark (ovF (hoG kind horn brass health) horn n) (ovF (brG kind horn brass health) brass n) (ovF (opG kind horn brass open_ health) open_ n) health d' ∧ d' 2 = urI uh (cH kind horn brass health) n ∧ d' 3 = urI ub (cB kind horn brass health) n ∧ ∀ i, i ≠ 2 → i ≠ 3 → ¬ (10 ≤ i ∧ i < 58) → d' i = d i := by
  intro m
  induction m with
  | zero =>
    intro k fu dk a b hk hf D U1 U2 F
    obtain ⟨fu, rfl⟩ : ∃ q, fu = q + 1 := ⟨fu - 1, by omega⟩
    obtain rfl : k = n := by omega
    simp only [f_X7_votes_L8]
    rw [rdA_i (i := 0) (k := 0) rfl (by decide), F 0 (by decide) (by decide) (by decide), h0, if_pos (nI_le (Nat.le_refl _) (by omega))]
    exact ⟨_, _, _, rfl, D, U1, U2, F⟩
  | succ m ih =>
    intro k fu dk a b hk hf D U1 U2 F
    obtain ⟨fu, rfl⟩ : ∃ q, fu = q + 1 := ⟨fu - 1, by omega⟩
    obtain ⟨a1, a2, a3, a4, a5, a6⟩ := H k (by omega)
    obtain ⟨c1, c2, c3, c4⟩ := cH_rg H (show k < 8 by omega)
    obtain ⟨d1, d2, d3, d4, d5, d6⟩ := D k (by omega)
    have q1 : ovF (hoG kind horn brass health) horn k k = horn k := ov_at (Nat.le_refl _)
    have q2 : ovF (brG kind horn brass health) brass k k = brass k := ov_at (Nat.le_refl _)
    have q3 : ovF (opG kind horn brass open_ health) open_ k k = open_ k := ov_at (Nat.le_refl _)
    rw [q1] at d3
    rw [q2] at d4
    rw [q3] at d5
    simp only [f_X7_votes_L8]
    rw [rdA_i (i := 0) (k := 0) rfl (by decide), F 0 (by decide) (by decide) (by decide), h0, if_neg (nI_ge (by omega) (by omega)), e7_cuts (d := dk) (by omega) (by rw [d1]; exact a1) (by rw [d3]; exact a3) (by rw [d4]; exact a4) (by rw [d6]; exact a6), bdE2]
    rw [d1, d3, d4, d6]
    have e1 : cHI (kind k) (horn k) (brass k) (wlI (kind k) (health k)) = cH kind horn brass health k := rfl
    have e2 : cBI (kind k) (horn k) (brass k) (wlI (kind k) (health k)) = cB kind horn brass health k := rfl
    rw [e1, e2]
    have e3 : f_X7_held (open_ k + cH kind horn brass health k + cB kind horn brass health k) 0 99 = some (opG kind horn brass open_ health k) := by
      unfold opG
      obtain ⟨x, hx, e⟩ := a5
      obtain ⟨y, hy, e2⟩ := c1
      obtain ⟨z, hz, e3⟩ := c2
      rw [e, e2, e3, nI_add, nI_add, mnN (m := 99) (M := 99) rfl (by decide) (by omega), e7_heldN (m := 99) (M := 99) rfl (by decide) (by omega)]
    rw [eo2 (by omega), bdE1, d3, es2 (by omega), bdE1, eo3 (by omega), bdE1, upd_n (show 13 + 6 * k ≠ 12 + 6 * k by omega), d4, es3 (by omega), bdE1, eo4 (by omega), bdE1, upd_n (show 14 + 6 * k ≠ 13 + 6 * k by omega), upd_n (show 14 + 6 * k ≠ 12 + 6 * k by omega), d5, e3, bdE1, es4 (by omega), bdE1]
    rw [rdA_i (i := 2) (k := 2) rfl (by decide), upd_n (show 2 ≠ 14 + 6 * k by omega), upd_n (show 2 ≠ 13 + 6 * k by omega), upd_n (show 2 ≠ 12 + 6 * k by omega), U1, ur_s hu (by omega) (fun p hp => (cH_rg H (by omega)).1), bdE1, wrA_i (i := 2) (k := 2) rfl (by decide)]
    rw [rdA_i (i := 3) (k := 3) rfl (by decide), upd_n (show 3 ≠ 2 by decide), upd_n (show 3 ≠ 14 + 6 * k by omega), upd_n (show 3 ≠ 13 + 6 * k by omega), upd_n (show 3 ≠ 12 + 6 * k by omega), U2, ur_s hb (by omega) (fun p hp => (cH_rg H (by omega)).2.1), bdE1, wrA_i (i := 3) (k := 3) rfl (by decide)]
    simp only [nmE, nI_1]
    have D' := D.setV (k := k) (a := hoG kind horn brass health k) (b := brG kind horn brass health k) (c := opG kind horn brass open_ health k) (e := urI uh (cH kind horn brass health) (k + 1)) (f := urI ub (cB kind horn brass health) (k + 1)) (by omega)
    rw [ov_s, ov_s, ov_s] at D'
    refine ih (k + 1) fu _ _ _ (by omega) (by omega) D' ?_ ?_ (fun i h2 h3 h4 => ?_)
    · rw [upd_n (by decide), upd_s]
    · rw [upd_s]
    · rw [upd_n (by omega), upd_n (by omega), upd_n (by omega), upd_n (by omega), upd_n (by omega)]
      exact F i h2 h3 h4
/-- the laws behind one more -/
def lawN (w m : Nat) : Nat := if w / 2 ^ m % 2 = 1 then w else w + 2 ^ m
theorem lawN_e {mo w m : Nat} (h1 : mo ≤ 6) (h2 : m < mo) (h3 : w < 2 ^ mo) : lawN w m < 2 ^ mo ∧ nI w ||| (1 <<< (nI m &&& 31)) = nI (lawN w m) ∧ ∀ i, i < 6 → lawN w m / 2 ^ i % 2 = if i = m then 1 else w / 2 ^ i % 2 := by
  have A : ∀ mo, mo ≤ 6 → ∀ m, m < mo → ∀ w, w < 64 → w < 2 ^ mo → lawN w m < 2 ^ mo := by decide +kernel
  have B : ∀ m, m < 6 → ∀ w, w < 64 → nI w ||| (1 <<< (nI m &&& 31)) = nI (lawN w m) := by decide +kernel
  have C : ∀ m, m < 6 → ∀ w, w < 64 → ∀ i, i < 6 → lawN w m / 2 ^ i % 2 = if i = m then 1 else w / 2 ^ i % 2 := by decide +kernel
  exact ⟨A mo h1 m h2 w (w64 h1 h3) h3, B m (by omega) w (w64 h1 h3), C m (by omega) w (w64 h1 h3)⟩
/-- a vote of the reference -/
theorem e7_votes {kind mark horn brass open_ health d : Nat → Int32} {n mm s mo w : Nat} {uh ub : Int32} (H : FW kind mark horn brass open_ health) (hn : n ≤ 8) (h0 : d 0 = nI n) (hu : rg 999 uh) (hb : rg 999 ub) (U1 : d 2 = uh) (U2 : d 3 = ub) (hl : LD mo w d) (hm : mm < mo) (hs : d (59 + 3 * mm) = nI s) (hs2 : s ≤ 255) (D : FD kind mark horn brass open_ health d) (a b : Int32) : ∃ d' a' b', f_X7_votes d a b (nI mm) = some (d', a', b', wpI kind mark horn brass health n (nI s) (d (58 + 3 * mm))) ∧ FD kind mark (ovF (hoG kind horn brass health) horn n) (ovF (brG kind horn brass health) brass n) (ovF (opG kind horn brass open_ health) open_ n) health d' ∧ d' 2 = urI uh (cH kind horn brass health) n ∧ d' 3 = urI ub (cB kind horn brass health) n ∧ LD mo (if wpI kind mark horn brass health n (nI s) (d (58 + 3 * mm)) = 0 then w else lawN w mm) d' ∧ ∀ i, i ≠ 2 → i ≠ 3 → ¬ (10 ≤ i ∧ i < 58) → i ≠ 60 + 3 * mm → d' i = d i := by
  have hm6 : mm < 6 := by have := hl.1; omega
  unfold f_X7_votes
  obtain ⟨a1, b1, e1⟩ := e7_wouldPass H D h0 hn hm6 hs hs2 a b
  rw [e1, bdE3]
  simp only [jnE]
  generalize hr : wpI kind mark horn brass health n (nI s) (d (58 + 3 * mm)) = r
  obtain ⟨d', a', b', e2, D2, V1, V2, F⟩ := e7_votes_L H hn h0 hu hb (fun v_d_4 v_horn_5 v_brass_6 => (if r = 0 then bzA r (some (v_d_4, v_horn_5, v_brass_6, r)) else wrA 248 v_d_4 ((58 + (3 * nI mm)) + 2) 1 (fun v_d_7 => bzA r (some (v_d_7, v_horn_5, v_brass_6, r))))) n 0 300 d a1 b1 (by omega) (by omega) (by rw [ov_z, ov_z, ov_z]; exact D) (by rw [ur_z hu]; exact U1) (by rw [ur_z hb]; exact U2) (fun i _ _ _ => rfl)
  have hrr : r = 0 ∨ r = 1 := by rw [← hr]; exact wp01
  rcases hrr with rfl | rfl
  · refine ⟨d', a', b', e2, D2, V1, V2, ?_, fun i h2 h3 h4 _ => F i h2 h3 h4⟩
    rw [if_pos rfl]
    exact hl.frame (fun i hi => F i (by omega) (by omega) (by omega))
  · refine ⟨upd d' (60 + 3 * mm) 1, a', b', ?_, ?_, ?_, ?_, ?_, ?_⟩
    · refine Eq.trans e2 ?_
      show (if (1 : Int32) = 0 then _ else wrA 248 d' ((58 + (3 * nI mm)) + 2) 1 _) = _
      rw [if_neg (by decide), wrA_i em2x (by omega)]
      rfl
    · intro p hp
      obtain ⟨b1, b2, b3, b4, b5, b6⟩ := D2 p hp
      exact ⟨by rw [upd_n (by omega)]; exact b1, by rw [upd_n (by omega)]; exact b2, by rw [upd_n (by omega)]; exact b3, by rw [upd_n (by omega)]; exact b4, by rw [upd_n (by omega)]; exact b5, by rw [upd_n (by omega)]; exact b6⟩
    · rw [upd_n (by omega)]; exact V1
    · rw [upd_n (by omega)]; exact V2
    · rw [if_neg (by decide)]
      obtain ⟨l1, l2, l3, l4⟩ := hl
      obtain ⟨m1, m2, m3⟩ := lawN_e l1 hm l2
      refine ⟨l1, m1, by rw [upd_n (by omega), F 1 (by decide) (by decide) (by decide)]; exact l3, fun i hi => ?_⟩
      rw [m3 i hi]
      by_cases e : i = mm
      · subst e
        rw [if_pos rfl, upd_s]
        rfl
      · rw [if_neg e, upd_n (by omega), F _ (by omega) (by omega) (by omega)]
        exact l4 i hi
    · intro i h2 h3 h4 h5
      rw [upd_n h5]
      exact F i h2 h3 h4
/-- a vote of the class -/
theorem e5_hold {kind mark horn brass open_ health quorum favour : Nat → Int32} {n mm mo w : Nat} {uh ub : Int32} (H : FW kind mark horn brass open_ health) (hn : n ≤ 8) (hmo : mo ≤ 6) (hw : w < 2 ^ mo) (hm : mm < mo) : f_X5_holdVote (nI n) kind mark horn brass open_ health quorum favour (nI w) uh ub (nI mm) = some (ovF (hoG kind horn brass health) horn n, ovF (brG kind horn brass health) brass n, ovF (opG kind horn brass open_ health) open_ n, nI (if wpI kind mark horn brass health n (favour mm) (quorum mm) = 0 then w else lawN w mm), urI uh (cH kind horn brass health) n, urI ub (cB kind horn brass health) n, wpI kind mark horn brass health n (favour mm) (quorum mm)) := by
  unfold f_X5_holdVote
  rw [rdA_i rfl (by omega), rdA_i rfl (by omega), e0_wouldPass H hn, bdE1]
  simp only [jnE, nmE]
  rw [e0_hornOf 255 H hn, e0_brassOf 255 H hn, e0_cutAll H hn, sel255 hn, sel255 hn]
  simp only [bdE1, bdE3]
  generalize hr : wpI kind mark horn brass health n (favour mm) (quorum mm) = r
  have hrr : r = 0 ∨ r = 1 := by rw [← hr]; exact wp01
  rcases hrr with rfl | rfl
  · rfl
  · rw [if_neg (by decide), if_neg (by decide), (lawN_e hmo hm hw).2.1]
    rfl
