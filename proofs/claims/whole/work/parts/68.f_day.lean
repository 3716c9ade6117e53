/-! a day, and days ahead, for class and reference -/
def TX (f : Nat → Int32) (n : Nat) : Prop := n ≤ 50 ∧ (∀ k, k < n → ∃ y, Cd (f k) y) ∧ (n = 0 ∨ cdepth f n = some 1)
def TD (f : Nat → Int32) (n u : Nat) (d : Nat → Int32) : Prop := d (76 + u) = nI n ∧ ∀ k, k < n → Cd (f k) (d (98 + 50 * u + k))
theorem TD.frame {f d d' : Nat → Int32} {n u : Nat} (h : TD f n u d) (e : ∀ i, 76 ≤ i → d' i = d i) : TD f n u d' := ⟨by rw [e _ (by omega)]; exact h.1, fun k hk => by rw [e _ (by omega)]; exact h.2 k hk⟩
theorem TextR_0 {f d : Nat → Int32} {size : Int32} (h : TextR f size (d 76) (fun k => d (98 + k))) : ∃ n, size = nI n ∧ TX f n ∧ TD f n 0 d := by
  obtain ⟨n, h1, h2, h3, h4, h5⟩ := h
  exact ⟨n, h2, ⟨h1, fun k hk => ⟨_, h4 k hk⟩, h5⟩, h3.trans h2, fun k hk => h4 k hk⟩
theorem TextR_1 {f d : Nat → Int32} {size : Int32} (h : TextR f size (d 77) (fun k => d (148 + k))) : ∃ n, size = nI n ∧ TX f n ∧ TD f n 1 d := by
  obtain ⟨n, h1, h2, h3, h4, h5⟩ := h
  exact ⟨n, h2, ⟨h1, fun k hk => ⟨_, h4 k hk⟩, h5⟩, h3.trans h2, fun k hk => h4 k hk⟩
theorem e3_g0 {f : Nat → Int32} {n : Nat} (h : TX f n) (a b c : Int32) (st : Nat → Int32) : ∃ st', f_X3_gives 0 f (nI n) st a b c = some (st', tvI 0 f n a b c) := e3_gives (u := 0) rfl (by decide) rfl h.1 h.2.1 h.2.2 st
theorem e3_g1 {f : Nat → Int32} {n : Nat} (h : TX f n) (a b c : Int32) (st : Nat → Int32) : ∃ st', f_X3_gives 1 f (nI n) st a b c = some (st', tvI 1 f n a b c) := e3_gives (u := 1) rfl (by decide) rfl h.1 h.2.1 h.2.2 st
theorem e7_g0 {f d : Nat → Int32} {n : Nat} (h : TX f n) (h2 : TD f n 0 d) (a b c : Int32) (names pile : Nat → Int32) : ∃ names' pile', f_X7_textGives d names pile 0 a b c = some (names', pile', tvI 0 f n a b c) := e7_text (u := 0) (by decide) h2.1 h.1 h2.2 h.2.2 names pile
theorem e7_g1 {f d : Nat → Int32} {n : Nat} (h : TX f n) (h2 : TD f n 1 d) (a b c : Int32) (names pile : Nat → Int32) : ∃ names' pile', f_X7_textGives d names pile 1 a b c = some (names', pile', tvI 1 f n a b c) := e7_text (u := 1) (by decide) h2.1 h.1 h2.2 h.2.2 names pile
/-- the cold of a day -/
def clI (f : Nat → Int32) (n w : Nat) (day winter : Int32) : Int32 := tvI 1 f n day winter (nI (pcN w))
theorem e5_cold {f : Nat → Int32} {n w : Nat} (h : TX f n) (hw : w < 64) (day winter : Int32) (st : Nat → Int32) : ∃ st', f_X5_coldOf 1 f (nI n) st day winter (nI w) = some (st', clI f n w day winter) := by
  unfold f_X5_coldOf
  rw [pc_bits (by omega), bdE1]
  obtain ⟨st', e⟩ := e3_g1 h day winter (nI (pcN w)) st
  exact ⟨st', by rw [e, bdE2]; rfl⟩
/-- the laws of the reference -/
def LD (mo w : Nat) (d : Nat → Int32) : Prop := mo ≤ 6 ∧ w < 2 ^ mo ∧ d 1 = nI mo ∧ ∀ i, i < 6 → d (60 + 3 * i) = nI (w / 2 ^ i % 2)
theorem LD.w {mo w : Nat} {d : Nat → Int32} (h : LD mo w d) : w < 64 := w64 h.1 h.2.1
theorem LD.frame {mo w : Nat} {d d' : Nat → Int32} (h : LD mo w d) (e : ∀ i, i = 1 ∨ (58 ≤ i ∧ i < 76) → d' i = d i) : LD mo w d' := ⟨h.1, h.2.1, by rw [e _ (by omega)]; exact h.2.2.1, fun i hi => by rw [e _ (by omega)]; exact h.2.2.2 i hi⟩
theorem e7_cold {f d : Nat → Int32} {n mo w : Nat} (h : TX f n) (h2 : TD f n 1 d) (hl : LD mo w d) (names pile : Nat → Int32) : ∃ names' pile', f_X7_coldNow d names pile = some (names', pile', clI f n w (d 6) (d 5)) := by
  unfold f_X7_coldNow
  rw [rdA_i (i := 6) (k := 6) rfl (by decide), rdA_i (i := 5) (k := 5) rfl (by decide), e7_lawMany hl.2.2.1 hl.1 hl.2.1 hl.2.2.2, bdE1]
  obtain ⟨n', p', e⟩ := e7_g1 h h2 (d 6) (d 5) (nI (pcN w)) names pile
  exact ⟨n', p', by rw [e, bdE3]; rfl⟩
def hbI (k m hl c v : Int32) : Int32 := if hl = 0 then 0 else if c = 0 then minI 99 (hl + 1) else maxI 0 (hl - chI k m v)
/-- health a day on -/
def nxH (f : Nat → Int32) (n : Nat) (k m o c hl : Int32) : Int32 := hbI k m hl c (tvI 0 f n c o hl)
theorem nx_0 {f : Nat → Int32} {n : Nat} {k m o c : Int32} : nxH f n k m o c 0 = 0 := rfl
theorem min99 {z : Int32} (h : z.toInt ≤ 99) : minI 99 z = z := by
  unfold minI
  by_cases e : z < 99
  · rw [if_pos e]
  · rw [if_neg e]
    rw [Int32.lt_iff_toInt_lt] at e
    have : ¬ z.toInt < 99 := e
    exact Int32.toInt_inj.mp (show (99 : Int) = z.toInt by omega)
theorem hc_toInt {hl c : Int32} (h : rg 99 hl) (hc : rg 101 c) : (hl - c).toInt ≤ 99 ∧ -101 ≤ (hl - c).toInt := by
  obtain ⟨x, hx, rfl⟩ := h
  obtain ⟨y, hy, rfl⟩ := hc
  rw [pk_sub_toInt (by omega) (by omega)]
  omega
theorem mx_rg {z : Int32} (h : z.toInt ≤ 99) : rg 99 (maxI 0 z) := by
  unfold maxI
  by_cases e : 0 < z
  · rw [if_pos e]
    refine nI_of2 (n := 99) (M := 99) (by decide) ?_ ?_
    · rw [Int32.lt_iff_toInt_lt] at e ⊢
      have : (0 : Int) < z.toInt := e
      show ¬ z.toInt < 0
      omega
    · rw [Int32.le_iff_toInt_le]
      exact h
  · rw [if_neg e]
    exact ⟨0, by decide, rfl⟩
theorem up99 {hl : Int32} (h : rg 99 hl) : rg 99 (minI 99 (hl + 1)) ∧ maxI 0 (minI 99 (hl + 1)) = minI 99 (hl + 1) := by
  obtain ⟨x, hx, rfl⟩ := h
  by_cases e : x = 99
  · subst e
    exact ⟨⟨99, by decide, by decide⟩, by decide⟩
  · have : minI 99 (nI x + 1) = nI (x + 1) := by
      rw [nI_1]
      exact min99 (by rw [nI_toInt (by omega)]; omega)
    rw [this]
    refine ⟨⟨x + 1, by omega, rfl⟩, ?_⟩
    unfold maxI
    rw [if_pos (show (0 : Int32) < nI (x + 1) from nI_lt (a := 0) (by omega) (by omega))]
theorem nx_rg {f : Nat → Int32} {n : Nat} {k m o c hl : Int32} (hk : rg 6 k) (hm : rg 9 m) (hh : rg 99 hl) : rg 99 (nxH f n k m o c hl) := by
  unfold nxH hbI
  split
  · exact ⟨0, by decide, rfl⟩
  · split
    · exact (up99 hh).1
    · exact mx_rg (hc_toInt hh (ch_rg hk hm tv_rg)).1
theorem e0_behind {kind mark f st : Nat → Int32} {n p : Nat} {o hl c : Int32} (h : TX f n) (hp : p < 8) (hk : rg 6 (kind p)) : ∃ st', f_X0_healthBehind kind mark 0 f (nI n) st (nI p) o hl c = some (st', nxH f n (kind p) (mark p) o c hl) := by
  unfold f_X0_healthBehind nxH hbI
  by_cases e1 : hl = 0
  · rw [if_pos e1, if_pos e1]
    exact ⟨_, rfl⟩
  · rw [if_neg e1, if_neg e1]
    by_cases e2 : c = 0
    · rw [if_pos e2, if_pos e2]
      exact ⟨_, rfl⟩
    · rw [if_neg e2, if_neg e2]
      obtain ⟨st', e⟩ := e3_g0 h c o hl st
      exact ⟨st', by rw [e, bdE2, e0_chill hp hk, bdE1]⟩
/-- the reference's next health of one who lives -/
theorem nx_w {f : Nat → Int32} {n : Nat} {k m o c hl : Int32} (hh : rg 99 hl) (h0 : ¬ hl = 0) (hc : c = 0) : f_X7_held (hl + 1) 0 99 = some (nxH f n k m o c hl) := by
  unfold nxH hbI
  rw [if_neg h0, if_pos hc, e7_held99, (up99 hh).2]
theorem nx_c {f : Nat → Int32} {n : Nat} {k m o c hl : Int32} (hk : rg 6 k) (hm : rg 9 m) (hh : rg 99 hl) (h0 : ¬ hl = 0) (hc : ¬ c = 0) : f_X7_held (hl + -chI k m (tvI 0 f n c o hl)) 0 99 = some (nxH f n k m o c hl) := by
  unfold nxH hbI
  rw [if_neg h0, if_neg hc, e7_held99, ← Int32.sub_eq_add_neg, min99 (hc_toInt hh (ch_rg hk hm tv_rg)).1]
theorem e7_ch {f d : Nat → Int32} {n p : Nat} {c : Int32} (h : TX f n) (h2 : TD f n 0 d) (hp : p < 8) (hk : rg 6 (d (10 + 6 * p))) (hm : rg 9 (d (11 + 6 * p))) (names pile : Nat → Int32) : ∃ names' pile', f_X7_chillOf d names pile (nI p) c = some (names', pile', chI (d (10 + 6 * p)) (d (11 + 6 * p)) (tvI 0 f n c (d (14 + 6 * p)) (d (15 + 6 * p)))) := by
  obtain ⟨n', p', e⟩ := e7_g0 h h2 c (d (14 + 6 * p)) (d (15 + 6 * p)) names pile
  exact ⟨n', p', e7_chill hp hk hm tv_rg e⟩
/-- everybody's health a day on, of the first so many -/
def dyH (f : Nat → Int32) (nc : Nat) (kind mark open_ : Nat → Int32) (c : Int32) (health : Nat → Int32) (n : Nat) : Nat → Int32 := fun p => if p < n then nxH f nc (kind p) (mark p) (open_ p) c (health p) else health p
theorem dy_at {f : Nat → Int32} {nc : Nat} {kind mark open_ : Nat → Int32} {c : Int32} {health : Nat → Int32} {n p : Nat} (h : n ≤ p) : dyH f nc kind mark open_ c health n p = health p := by
  unfold dyH
  rw [if_neg (by omega)]
theorem dy_in {f : Nat → Int32} {nc : Nat} {kind mark open_ : Nat → Int32} {c : Int32} {health : Nat → Int32} {n p : Nat} (h : p < n) : dyH f nc kind mark open_ c health n p = nxH f nc (kind p) (mark p) (open_ p) c (health p) := by
  unfold dyH
  rw [if_pos h]
theorem dy_s {f : Nat → Int32} {nc : Nat} {kind mark open_ : Nat → Int32} {c : Int32} {health : Nat → Int32} {n : Nat} : upd (dyH f nc kind mark open_ c health n) n (nxH f nc (kind n) (mark n) (open_ n) c (health n)) = dyH f nc kind mark open_ c health (n + 1) := by
  funext p
  by_cases e : p = n
  · subst e
    rw [upd_s, dy_in (by omega)]
  · rw [upd_n e]
    by_cases g : p < n
    · rw [dy_in g, dy_in (by omega)]
    · rw [dy_at (by omega), dy_at (by omega)]
theorem dy_z {f : Nat → Int32} {nc : Nat} {kind mark open_ : Nat → Int32} {c : Int32} {health : Nat → Int32} : dyH f nc kind mark open_ c health 0 = health := by
  funext p
  exact dy_at (by omega)
theorem FW.day {kind mark horn brass open_ health : Nat → Int32} (H : FW kind mark horn brass open_ health) {f : Nat → Int32} {nc : Nat} {c : Int32} {n : Nat} : FW kind mark horn brass open_ (dyH f nc kind mark open_ c health n) := by
  intro p hp
  obtain ⟨a1, a2, a3, a4, a5, a6⟩ := H p hp
  refine ⟨a1, a2, a3, a4, a5, ?_⟩
  by_cases g : p < n
  · rw [dy_in g]
    exact nx_rg a1 a2 a6
  · rw [dy_at (by omega)]
    exact a6
theorem e0_passDay {kind mark horn brass open_ health f : Nat → Int32} {n nc : Nat} {c : Int32} (H : FW kind mark horn brass open_ health) (hn : n ≤ 8) (h : TX f nc) (st : Nat → Int32) : ∃ st', f_X0_passDay (nI n) kind mark open_ health 0 f (nI nc) st c = some (dyH f nc kind mark open_ c health n, st') := by
  have L : ∀ (m k fu : Nat) (st : Nat → Int32), k + m = n → m < fu → ∃ st', f_X0_passDay_L2 (nI n) kind mark open_ 0 f (nI nc) c fu (dyH f nc kind mark open_ c health k) st (nI k) = some (dyH f nc kind mark open_ c health n, st') := by
    intro m
    induction m with
    | zero =>
      intro k fu st hk hf
      obtain ⟨fu, rfl⟩ : ∃ q, fu = q + 1 := ⟨fu - 1, by omega⟩
      obtain rfl : k = n := by omega
      simp only [f_X0_passDay_L2]
      rw [if_pos (nI_le (Nat.le_refl _) (by omega))]
      exact ⟨_, rfl⟩
    | succ m ih =>
      intro k fu st hk hf
      obtain ⟨fu, rfl⟩ : ∃ q, fu = q + 1 := ⟨fu - 1, by omega⟩
      simp only [f_X0_passDay_L2]
      obtain ⟨st1, e⟩ := e0_behind (mark := mark) (st := st) (o := open_ k) (hl := health k) (c := c) h (show k < 8 by omega) (H k (by omega)).1
      rw [if_neg (nI_ge (by omega) (by omega)), rdA_i rfl (by omega), rdA_i rfl (by omega), dy_at (Nat.le_refl _), e, bdE2, wrA_i rfl (by omega), dy_s]
      simp only [nmE, nI_1]
      exact ih (k + 1) fu st1 (by omega) (by omega)
  obtain ⟨st', e⟩ := L n 0 300 st (by omega) (by omega)
  rw [dy_z] at e
  exact ⟨st', e⟩
/-- a health's place in the reference's row -/
def HP (i : Nat) : Prop := 10 ≤ i ∧ i < 58 ∧ i % 6 = 3
theorem FD.set {kind mark horn brass open_ health d : Nat → Int32} (D : FD kind mark horn brass open_ health d) {k : Nat} {v : Int32} (hk : k < 8) : FD kind mark horn brass open_ (upd health k v) (upd d (15 + 6 * k) v) := by
  intro p hp
  obtain ⟨d1, d2, d3, d4, d5, d6⟩ := D p hp
  refine ⟨by rw [upd_n (by omega)]; exact d1, by rw [upd_n (by omega)]; exact d2, by rw [upd_n (by omega)]; exact d3, by rw [upd_n (by omega)]; exact d4, by rw [upd_n (by omega)]; exact d5, ?_⟩
  by_cases e : p = k
  · subst e
    rw [upd_s, upd_s]
  · rw [upd_n (by omega), upd_n e]
    exact d6
theorem e7_day_L {kind mark horn brass open_ health f d : Nat → Int32} {n nc : Nat} {c : Int32} (H : FW kind mark horn brass open_ health) (hn : n ≤ 8) (h0 : d 0 = nI n) (h : TX f nc) (h2 : TD f nc 0 d) (J : (Nat → Int32) → (Nat → Int32) → (Nat → Int32) → Option ((Nat → Int32) × (Nat → Int32) × (Nat → Int32))) : ∀ (m k fu : Nat) (dk names pile : Nat → Int32), k + m = n → m < fu → FD kind mark horn brass open_ (dyH f nc kind mark open_ c health k) dk → (∀ i, ¬ HP i → dk i = d i) → ∃ d' names' pile', f_X7_dayGoes_L7 c J fu dk names pile (nI k) = J d' names' pile' ∧ FD kind mark horn brass open_ (dyH f nc kind mark open_ c health n) d' ∧ ∀ i, ¬ HP i → d' i = d i := by
  intro m
  induction m with
  | zero =>
    intro k fu dk names pile hk hf D F
    obtain ⟨fu, rfl⟩ : ∃ q, fu = q + 1 := ⟨fu - 1, by omega⟩
    obtain rfl : k = n := by omega
    simp only [f_X7_dayGoes_L7]
    rw [rdA_i (i := 0) (k := 0) rfl (by decide), F 0 (by unfold HP; omega), h0, if_pos (nI_le (Nat.le_refl _) (by omega))]
    exact ⟨_, _, _, rfl, D, F⟩
  | succ m ih =>
    intro k fu dk names pile hk hf D F
    obtain ⟨fu, rfl⟩ : ∃ q, fu = q + 1 := ⟨fu - 1, by omega⟩
    obtain ⟨a1, a2, a3, a4, a5, a6⟩ := H k (by omega)
    obtain ⟨d1, d2, d3, d4, d5, d6⟩ := D k (by omega)
    rw [dy_at (Nat.le_refl _)] at d6
    simp only [f_X7_dayGoes_L7]
    rw [rdA_i (i := 0) (k := 0) rfl (by decide), F 0 (by unfold HP; omega), h0, if_neg (nI_ge (by omega) (by omega)), e7_dead (by omega), d6]
    simp only [bdE1, jnE, nmE, nI_1]
    have fin : ∀ names' pile', ∃ d' n2 p2, f_X7_dayGoes_L7 c J fu (upd dk (15 + 6 * k) (nxH f nc (kind k) (mark k) (open_ k) c (health k))) names' pile' (nI (k + 1)) = J d' n2 p2 ∧ FD kind mark horn brass open_ (dyH f nc kind mark open_ c health n) d' ∧ ∀ i, ¬ HP i → d' i = d i := by
      intro names' pile'
      have D' := D.set (k := k) (v := nxH f nc (kind k) (mark k) (open_ k) c (health k)) (by omega)
      rw [dy_s] at D'
      refine ih (k + 1) fu _ names' pile' (by omega) (by omega) D' (fun i hi => ?_)
      rw [upd_n (by unfold HP at hi; omega)]
      exact F i hi
    by_cases z : health k = 0
    · rw [if_pos z, if_neg (by decide)]
      have : upd dk (15 + 6 * k) (nxH f nc (kind k) (mark k) (open_ k) c (health k)) = dk := by
        funext i
        by_cases e : i = 15 + 6 * k
        · rw [e, upd_s, d6, z, nx_0]
        · rw [upd_n e]
      have R := fin names pile
      rw [this] at R
      exact R
    · rw [if_neg z, if_pos rfl]
      by_cases y : c = 0
      · rw [if_pos y, eo5 (by omega), bdE1, d6, nx_w (f := f) (n := nc) (k := kind k) (m := mark k) (o := open_ k) a6 z y, bdE1, es5 (by omega), bdE1]
        exact fin names pile
      · rw [if_neg y]
        obtain ⟨n1, p1, e⟩ := e7_ch (c := c) (p := k) h (h2.frame (fun i hi => F i (by unfold HP; omega))) (by omega) (by rw [d1]; exact a1) (by rw [d2]; exact a2) names pile
        rw [e, bdE3, eo5 (by omega), bdE1, d1, d2, d5, d6, nx_c a1 a2 a6 z y, bdE1, es5 (by omega), bdE1]
        exact fin n1 p1
/-- a day of the reference -/
theorem e7_day {kind mark horn brass open_ health f g d : Nat → Int32} {n nc ng mo w : Nat} (H : FW kind mark horn brass open_ health) (hn : n ≤ 8) (h0 : d 0 = nI n) (h : TX f nc) (h2 : TD f nc 0 d) (hg : TX g ng) (hg2 : TD g ng 1 d) (hl : LD mo w d) (D : FD kind mark horn brass open_ health d) (names pile : Nat → Int32) : ∃ d' names' pile', f_X7_dayGoes d names pile = some (d', names', pile') ∧ FD kind mark horn brass open_ (dyH f nc kind mark open_ (clI g ng w (d 6) (d 5)) health n) d' ∧ d' 6 = d 6 + 1 ∧ ∀ i, ¬ HP i → i ≠ 6 → d' i = d i := by
  unfold f_X7_dayGoes
  obtain ⟨n1, p1, e⟩ := e7_cold hg hg2 hl names pile
  rw [e, bdE3]
  simp only [jnE]
  obtain ⟨d', n2, p2, e2, D2, F2⟩ := e7_day_L (c := clI g ng w (d 6) (d 5)) H hn h0 h h2 (fun v_d_4 v_names_5 v_pile_6 => rdA 248 v_d_4 6 (fun x_7 => wrA 248 v_d_4 6 (x_7 + 1) (fun v_d_8 => some (v_d_8, v_names_5, v_pile_6)))) n 0 300 d n1 p1 (by omega) (by omega) (by rw [dy_z]; exact D) (fun i hi => rfl)
  refine ⟨upd d' 6 (d' 6 + 1), n2, p2, ?_, ?_, ?_, ?_⟩
  · refine Eq.trans e2 ?_
    show rdA 248 d' 6 _ = _
    rw [rdA_i (i := 6) (k := 6) rfl (by decide), wrA_i (i := 6) (k := 6) rfl (by decide)]
  · intro p hp
    obtain ⟨b1, b2, b3, b4, b5, b6⟩ := D2 p hp
    exact ⟨by rw [upd_n (by omega)]; exact b1, by rw [upd_n (by omega)]; exact b2, by rw [upd_n (by omega)]; exact b3, by rw [upd_n (by omega)]; exact b4, by rw [upd_n (by omega)]; exact b5, by rw [upd_n (by omega)]; exact b6⟩
  · rw [upd_s, F2 6 (by unfold HP; omega)]
  · intro i hi h6
    rw [upd_n h6]
    exact F2 i hi
