/-! what would be: days ahead -/
def tjI (f : Nat → Int32) (nc : Nat) (k m o : Int32) (cold : Nat → Int32) (hl : Int32) : Nat → Int32
  | 0 => hl
  | j + 1 => nxH f nc k m o (cold j) (tjI f nc k m o cold hl j)
theorem tj_0 {f : Nat → Int32} {nc : Nat} {k m o : Int32} {cold : Nat → Int32} {hl : Int32} {j : Nat} (h : tjI f nc k m o cold hl j = 0) : tjI f nc k m o cold hl (j + 1) = 0 := by
  show nxH f nc k m o (cold j) (tjI f nc k m o cold hl j) = 0
  rw [h, nx_0]
theorem tj_rg {f : Nat → Int32} {nc : Nat} {k m o : Int32} {cold : Nat → Int32} {hl : Int32} (hk : rg 6 k) (hm : rg 9 m) (hh : rg 99 hl) : ∀ j, rg 99 (tjI f nc k m o cold hl j)
  | 0 => hh
  | j + 1 => nx_rg hk hm (tj_rg hk hm hh j)
/-- everybody's health so many days ahead -/
def hIt (f : Nat → Int32) (nc : Nat) (kind mark open_ health : Nat → Int32) (cold : Nat → Int32) (n j : Nat) : Nat → Int32 := fun p => if p < n then tjI f nc (kind p) (mark p) (open_ p) cold (health p) j else health p
theorem hI_in {f : Nat → Int32} {nc : Nat} {kind mark open_ health cold : Nat → Int32} {n j p : Nat} (h : p < n) : hIt f nc kind mark open_ health cold n j p = tjI f nc (kind p) (mark p) (open_ p) cold (health p) j := by
  unfold hIt
  rw [if_pos h]
theorem hI_z {f : Nat → Int32} {nc : Nat} {kind mark open_ health cold : Nat → Int32} {n : Nat} : hIt f nc kind mark open_ health cold n 0 = health := by
  funext p
  unfold hIt
  split <;> rfl
theorem hI_s {f : Nat → Int32} {nc : Nat} {kind mark open_ health cold : Nat → Int32} {n j : Nat} : dyH f nc kind mark open_ (cold j) (hIt f nc kind mark open_ health cold n j) n = hIt f nc kind mark open_ health cold n (j + 1) := by
  funext p
  unfold dyH hIt
  by_cases h : p < n
  · rw [if_pos h, if_pos h, if_pos h]
    rfl
  · rw [if_neg h, if_neg h, if_neg h]
theorem FW.it {kind mark horn brass open_ health : Nat → Int32} (H : FW kind mark horn brass open_ health) {f : Nat → Int32} {nc : Nat} {cold : Nat → Int32} {n j : Nat} : FW kind mark horn brass open_ (hIt f nc kind mark open_ health cold n j) := by
  intro p hp
  obtain ⟨a1, a2, a3, a4, a5, a6⟩ := H p hp
  refine ⟨a1, a2, a3, a4, a5, ?_⟩
  unfold hIt
  split
  · exact tj_rg a1 a2 a6 j
  · exact a6
/-- a state of the reference so many days ahead -/
def AhR (kind mark horn brass open_ health f : Nat → Int32) (nc : Nat) (cold : Nat → Int32) (n : Nat) (d : Nat → Int32) (k : Nat) (dk : Nat → Int32) : Prop := FD kind mark horn brass open_ (hIt f nc kind mark open_ health cold n k) dk ∧ dk 6 = d 6 + nI k ∧ ∀ i, ¬ HP i → i ≠ 6 → dk i = d i
theorem ah_0 {kind mark horn brass open_ health f : Nat → Int32} {nc : Nat} {cold : Nat → Int32} {n : Nat} {d : Nat → Int32} (D : FD kind mark horn brass open_ health d) : AhR kind mark horn brass open_ health f nc cold n d 0 d := ⟨by rw [hI_z]; exact D, by rw [show nI 0 = (0 : Int32) from rfl, Int32.add_zero], fun i _ _ => rfl⟩
theorem ah_s {kind mark horn brass open_ health f g d dk cold : Nat → Int32} {n nc ng mo w k : Nat} (H : FW kind mark horn brass open_ health) (hn : n ≤ 8) (h0 : d 0 = nI n) (h : TX f nc) (h2 : TD f nc 0 d) (hg : TX g ng) (hg2 : TD g ng 1 d) (hl : LD mo w d) (hc : cold k = clI g ng w (d 6 + nI k) (d 5)) (A : AhR kind mark horn brass open_ health f nc cold n d k dk) (names pile : Nat → Int32) : ∃ d' names' pile', f_X7_dayGoes dk names pile = some (d', names', pile') ∧ AhR kind mark horn brass open_ health f nc cold n d (k + 1) d' := by
  obtain ⟨D, h6, F⟩ := A
  obtain ⟨d', n1, p1, e2, D2, D6, F2⟩ := e7_day (n := n) (f := f) (g := g) (nc := nc) (ng := ng) (mo := mo) (w := w) (d := dk) H.it hn ((F 0 (by unfold HP; omega) (by decide)).trans h0) h (h2.frame (fun i hi => F i (by unfold HP; omega) (by omega))) hg (hg2.frame (fun i hi => F i (by unfold HP; omega) (by omega))) (hl.frame (fun i hi => F i (by unfold HP; omega) (by omega))) D names pile
  rw [h6, F 5 (by unfold HP; omega) (by decide), ← hc, hI_s] at D2
  refine ⟨d', n1, p1, e2, D2, ?_, fun i a b => (F2 i a b).trans (F i a b)⟩
  rw [D6, h6, Int32.add_assoc, nI_1]
theorem e7_daysGo {kind mark horn brass open_ health f g d cold : Nat → Int32} {n nc ng mo w N : Nat} (H : FW kind mark horn brass open_ health) (hn : n ≤ 8) (h0 : d 0 = nI n) (h : TX f nc) (h2 : TD f nc 0 d) (hg : TX g ng) (hg2 : TD g ng 1 d) (hl : LD mo w d) (hN : N ≤ 60) (hc : ∀ k, cold k = clI g ng w (d 6 + nI k) (d 5)) (D : FD kind mark horn brass open_ health d) (names pile : Nat → Int32) : ∃ d' names' pile', f_X7_daysGo d names pile (nI N) = some (d', names', pile') ∧ AhR kind mark horn brass open_ health f nc cold n d N d' := by
  have L : ∀ (m k fu : Nat) (dk names pile : Nat → Int32), k + m = N → m < fu → AhR kind mark horn brass open_ health f nc cold n d k dk → ∃ d' names' pile', f_X7_daysGo_L2 (nI N) fu dk names pile (nI k) = some (d', names', pile') ∧ AhR kind mark horn brass open_ health f nc cold n d N d' := by
    intro m
    induction m with
    | zero =>
      intro k fu dk names pile hk hf A
      obtain ⟨fu, rfl⟩ : ∃ q, fu = q + 1 := ⟨fu - 1, by omega⟩
      obtain rfl : k = N := by omega
      simp only [f_X7_daysGo_L2]
      rw [if_pos (nI_le (Nat.le_refl _) (by omega))]
      exact ⟨_, _, _, rfl, A⟩
    | succ m ih =>
      intro k fu dk names pile hk hf A
      obtain ⟨fu, rfl⟩ : ∃ q, fu = q + 1 := ⟨fu - 1, by omega⟩
      simp only [f_X7_daysGo_L2]
      obtain ⟨d', n1, p1, e, A'⟩ := ah_s H hn h0 h h2 hg hg2 hl (hc k) A names pile
      rw [if_neg (nI_ge (by omega) (by omega)), e, bdE3]
      simp only [nmE, nI_1]
      exact ih (k + 1) fu d' n1 p1 (by omega) (by omega) A'
  exact L N 0 300 d names pile (by omega) (by omega) (ah_0 D)
theorem e7_keep {d aside : Nat → Int32} : f_X7_keepAside d aside = some (ovF d aside 76) := by
  have L : ∀ (m k fu : Nat), k + m = 76 → m < fu → f_X7_keepAside_L2 d fu (ovF d aside k) (nI k) = some (ovF d aside 76) := by
    intro m
    induction m with
    | zero =>
      intro k fu hk hf
      obtain ⟨fu, rfl⟩ : ∃ q, fu = q + 1 := ⟨fu - 1, by omega⟩
      obtain rfl : k = 76 := by omega
      simp only [f_X7_keepAside_L2]
      rw [if_pos (show (76 : Int32) ≤ nI 76 by decide)]
    | succ m ih =>
      intro k fu hk hf
      obtain ⟨fu, rfl⟩ : ∃ q, fu = q + 1 := ⟨fu - 1, by omega⟩
      simp only [f_X7_keepAside_L2]
      rw [if_neg (show ¬ (76 : Int32) ≤ nI k from nI_ge (b := 76) (by omega) (by decide)), rdA_i rfl (by omega), wrA_i rfl (by omega), ov_s]
      simp only [nmE, nI_1]
      exact ih (k + 1) fu (by omega) (by omega)
  have R := L 76 0 300 (by omega) (by omega)
  rw [ov_z] at R
  exact R
theorem e7_back {d dk aside : Nat → Int32} (F : ∀ i, 76 ≤ i → dk i = d i) : f_X7_putBack dk (ovF d aside 76) = some d := by
  have L : ∀ (m k fu : Nat), k + m = 76 → m < fu → f_X7_putBack_L2 (ovF d aside 76) fu (ovF d dk k) (nI k) = some (ovF d dk 76) := by
    intro m
    induction m with
    | zero =>
      intro k fu hk hf
      obtain ⟨fu, rfl⟩ : ∃ q, fu = q + 1 := ⟨fu - 1, by omega⟩
      obtain rfl : k = 76 := by omega
      simp only [f_X7_putBack_L2]
      rw [if_pos (show (76 : Int32) ≤ nI 76 by decide)]
    | succ m ih =>
      intro k fu hk hf
      obtain ⟨fu, rfl⟩ : ∃ q, fu = q + 1 := ⟨fu - 1, by omega⟩
      simp only [f_X7_putBack_L2]
      rw [if_neg (show ¬ (76 : Int32) ≤ nI k from nI_ge (b := 76) (by omega) (by decide)), rdA_i rfl (by omega), wrA_i rfl (by omega), ov_in (by omega), ov_s]
      simp only [nmE, nI_1]
      exact ih (k + 1) fu (by omega) (by omega)
  have R := L 76 0 300 (by omega) (by omega)
  rw [ov_z] at R
  have e : ovF d dk 76 = d := by
    funext i
    by_cases h : i < 76
    · exact ov_in h
    · rw [ov_at (by omega)]
      exact F i (by omega)
  rw [e] at R
  exact R
theorem ah_back {kind mark horn brass open_ health f : Nat → Int32} {nc : Nat} {cold : Nat → Int32} {n k : Nat} {d dk aside : Nat → Int32} (A : AhR kind mark horn brass open_ health f nc cold n d k dk) : f_X7_putBack dk (ovF d aside 76) = some d := e7_back (fun i hi => A.2.2 i (by unfold HP; omega) (by omega))
/-- the first day by which one is dead -/
def fzN (h : Nat → Int32) : Nat → Nat → Nat
  | k, 0 => if h k = 0 then k else k + 1
  | k, m + 1 => if h k = 0 then k else fzN h (k + 1) m
theorem fz_le {h : Nat → Int32} (a : ∀ j, h j = 0 → h (j + 1) = 0) : ∀ m k, fzN h k m ≤ k + m + 1 ∧ (fzN h k m ≤ k + m ↔ h (k + m) = 0)
  | 0, k => by
    simp only [fzN, Nat.add_zero]
    by_cases e : h k = 0
    · rw [if_pos e]; exact ⟨by omega, fun _ => e, fun _ => by omega⟩
    · rw [if_neg e]; exact ⟨by omega, fun q => by omega, fun q => absurd q e⟩
  | m + 1, k => by
    obtain ⟨i1, i2⟩ := fz_le a m (k + 1)
    simp only [fzN]
    rw [show k + 1 + m = k + (m + 1) by omega] at i1 i2
    by_cases e : h k = 0
    · rw [if_pos e]
      refine ⟨by omega, fun _ => ?_, fun _ => by omega⟩
      have : ∀ j, h (k + j) = 0 := by
        intro j
        induction j with
        | zero => exact e
        | succ j ih => exact a (k + j) ih
      exact this _
    · rw [if_neg e]
      exact ⟨by omega, i2⟩
theorem e6_foresee {g colds : Nat → Int32} {ng w N : Nat} {day winter : Int32} (hg : TX g ng) (hw : w < 64) (hN : N ≤ 60) (st : Nat → Int32) : ∃ st', f_X6_foreseeColds (nI w) day 1 g (nI ng) st colds winter (nI N) = some (st', ovF (fun i => clI g ng w (day + nI i) winter) colds N) := by
  have L : ∀ (m k fu : Nat) (st : Nat → Int32), k + m = N → m < fu → ∃ st', f_X6_foreseeColds_L2 (nI w) day 1 g (nI ng) winter (nI N) fu st (ovF (fun i => clI g ng w (day + nI i) winter) colds k) (nI k) = some (st', ovF (fun i => clI g ng w (day + nI i) winter) colds N) := by
    intro m
    induction m with
    | zero =>
      intro k fu st hk hf
      obtain ⟨fu, rfl⟩ : ∃ q, fu = q + 1 := ⟨fu - 1, by omega⟩
      obtain rfl : k = N := by omega
      simp only [f_X6_foreseeColds_L2]
      rw [if_pos (nI_le (Nat.le_refl _) (by omega))]
      exact ⟨_, rfl⟩
    | succ m ih =>
      intro k fu st hk hf
      obtain ⟨fu, rfl⟩ : ∃ q, fu = q + 1 := ⟨fu - 1, by omega⟩
      simp only [f_X6_foreseeColds_L2]
      obtain ⟨s2, e⟩ := e5_cold hg hw (day + nI k) winter st
      have s : upd (ovF (fun i => clI g ng w (day + nI i) winter) colds k) k (clI g ng w (day + nI k) winter) = ovF (fun i => clI g ng w (day + nI i) winter) colds (k + 1) := ov_s
      rw [if_neg (nI_ge (by omega) (by omega)), if_neg (show ¬ (60 : Int32) ≤ nI k from nI_ge (b := 60) (by omega) (by decide)), e, bdE2, wrA_i rfl (by omega), s]
      simp only [nmE, nI_1]
      exact ih (k + 1) fu s2 (by omega) (by omega)
  obtain ⟨st', R⟩ := L N 0 300 st (by omega) (by omega)
  rw [ov_z] at R
  exact ⟨st', R⟩
theorem e7_findsCold {g d ca : Nat → Int32} {ng mo w N : Nat} (hg : TX g ng) (hg2 : TD g ng 1 d) (hl : LD mo w d) (hN : N ≤ 60) (names pile : Nat → Int32) : ∃ names' pile', f_X7_findsCold d names pile ca (nI N) = some (names', pile', ovF (fun i => clI g ng w (d 6 + nI i) (d 5)) ca N) := by
  have L : ∀ (m k fu : Nat) (names pile : Nat → Int32), k + m = N → m < fu → ∃ names' pile', f_X7_findsCold_L2 d (nI N) fu names pile (ovF (fun i => clI g ng w (d 6 + nI i) (d 5)) ca k) (nI k) = some (names', pile', ovF (fun i => clI g ng w (d 6 + nI i) (d 5)) ca N) := by
    intro m
    induction m with
    | zero =>
      intro k fu names pile hk hf
      obtain ⟨fu, rfl⟩ : ∃ q, fu = q + 1 := ⟨fu - 1, by omega⟩
      obtain rfl : k = N := by omega
      simp only [f_X7_findsCold_L2]
      rw [if_pos (nI_le (Nat.le_refl _) (by omega))]
      exact ⟨_, _, rfl⟩
    | succ m ih =>
      intro k fu names pile hk hf
      obtain ⟨fu, rfl⟩ : ∃ q, fu = q + 1 := ⟨fu - 1, by omega⟩
      simp only [f_X7_findsCold_L2]
      obtain ⟨n2, p2, e⟩ := e7_g1 hg hg2 (d 6 + nI k) (d 5) (nI (pcN w)) names pile
      have s : upd (ovF (fun i => clI g ng w (d 6 + nI i) (d 5)) ca k) k (tvI 1 g ng (d 6 + nI k) (d 5) (nI (pcN w))) = ovF (fun i => clI g ng w (d 6 + nI i) (d 5)) ca (k + 1) := ov_s
      rw [if_neg (nI_ge (by omega) (by omega)), rdA_i (i := 6) (k := 6) rfl (by decide), rdA_i (i := 5) (k := 5) rfl (by decide), e7_lawMany hl.2.2.1 hl.1 hl.2.1 hl.2.2.2, bdE1, e, bdE3, wrA_i rfl (by omega), s]
      simp only [nmE, nI_1]
      exact ih (k + 1) fu n2 p2 (by omega) (by omega)
  obtain ⟨n', p', R⟩ := L N 0 300 names pile (by omega) (by omega)
  rw [ov_z] at R
  exact ⟨n', p', R⟩
theorem e6_death {kind mark health f colds cold : Nat → Int32} {nc p N : Nat} {o : Int32} (h : TX f nc) (hp : p < 8) (hk : rg 6 (kind p)) (hN : N ≤ 60) (hc : ∀ k, k < N → colds k = cold k) (st : Nat → Int32) : ∃ st', f_X6_dayOfDeath kind mark health 0 f (nI nc) st colds (nI p) o (nI N) = some (st', nI (fzN (tjI f nc (kind p) (mark p) o cold (health p)) 0 N)) := by
  unfold f_X6_dayOfDeath
  rw [rdA_i rfl hp]
  simp only [jnE]
  have L : ∀ (m k fu : Nat) (st : Nat → Int32), k + m = N → m < fu → ∃ st', f_X6_dayOfDeath_L17 kind mark 0 f (nI nc) colds (nI p) o (nI N) (fun v_now_chill_stack_2 l4_3 => if l4_3 = 0 then some (v_now_chill_stack_2, nI N) else some (v_now_chill_stack_2, nI N + 1)) fu st (tjI f nc (kind p) (mark p) o cold (health p) k) (nI k) = some (st', nI (fzN (tjI f nc (kind p) (mark p) o cold (health p)) k m)) := by
    intro m
    induction m with
    | zero =>
      intro k fu st hk hf
      obtain ⟨fu, rfl⟩ : ∃ q, fu = q + 1 := ⟨fu - 1, by omega⟩
      obtain rfl : k = N := by omega
      simp only [f_X6_dayOfDeath_L17, fzN]
      rw [if_pos (nI_le (Nat.le_refl _) (by omega))]
      split
      · exact ⟨_, rfl⟩
      · exact ⟨_, by rw [nI_1]⟩
    | succ m ih =>
      intro k fu st hk' hf
      obtain ⟨fu, rfl⟩ : ∃ q, fu = q + 1 := ⟨fu - 1, by omega⟩
      simp only [f_X6_dayOfDeath_L17, fzN]
      rw [if_neg (nI_ge (by omega) (by omega)), if_neg (show ¬ (60 : Int32) ≤ nI k from nI_ge (b := 60) (by omega) (by decide))]
      by_cases e : tjI f nc (kind p) (mark p) o cold (health p) k = 0
      · rw [if_pos e, if_pos e]
        exact ⟨_, rfl⟩
      · obtain ⟨s2, e2⟩ := e0_behind (mark := mark) (st := st) (o := o) (hl := tjI f nc (kind p) (mark p) o cold (health p) k) (c := cold k) h hp hk
        rw [if_neg e, if_neg e, rdA_i rfl (by omega), hc k (by omega), e2, bdE2]
        simp only [nmE]
        rw [nI_1 k]
        exact ih (k + 1) fu s2 (by omega) (by omega)
  exact L N 0 300 st (by omega) (by omega)
theorem e6_lasts {kind mark health f colds cold : Nat → Int32} {nc p N : Nat} {o : Int32} (h : TX f nc) (hp : p < 8) (hk : rg 6 (kind p)) (hN : N ≤ 60) (hc : ∀ k, k < N → colds k = cold k) (st : Nat → Int32) : ∃ st', f_X6_lasts kind mark health 0 f (nI nc) st colds (nI p) o (nI N) = some (st', if tjI f nc (kind p) (mark p) o cold (health p) N = 0 then 0 else 1) := by
  unfold f_X6_lasts
  obtain ⟨st', e⟩ := e6_death (o := o) (health := health) h hp hk hN hc st
  rw [e, bdE2]
  obtain ⟨i1, i2⟩ := fz_le (h := tjI f nc (kind p) (mark p) o cold (health p)) (fun j => tj_0) N 0
  rw [Nat.zero_add] at i1 i2
  by_cases z : tjI f nc (kind p) (mark p) o cold (health p) N = 0
  · rw [if_pos (nI_le (i2.mpr z) (by omega)), if_pos z]
    exact ⟨_, rfl⟩
  · have : N < fzN (tjI f nc (kind p) (mark p) o cold (health p)) 0 N := Nat.lt_of_not_le (fun q => z (i2.mp q))
    rw [if_neg (nI_ge this (by omega)), if_neg z]
    exact ⟨_, rfl⟩
theorem e7_lives {kind mark horn brass open_ health f d ca cold : Nat → Int32} {nc p N : Nat} {o : Int32} (H : FW kind mark horn brass open_ health) (D : FD kind mark horn brass open_ health d) (h : TX f nc) (h2 : TD f nc 0 d) (hp : p < 8) (hN : N ≤ 60) (hc : ∀ k, k < N → ca k = cold k) (names pile : Nat → Int32) : ∃ names' pile', f_X7_livesWith d names pile ca (nI p) o (nI N) = some (d, names', pile', if tjI f nc (kind p) (mark p) o cold (health p) N = 0 then 0 else 1) := by
  obtain ⟨a1, a2, a3, a4, a5, a6⟩ := H p hp
  obtain ⟨d1, d2, d3, d4, d5, d6⟩ := D p hp
  unfold f_X7_livesWith
  rw [eo4 hp, eo5 hp, es4 hp]
  simp only [bdE1, jnE]
  -- the state on the way
  have fin : ∀ (v : Int32) (n1 p1 : Nat → Int32), (tjI f nc (kind p) (mark p) o cold (health p) N = 0 ↔ v = 0) → (fun (v_d_4 : Nat → Int32) (v_names_5 : Nat → Int32) (v_pile_6 : Nat → Int32) => bd1 (f_X7_isDead v_d_4 (nI p)) (fun r_7 => if r_7 = 0 then bd1 (f_X7_sets v_d_4 (nI p) 4 (d (14 + 6 * p))) (fun v_d_9 => bd1 (f_X7_sets v_d_9 (nI p) 5 (d (15 + 6 * p))) (fun v_d_10 => bzA 1 (some (v_d_10, v_names_5, v_pile_6, (1 : Int32))))) else bd1 (f_X7_sets v_d_4 (nI p) 4 (d (14 + 6 * p))) (fun v_d_9 => bd1 (f_X7_sets v_d_9 (nI p) 5 (d (15 + 6 * p))) (fun v_d_10 => bzA 0 (some (v_d_10, v_names_5, v_pile_6, (0 : Int32))))))) (upd (upd d (14 + 6 * p) o) (15 + 6 * p) v) n1 p1 = some (d, n1, p1, if tjI f nc (kind p) (mark p) o cold (health p) N = 0 then 0 else 1) := by
    intro v n1 p1 hv
    have back : upd (upd (upd (upd d (14 + 6 * p) o) (15 + 6 * p) v) (14 + 6 * p) (d (14 + 6 * p))) (15 + 6 * p) (d (15 + 6 * p)) = d := by
      funext i
      by_cases x1 : i = 15 + 6 * p
      · rw [x1, upd_s]
      · rw [upd_n x1]
        by_cases x2 : i = 14 + 6 * p
        · rw [x2, upd_s]
        · rw [upd_n x2, upd_n x1, upd_n x2]
    show bd1 (f_X7_isDead (upd (upd d (14 + 6 * p) o) (15 + 6 * p) v) (nI p)) _ = _
    rw [e7_dead hp, upd_s, bdE1, es4 hp, bdE1, es5 hp, bdE1, back, bdE1, es5 hp, bdE1, back]
    by_cases z : v = 0
    · rw [if_pos z, if_pos (hv.mpr z), if_neg (by decide)]
      rfl
    · rw [if_neg z, if_neg (fun q => z (hv.mp q)), if_pos rfl]
      rfl
  generalize hJ : (fun (v_d_4 : Nat → Int32) (v_names_5 : Nat → Int32) (v_pile_6 : Nat → Int32) => bd1 (f_X7_isDead v_d_4 (nI p)) (fun r_7 => if r_7 = 0 then bd1 (f_X7_sets v_d_4 (nI p) 4 (d (14 + 6 * p))) (fun v_d_9 => bd1 (f_X7_sets v_d_9 (nI p) 5 (d (15 + 6 * p))) (fun v_d_10 => bzA 1 (some (v_d_10, v_names_5, v_pile_6, (1 : Int32))))) else bd1 (f_X7_sets v_d_4 (nI p) 4 (d (14 + 6 * p))) (fun v_d_9 => bd1 (f_X7_sets v_d_9 (nI p) 5 (d (15 + 6 * p))) (fun v_d_10 => bzA 0 (some (v_d_10, v_names_5, v_pile_6, (0 : Int32))))))) = J at fin ⊢
  have st : ∀ v, (upd (upd d (14 + 6 * p) o) (15 + 6 * p) v) (10 + 6 * p) = kind p ∧ (upd (upd d (14 + 6 * p) o) (15 + 6 * p) v) (11 + 6 * p) = mark p ∧ (upd (upd d (14 + 6 * p) o) (15 + 6 * p) v) (14 + 6 * p) = o ∧ (upd (upd d (14 + 6 * p) o) (15 + 6 * p) v) (15 + 6 * p) = v := by
    intro v
    refine ⟨?_, ?_, ?_, upd_s⟩
    · rw [upd_n (by omega), upd_n (by omega)]; exact d1
    · rw [upd_n (by omega), upd_n (by omega)]; exact d2
    · rw [upd_n (by omega), upd_s]
  have L : ∀ (m k fu : Nat) (names pile : Nat → Int32), k + m = N → m < fu → ∃ names' pile', f_X7_livesWith_L26 ca (nI p) (nI N) J fu (upd (upd d (14 + 6 * p) o) (15 + 6 * p) (tjI f nc (kind p) (mark p) o cold (health p) k)) names pile (nI k) = some (d, names', pile', if tjI f nc (kind p) (mark p) o cold (health p) N = 0 then 0 else 1) := by
    intro m
    induction m with
    | zero =>
      intro k fu names pile hk hf
      obtain ⟨fu, rfl⟩ : ∃ q, fu = q + 1 := ⟨fu - 1, by omega⟩
      obtain rfl : k = N := by omega
      simp only [f_X7_livesWith_L26]
      rw [if_pos (nI_le (Nat.le_refl _) (by omega))]
      exact ⟨_, _, fin _ _ _ Iff.rfl⟩
    | succ m ih =>
      intro k fu names pile hk hf
      obtain ⟨fu, rfl⟩ : ∃ q, fu = q + 1 := ⟨fu - 1, by omega⟩
      obtain ⟨t1, t2, t3, t4⟩ := st (tjI f nc (kind p) (mark p) o cold (health p) k)
      have again : ∀ v, upd (upd (upd d (14 + 6 * p) o) (15 + 6 * p) (tjI f nc (kind p) (mark p) o cold (health p) k)) (15 + 6 * p) v = upd (upd d (14 + 6 * p) o) (15 + 6 * p) v := by
        intro v
        funext i
        by_cases x1 : i = 15 + 6 * p
        · rw [x1, upd_s, upd_s]
        · rw [upd_n x1, upd_n x1, upd_n x1]
      have TR := tj_rg (f := f) (nc := nc) (o := o) (cold := cold) a1 a2 a6 k
      simp only [f_X7_livesWith_L26]
      rw [if_neg (nI_ge (by omega) (by omega)), e7_dead hp, t4, bdE1]
      by_cases z : tjI f nc (kind p) (mark p) o cold (health p) k = 0
      · rw [if_pos z, if_neg (by decide)]
        refine ⟨_, _, fin _ _ _ ?_⟩
        have : ∀ j, tjI f nc (kind p) (mark p) o cold (health p) (k + j) = 0 := by
          intro j
          induction j with
          | zero => exact z
          | succ j ih => exact tj_0 ih
        have e : N = k + (m + 1) := by omega
        exact ⟨fun _ => z, fun _ => by rw [e]; exact this _⟩
      · rw [if_neg z, if_pos rfl, rdA_i rfl (by omega), hc k (by omega)]
        simp only [jnE, nmE, nI_1]
        by_cases y : cold k = 0
        · rw [if_pos y, eo5 hp, bdE1, t4, nx_w (f := f) (n := nc) (k := kind p) (m := mark p) (o := o) TR z y, bdE1, es5 hp, bdE1, again]
          exact ih (k + 1) fu names pile (by omega) (by omega)
        · rw [if_neg y, rdA_i rfl (by omega), hc k (by omega)]
          obtain ⟨n1, p1, e⟩ := e7_ch (c := cold k) (p := p) (d := upd (upd d (14 + 6 * p) o) (15 + 6 * p) (tjI f nc (kind p) (mark p) o cold (health p) k)) h (h2.frame (fun i hi => by rw [upd_n (by omega), upd_n (by omega)])) hp (by rw [t1]; exact a1) (by rw [t2]; exact a2) names pile
          rw [e, bdE3, eo5 hp, bdE1, t1, t2, t3, t4, nx_c a1 a2 TR z y, bdE1, es5 hp, bdE1, again]
          exact ih (k + 1) fu n1 p1 (by omega) (by omega)
  have s0 : upd d (14 + 6 * p) o = upd (upd d (14 + 6 * p) o) (15 + 6 * p) (tjI f nc (kind p) (mark p) o cold (health p) 0) := by
    funext i
    by_cases x1 : i = 15 + 6 * p
    · rw [x1, upd_s, upd_n (by omega), d6]
      rfl
    · rw [upd_n x1]
  rw [s0]
  exact L N 0 300 names pile (by omega) (by omega)
