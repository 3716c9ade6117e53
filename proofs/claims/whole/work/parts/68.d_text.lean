theorem n7 {v : Nat} (h : v ≤ 9999) : ¬ 20000 ≤ nI v ∧ ¬ 10000 ≤ nI v := by
  have e : (nI v).toInt = v := nI_toInt (by omega)
  refine ⟨?_, ?_⟩
  · rw [Int32.le_iff_toInt_le, e]; show ¬ (20000 : Int) ≤ v; omega
  · rw [Int32.le_iff_toInt_le, e]; show ¬ (10000 : Int) ≤ v; omega
theorem SG_7 {g : Nat} (h : SG g) : 20000 ≤ nI (20000 + g) ∧ ¬ nI (20000 + g) = 20033 ∧ nI (20000 + g) - 20000 = nI g := by
  rcases h with rfl | rfl | rfl | rfl | rfl | rfl | rfl | rfl | rfl | rfl <;> exact ⟨by decide, by decide, by decide⟩
theorem e7_loop {f d names : Nat → Int32} {n base : Nat} {a b c : Int32} (hn : n ≤ 50) (hb : base + n ≤ 248) (hd : ∀ k, k < n → Cd (f k) (d (base + k))) (hN : names 0 = a ∧ names 1 = b ∧ names 2 = c) (hc : cdepth f n = some 1) : ∀ (m k t : Nat) (st : Nat → Int32) (fu : Nat), k + m = n → m < fu → cdepth f k = some t → Ag t st (sv f a b c k).2 → ∃ st', f_X7_worked_L5 d names (nI base) (nI n) fu st (nI t) (nI (base + k)) = some (st', (sv f a b c n).2 0) := by
  intro m
  induction m with
  | zero =>
    intro k t st fu hk hf ht hA
    obtain ⟨fu, rfl⟩ : ∃ q, fu = q + 1 := ⟨fu - 1, by omega⟩
    obtain rfl : k = n := by omega
    rw [hc] at ht
    cases ht
    simp only [f_X7_worked_L5, nI_add]
    rw [if_pos (nI_le (Nat.le_refl _) (by omega)), rdA_i (i := 0) (k := 0) rfl (by decide), hA 0 (by decide)]
    exact ⟨_, rfl⟩
  | succ m ih =>
    intro k t st fu hk hf ht hA
    obtain ⟨fu, rfl⟩ : ∃ q, fu = q + 1 := ⟨fu - 1, by omega⟩
    obtain ⟨t0, h0, h1⟩ := cd_pre hc k (by omega)
    rw [ht] at h0
    cases h0
    obtain ⟨t', h2, h3⟩ := cd_pre hc (k + 1) (by omega)
    have hs := sv_top (a := a) (b := b) (c := c) ht
    have h4 : cdp (f k) t = some t' := by
      have := h2
      simp only [cdepth, ht, Option.bind_some] at this
      exact this
    have go : ∀ st', Ag t' st' (sv f a b c (k + 1)).2 → ∃ st'', f_X7_worked_L5 d names (nI base) (nI n) fu st' (nI t') (nI (base + k + 1)) = some (st'', (sv f a b c n).2 0) := fun st' hA' => ih (k + 1) t' st' fu (by omega) (by omega) h2 hA'
    have hpush : -3 ≤ f k → t' = t + 1 ∧ (sv f a b c (k + 1)).2 = upd (sv f a b c k).2 t (vlI a b c (f k)) := by
      intro e
      unfold cdp at h4
      rw [if_pos e] at h4
      refine ⟨by simpa using h4.symm, ?_⟩
      simp only [sv, svS]
      rw [if_pos e, hs]
    simp only [f_X7_worked_L5]
    rw [nI_add, if_neg (nI_ge (by omega) (by omega)), rdA_i rfl (by omega)]
    simp only [jnE, nmE, nI_1]
    rcases hd k (by omega) with ⟨v, hv, hx, hy⟩ | ⟨hx, hy⟩ | ⟨hx, hy⟩ | ⟨hx, hy⟩ | ⟨g, hg, hx, hy⟩
    · obtain ⟨q1, q2, q3, q4, q5⟩ := num_neg hv
      obtain ⟨p1, p2⟩ := hpush (by rw [hx]; exact q2)
      subst p1
      obtain ⟨r1, r2⟩ := n7 hv
      rw [hy, if_neg r1, if_neg r2, wrA_i rfl (by omega)]
      refine go _ ?_
      rw [p2, hx]
      unfold vlI
      rw [if_neg q3, if_neg q4, if_neg q5]
      exact agu hA (by omega)
    · obtain ⟨p1, p2⟩ := hpush (by rw [hx]; decide)
      subst p1
      rw [hy, if_neg (by decide), if_pos (by decide), rdA_i (i := (10000 - 10000)) (k := 0) (by decide) (by decide), hN.1, wrA_i rfl (by omega)]
      refine go _ ?_
      rw [p2, hx]
      exact agu hA (by omega)
    · obtain ⟨p1, p2⟩ := hpush (by rw [hx]; decide)
      subst p1
      rw [hy, if_neg (by decide), if_pos (by decide), rdA_i (i := (10001 - 10000)) (k := 1) (by decide) (by decide), hN.2.1, wrA_i rfl (by omega)]
      refine go _ ?_
      rw [p2, hx]
      exact agu hA (by omega)
    · obtain ⟨p1, p2⟩ := hpush (by rw [hx]; decide)
      subst p1
      rw [hy, if_neg (by decide), if_pos (by decide), rdA_i (i := (10002 - 10000)) (k := 2) (by decide) (by decide), hN.2.2, wrA_i rfl (by omega)]
      refine go _ ?_
      rw [p2, hx]
      exact agu hA (by omega)
    · rcases SG_of hg with rfl | hg
      · have e : f k = -33 := hx
        unfold cdp at h4
        rw [if_neg (by rw [e]; decide), if_pos e] at h4
        split at h4
        · next ht1 =>
          cases h4
          have p2 : (sv f a b c (k + 1)).2 = upd (sv f a b c k).2 (t - 1) (if (sv f a b c k).2 (t - 1) = 0 then 1 else 0) := by
            simp only [sv, svS]
            rw [if_neg (by rw [e]; decide), if_pos e, hs]
          obtain ⟨q, rfl⟩ : ∃ q, t = q + 1 := ⟨t - 1, by omega⟩
          rw [hy, if_pos (by decide), if_pos (by decide), rdA_i (nI_pred q) (by omega), hA q (by omega)]
          rw [Nat.add_sub_cancel] at p2
          by_cases z : (sv f a b c k).2 q = 0
          · rw [if_pos z, wrA_i (nI_pred q) (by omega)]
            rw [if_pos z] at p2
            refine go _ ?_
            rw [p2]
            exact agu hA (by omega)
          · rw [if_neg z, wrA_i (nI_pred q) (by omega)]
            rw [if_neg z] at p2
            refine go _ ?_
            rw [p2]
            exact agu hA (by omega)
        · cases h4
      · obtain ⟨g1, g2, g3⟩ := SG_neg hg
        obtain ⟨r1, r2, r3⟩ := SG_7 hg
        unfold cdp at h4
        rw [hx, if_neg g3, if_neg g2] at h4
        split at h4
        · next ht2 =>
          cases h4
          have p2 : (sv f a b c (k + 1)).2 = upd (sv f a b c k).2 (t - 2) (apI (nI g) ((sv f a b c k).2 (t - 2)) ((sv f a b c k).2 (t - 1))) := by
            simp only [sv, svS]
            rw [hx, if_neg g3, if_neg g2, hs, negneg]
          obtain ⟨q, rfl⟩ : ∃ q, t = q + 2 := ⟨t - 2, by omega⟩
          rw [hy, if_pos r1, if_neg r2, pk_m1 (q + 1), nI_pred q, rdA_i rfl (by omega), rdA_i rfl (by omega), r3, ap7 hg, bdE1, wrA_i rfl (by omega), hA q (by omega), hA (q + 1) (by omega)]
          refine go _ ?_
          rw [p2]
          exact agu hA (by omega)
        · cases h4
theorem e7_held99 (v : Int32) : f_X7_held v 0 99 = some (maxI 0 (minI 99 v)) := by
  unfold f_X7_held maxI minI
  simp only [Int32.lt_iff_toInt_lt, Int32.le_iff_toInt_le, show (0 : Int32).toInt = 0 from rfl, show (99 : Int32).toInt = 99 from rfl]
  by_cases h1 : 0 ≤ v.toInt
  · rw [if_pos h1]
    by_cases h2 : v.toInt ≤ 99
    · rw [if_pos h2]
      by_cases h3 : v.toInt < 99
      · rw [if_pos h3]
        by_cases h4 : 0 < v.toInt
        · rw [if_pos h4]
        · rw [if_neg h4]
          exact congrArg some (Int32.toInt_inj.mp (show v.toInt = 0 by omega))
      · rw [if_neg h3, if_pos (by decide)]
        exact congrArg some (Int32.toInt_inj.mp (show v.toInt = 99 by omega))
    · rw [if_neg h2, if_neg (show ¬ v.toInt < 99 by omega), if_pos (show (0 : Int) < (99 : Int32).toInt by decide)]
  · rw [if_neg h1, if_pos (show v.toInt < 99 by omega), if_neg (show ¬ 0 < v.toInt by omega)]
theorem e7_text {f d : Nat → Int32} {n u : Nat} {a b c : Int32} (hu2 : u ≤ 1) (hs : d (76 + u) = nI n) (hn : n ≤ 50) (hd : ∀ k, k < n → Cd (f k) (d (98 + 50 * u + k))) (hc : n = 0 ∨ cdepth f n = some 1) (names pile : Nat → Int32) : ∃ names' pile', f_X7_textGives d names pile (nI u) a b c = some (names', pile', tvI u f n a b c) := by
  unfold f_X7_textGives tvI
  simp only [jnE]
  have i1 : (76 : Int32) + nI u = nI (76 + u) := nI_add 76 u
  have i2 : (98 : Int32) + 50 * nI u = nI (98 + 50 * u) := by
    rw [show (98 : Int32) = nI 98 from rfl, show (50 : Int32) = nI 50 from rfl, pk_mul, nI_add]
  have main : ∀ w : Int32, (n = 0 → w = if u = 0 then a * b / 2 else b) → ∃ names' pile', (rdA 248 d (76 + nI u) fun x_2 => if x_2 ≤ 0 then bd1 (f_X7_held w 0 99) fun r_6 => some (names, pile, r_6) else wrA 3 names 0 a fun v_names_7 => wrA 3 v_names_7 1 b fun v_names_8 => wrA 3 v_names_8 2 c fun v_names_9 => rdA 248 d (76 + nI u) fun x_10 => bd2 (f_X7_worked d v_names_9 pile (98 + 50 * nI u) x_10) fun v_pile_11 r_12 => bd1 (f_X7_held r_12 0 99) fun r_6 => some (v_names_9, v_pile_11, r_6)) = some (names', pile', maxI 0 (minI 99 (if n = 0 then (if u = 0 then a * b / 2 else b) else (sv f a b c n).2 0))) := by
    intro w hw
    rw [rdA_i i1 (by omega), hs]
    by_cases h0 : n = 0
    · rw [if_pos h0, h0, if_pos (show nI 0 ≤ (0 : Int32) by decide), e7_held99, bdE1, hw h0]
      exact ⟨_, _, rfl⟩
    · rw [if_neg h0, if_neg (nI_nle (by omega) (by omega)), wrA_i (i := 0) (k := 0) rfl (by decide), wrA_i (i := 1) (k := 1) rfl (by decide), wrA_i (i := 2) (k := 2) rfl (by decide), rdA_i i1 (by omega), hs, i2]
      unfold f_X7_worked
      obtain ⟨st', h⟩ := e7_loop (names := upd (upd (upd names 0 a) 1 b) 2 c) (a := a) (b := b) (c := c) hn (show 98 + 50 * u + n ≤ 248 by omega) hd ⟨by rw [upd_n (by decide), upd_n (by decide), upd_s], by rw [upd_n (by decide), upd_s], upd_s⟩ (hc.resolve_left h0) n 0 0 pile 300 (by omega) (by omega) rfl (fun i hi => absurd hi (by omega))
      have h' : f_X7_worked_L5 d (upd (upd (upd names 0 a) 1 b) 2 c) (nI (98 + 50 * u)) (nI n) 300 pile 0 (nI (98 + 50 * u)) = some (st', (sv f a b c n).2 0) := h
      rw [h', bdE2, e7_held99, bdE1]
      exact ⟨_, _, rfl⟩
  by_cases hu : u = 0
  · have e : nI u = 0 := by rw [hu]; rfl
    rw [if_pos e, nzA_k (by decide)]
    exact main _ (fun _ => by rw [if_pos hu])
  · have e : ¬ nI u = 0 := nI_ne0 (by omega) (by omega)
    rw [if_neg e]
    exact main _ (fun _ => by rw [if_neg hu])
theorem e3_gives {use : Int32} {u : Nat} {f : Nat → Int32} {size : Int32} {n : Nat} {a b c : Int32} (hu : use = nI u) (hu2 : u ≤ 1) (hs : size = nI n) (hn : n ≤ 50) (hd : ∀ k, k < n → ∃ y, Cd (f k) y) (hc : n = 0 ∨ cdepth f n = some 1) (st : Nat → Int32) : ∃ st', f_X3_gives use f size st a b c = some (st', tvI u f n a b c) := by
  unfold f_X3_gives tvI
  simp only [jnE]
  subst hs
  subst hu
  by_cases h0 : n = 0
  · subst h0
    rw [if_pos (show nI 0 ≤ (0 : Int32) by decide), if_pos rfl]
    rcases (show u = 0 ∨ u = 1 by omega) with rfl | rfl
    · rw [if_pos (show nI 0 = (0 : Int32) from rfl), if_pos rfl]
      exact ⟨_, rfl⟩
    · rw [if_neg (show ¬ nI 1 = (0 : Int32) by decide), if_neg (by decide)]
      exact ⟨_, rfl⟩
  · rw [if_neg (nI_nle (by omega) (by omega)), if_neg h0]
    unfold f_X3_workOut
    obtain ⟨st', h⟩ := e3_loop (a := a) (b := b) (c := c) hn hd (hc.resolve_left h0) n 0 0 st 300 (by omega) (by omega) rfl (fun i hi => absurd hi (by omega))
    have h' : f_X3_workOut_L6 f (nI n) a b c 300 st 0 0 = some (st', (sv f a b c n).2 0) := h
    rw [h', bdE2]
    exact ⟨_, rfl⟩
