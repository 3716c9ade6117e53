theorem e3_loop {f : Nat → Int32} {n : Nat} {a b c : Int32} (hn : n ≤ 50) (hd : ∀ k, k < n → ∃ y, Cd (f k) y) (hc : cdepth f n = some 1) : ∀ (m k t : Nat) (st : Nat → Int32) (fu : Nat), k + m = n → m < fu → cdepth f k = some t → Ag t st (sv f a b c k).2 → ∃ st', f_X3_workOut_L6 f (nI n) a b c fu st (nI t) (nI k) = some (st', (sv f a b c n).2 0) := by
  intro m
  induction m with
  | zero =>
    intro k t st fu hk hf ht hA
    obtain ⟨fu, rfl⟩ : ∃ q, fu = q + 1 := ⟨fu - 1, by omega⟩
    obtain rfl : k = n := by omega
    rw [hc] at ht
    cases ht
    simp only [f_X3_workOut_L6]
    rw [if_pos (nI_le (Nat.le_refl _) (by omega)), rdA_i (i := 0) (k := 0) rfl (by decide), hA 0 (by decide)]
    exact ⟨_, rfl⟩
  | succ m ih =>
    intro k t st fu hk hf ht hA
    obtain ⟨fu, rfl⟩ : ∃ q, fu = q + 1 := ⟨fu - 1, by omega⟩
    obtain ⟨t0, h0, h1⟩ := cd_pre hc k (by omega)
    rw [ht] at h0
    cases h0
    obtain ⟨t', h2, h3⟩ := cd_pre hc (k + 1) (by omega)
    have hs := sv_top (a := a) (b := b) (c := c) ht
    have h4 : cdp (f k) t = some t' := by
      have := h2
      simp only [cdepth, ht, Option.bind_some] at this
      exact this
    have go : ∀ st', Ag t' st' (sv f a b c (k + 1)).2 → ∃ st'', f_X3_workOut_L6 f (nI n) a b c fu st' (nI t') (nI (k + 1)) = some (st'', (sv f a b c n).2 0) := fun st' hA' => ih (k + 1) t' st' fu (by omega) (by omega) h2 hA'
    have hpush : -3 ≤ f k → t' = t + 1 ∧ (sv f a b c (k + 1)).2 = upd (sv f a b c k).2 t (vlI a b c (f k)) := by
      intro e
      unfold cdp at h4
      rw [if_pos e] at h4
      refine ⟨by simpa using h4.symm, ?_⟩
      simp only [sv, svS]
      rw [if_pos e, hs]
    simp only [f_X3_workOut_L6]
    rw [if_neg (nI_ge (by omega) (by omega)), rdA_i rfl (by omega)]
    simp only [jnE, nmE, nI_1]
    obtain ⟨y, hy⟩ := hd k (by omega)
    rcases hy with ⟨v, hv, hx, -⟩ | ⟨hx, -⟩ | ⟨hx, -⟩ | ⟨hx, -⟩ | ⟨g, hg, hx, -⟩
    · obtain ⟨q1, q2, q3, q4, q5⟩ := num_neg hv
      obtain ⟨p1, p2⟩ := hpush (by rw [hx]; exact q2)
      subst p1
      rw [hx, if_neg q1, if_pos (show nI t < (50 : Int32) from nI_lt (b := 50) (by omega) (by decide)), if_neg q3, if_neg q4, if_neg q5, wrA_i rfl (by omega)]
      refine go _ ?_
      rw [p2, hx]
      unfold vlI
      rw [if_neg q3, if_neg q4, if_neg q5]
      exact agu hA (by omega)
    · obtain ⟨p1, p2⟩ := hpush (by rw [hx]; decide)
      subst p1
      rw [hx, if_neg (by decide), if_pos (show nI t < (50 : Int32) from nI_lt (b := 50) (by omega) (by decide)), if_pos rfl, wrA_i rfl (by omega)]
      refine go _ ?_
      rw [p2, hx]
      exact agu hA (by omega)
    · obtain ⟨p1, p2⟩ := hpush (by rw [hx]; decide)
      subst p1
      rw [hx, if_neg (by decide), if_pos (show nI t < (50 : Int32) from nI_lt (b := 50) (by omega) (by decide)), if_neg (by decide), if_pos rfl, wrA_i rfl (by omega)]
      refine go _ ?_
      rw [p2, hx]
      exact agu hA (by omega)
    · obtain ⟨p1, p2⟩ := hpush (by rw [hx]; decide)
      subst p1
      rw [hx, if_neg (by decide), if_pos (show nI t < (50 : Int32) from nI_lt (b := 50) (by omega) (by decide)), if_neg (by decide), if_neg (by decide), if_pos rfl, wrA_i rfl (by omega)]
      refine go _ ?_
      rw [p2, hx]
      exact agu hA (by omega)
    · rcases SG_of hg with rfl | hg
      · have e : f k = -33 := hx
        unfold cdp at h4
        rw [if_neg (by rw [e]; decide), if_pos e] at h4
        split at h4
        · next ht1 =>
          cases h4
          have p2 : (sv f a b c (k + 1)).2 = upd (sv f a b c k).2 (t - 1) (if (sv f a b c k).2 (t - 1) = 0 then 1 else 0) := by
            simp only [sv, svS]
            rw [if_neg (by rw [e]; decide), if_pos e, hs]
          obtain ⟨q, rfl⟩ : ∃ q, t = q + 1 := ⟨t - 1, by omega⟩
          rw [e, if_pos (by decide), if_pos rfl, if_neg (show ¬ nI (q + 1) < (1 : Int32) from nI_nlt (b := 1) (by omega) (by omega)), rdA_i (nI_pred q) (by omega), hA q (by omega)]
          rw [Nat.add_sub_cancel] at p2
          by_cases z : (sv f a b c k).2 q = 0
          · rw [if_pos z, wrA_i (nI_pred q) (by omega)]
            rw [if_pos z] at p2
            refine go _ ?_
            rw [p2]
            exact agu hA (by omega)
          · rw [if_neg z, wrA_i (nI_pred q) (by omega)]
            rw [if_neg z] at p2
            refine go _ ?_
            rw [p2]
            exact agu hA (by omega)
        · cases h4
      · obtain ⟨g1, g2, g3⟩ := SG_neg hg
        unfold cdp at h4
        rw [hx, if_neg g3, if_neg g2] at h4
        split at h4
        · next ht2 =>
          cases h4
          have p2 : (sv f a b c (k + 1)).2 = upd (sv f a b c k).2 (t - 2) (apI (nI g) ((sv f a b c k).2 (t - 2)) ((sv f a b c k).2 (t - 1))) := by
            simp only [sv, svS]
            rw [hx, if_neg g3, if_neg g2, hs, negneg]
          obtain ⟨q, rfl⟩ : ∃ q, t = q + 2 := ⟨t - 2, by omega⟩
          rw [hx, if_pos g1, if_neg g2, if_neg (show ¬ nI (q + 2) < (2 : Int32) from nI_nlt (b := 2) (by omega) (by omega)), pk_m1 (q + 1), nI_pred q, rdA_i rfl (by omega), rdA_i rfl (by omega), negneg, ap3 hg, bdE1, wrA_i rfl (by omega), hA q (by omega), hA (q + 1) (by omega)]
          refine go _ ?_
          rw [p2]
          exact agu hA (by omega)
        · cases h4
