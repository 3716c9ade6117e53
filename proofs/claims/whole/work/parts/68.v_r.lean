/-! voices -/
theorem nt_ran {t : Nat → Int32} {c b : Int32} : f_X4_note t c b = f_X7_ran t c b := rfl
theorem bd3_id {α1 α2 α3 : Type} {x : Option (α1 × α2 × α3)} : bd3 x (fun a b c => some (a, b, c)) = x := by
  rcases x with _ | ⟨a, b, c⟩ <;> rfl
/-- the body that is found -/
def fbR : Nat → Int32 → Int32 → Int32 → Option (Option Int32)
  | 0, _, _, _ => none
  | k + 1, a, l5, l6 => if 7 ≤ l6 then some none else if l5 < 0 then some none else rdA 28 s_BODIES (4 * l5 + a) (fun x => if x = 0 then rdA 7 s_ABOVE l5 (fun y => fbR k a y (l6 + 1)) else some (some x))
theorem bg_L {t : Nat → Int32} {c p1 p3 : Int32} {J : Int32 → Option ((Nat → Int32) × (Int32) × (Int32))} (h : ¬ 20 ≤ p3) : ∀ (fu : Nat) (l5 l6 : Int32), f_X4_beginB_L6 t c p1 p3 J fu l5 l6 = (fbR fu p1 l5 l6).bind (fun o => o.elim (some (t, c, 0)) J) := by
  intro fu
  induction fu with
  | zero => intro l5 l6; rfl
  | succ fu ih =>
    intro l5 l6
    simp only [f_X4_beginB_L6, fbR, jnE, nmE]
    by_cases h1 : 7 ≤ l6
    · rw [if_pos h1, if_pos h1]; rfl
    · rw [if_neg h1, if_neg h1]
      by_cases h2 : l5 < 0
      · rw [if_pos h2, if_pos h2]; rfl
      · rw [if_neg h2, if_neg h2]
        unfold rdA
        by_cases h3 : inb (4 * l5 + p1) 28 = true
        · rw [if_pos h3, if_pos h3]
          dsimp only
          by_cases h4 : s_BODIES (4 * l5 + p1).toNatClampNeg = 0
          · rw [if_pos h4, if_pos h4]
            by_cases h5 : inb l5 7 = true
            · rw [if_pos h5, if_pos h5]
              exact ih _ _
            · rw [if_neg h5, if_neg h5]; rfl
          · rw [if_neg h4, if_neg h4, if_neg h]; rfl
        · rw [if_neg h3, if_neg h3]; rfl
theorem bg {F D : Nat} {t : Nat → Int32} {c K m n x b j a : Int32} (hb : fbR 300 a j 0 = some (some b)) (hD : D < 20) : g_X4_begin (F + 1) t c K m n j a x (nI D) = bd2 (f_X7_ran t c b) (fun t c => f_X4_run (g_X4_begin F) t c K m n b x (nI (D + 1))) := by
  show f_X4_beginB (g_X4_begin F) t c K m n j a x (nI D) = _
  unfold f_X4_beginB
  simp only [jnE]
  rw [bg_L (show ¬ (20 : Int32) ≤ nI D from nI_ge (b := 20) hD (by decide)), hb]
  show bd2 (f_X4_note t c b) (fun t c => bd3 (f_X4_run (g_X4_begin F) t c K m n b x (nI D + 1)) (fun a b c => some (a, b, c))) = _
  simp only [bd3_id, nI_1, nt_ran]
theorem bg_0_0 {F D : Nat} {t : Nat → Int32} {c K m n x : Int32} (hD : D < 20) : g_X4_begin (F + 1) t c K m n 0 0 x (nI D) = bd2 (f_X7_ran t c 10) (fun t c => f_X4_run (g_X4_begin F) t c K m n 10 x (nI (D + 1))) := bg (by decide +kernel) hD
theorem bg_0_1 {F D : Nat} {t : Nat → Int32} {c K m n x : Int32} (hD : D < 20) : g_X4_begin (F + 1) t c K m n 0 1 x (nI D) = bd2 (f_X7_ran t c 11) (fun t c => f_X4_run (g_X4_begin F) t c K m n 11 x (nI (D + 1))) := bg (by decide +kernel) hD
theorem bg_0_2 {F D : Nat} {t : Nat → Int32} {c K m n x : Int32} (hD : D < 20) : g_X4_begin (F + 1) t c K m n 0 2 x (nI D) = bd2 (f_X7_ran t c 12) (fun t c => f_X4_run (g_X4_begin F) t c K m n 12 x (nI (D + 1))) := bg (by decide +kernel) hD
theorem bg_0_3 {F D : Nat} {t : Nat → Int32} {c K m n x : Int32} (hD : D < 20) : g_X4_begin (F + 1) t c K m n 0 3 x (nI D) = bd2 (f_X7_ran t c 13) (fun t c => f_X4_run (g_X4_begin F) t c K m n 13 x (nI (D + 1))) := bg (by decide +kernel) hD
theorem bg_1_0 {F D : Nat} {t : Nat → Int32} {c K m n x : Int32} (hD : D < 20) : g_X4_begin (F + 1) t c K m n 1 0 x (nI D) = bd2 (f_X7_ran t c 10) (fun t c => f_X4_run (g_X4_begin F) t c K m n 10 x (nI (D + 1))) := bg (by decide +kernel) hD
theorem bg_1_1 {F D : Nat} {t : Nat → Int32} {c K m n x : Int32} (hD : D < 20) : g_X4_begin (F + 1) t c K m n 1 1 x (nI D) = bd2 (f_X7_ran t c 11) (fun t c => f_X4_run (g_X4_begin F) t c K m n 11 x (nI (D + 1))) := bg (by decide +kernel) hD
theorem bg_1_2 {F D : Nat} {t : Nat → Int32} {c K m n x : Int32} (hD : D < 20) : g_X4_begin (F + 1) t c K m n 1 2 x (nI D) = bd2 (f_X7_ran t c 20) (fun t c => f_X4_run (g_X4_begin F) t c K m n 20 x (nI (D + 1))) := bg (by decide +kernel) hD
theorem bg_1_3 {F D : Nat} {t : Nat → Int32} {c K m n x : Int32} (hD : D < 20) : g_X4_begin (F + 1) t c K m n 1 3 x (nI D) = bd2 (f_X7_ran t c 13) (fun t c => f_X4_run (g_X4_begin F) t c K m n 13 x (nI (D + 1))) := bg (by decide +kernel) hD
theorem bg_2_0 {F D : Nat} {t : Nat → Int32} {c K m n x : Int32} (hD : D < 20) : g_X4_begin (F + 1) t c K m n 2 0 x (nI D) = bd2 (f_X7_ran t c 30) (fun t c => f_X4_run (g_X4_begin F) t c K m n 30 x (nI (D + 1))) := bg (by decide +kernel) hD
theorem bg_2_1 {F D : Nat} {t : Nat → Int32} {c K m n x : Int32} (hD : D < 20) : g_X4_begin (F + 1) t c K m n 2 1 x (nI D) = bd2 (f_X7_ran t c 11) (fun t c => f_X4_run (g_X4_begin F) t c K m n 11 x (nI (D + 1))) := bg (by decide +kernel) hD
theorem bg_2_2 {F D : Nat} {t : Nat → Int32} {c K m n x : Int32} (hD : D < 20) : g_X4_begin (F + 1) t c K m n 2 2 x (nI D) = bd2 (f_X7_ran t c 12) (fun t c => f_X4_run (g_X4_begin F) t c K m n 12 x (nI (D + 1))) := bg (by decide +kernel) hD
theorem bg_2_3 {F D : Nat} {t : Nat → Int32} {c K m n x : Int32} (hD : D < 20) : g_X4_begin (F + 1) t c K m n 2 3 x (nI D) = bd2 (f_X7_ran t c 13) (fun t c => f_X4_run (g_X4_begin F) t c K m n 13 x (nI (D + 1))) := bg (by decide +kernel) hD
theorem bg_3_0 {F D : Nat} {t : Nat → Int32} {c K m n x : Int32} (hD : D < 20) : g_X4_begin (F + 1) t c K m n 3 0 x (nI D) = bd2 (f_X7_ran t c 10) (fun t c => f_X4_run (g_X4_begin F) t c K m n 10 x (nI (D + 1))) := bg (by decide +kernel) hD
theorem bg_3_1 {F D : Nat} {t : Nat → Int32} {c K m n x : Int32} (hD : D < 20) : g_X4_begin (F + 1) t c K m n 3 1 x (nI D) = bd2 (f_X7_ran t c 40) (fun t c => f_X4_run (g_X4_begin F) t c K m n 40 x (nI (D + 1))) := bg (by decide +kernel) hD
theorem bg_3_2 {F D : Nat} {t : Nat → Int32} {c K m n x : Int32} (hD : D < 20) : g_X4_begin (F + 1) t c K m n 3 2 x (nI D) = bd2 (f_X7_ran t c 12) (fun t c => f_X4_run (g_X4_begin F) t c K m n 12 x (nI (D + 1))) := bg (by decide +kernel) hD
theorem bg_3_3 {F D : Nat} {t : Nat → Int32} {c K m n x : Int32} (hD : D < 20) : g_X4_begin (F + 1) t c K m n 3 3 x (nI D) = bd2 (f_X7_ran t c 13) (fun t c => f_X4_run (g_X4_begin F) t c K m n 13 x (nI (D + 1))) := bg (by decide +kernel) hD
theorem bg_4_0 {F D : Nat} {t : Nat → Int32} {c K m n x : Int32} (hD : D < 20) : g_X4_begin (F + 1) t c K m n 4 0 x (nI D) = bd2 (f_X7_ran t c 10) (fun t c => f_X4_run (g_X4_begin F) t c K m n 10 x (nI (D + 1))) := bg (by decide +kernel) hD
theorem bg_4_1 {F D : Nat} {t : Nat → Int32} {c K m n x : Int32} (hD : D < 20) : g_X4_begin (F + 1) t c K m n 4 1 x (nI D) = bd2 (f_X7_ran t c 11) (fun t c => f_X4_run (g_X4_begin F) t c K m n 11 x (nI (D + 1))) := bg (by decide +kernel) hD
theorem bg_4_2 {F D : Nat} {t : Nat → Int32} {c K m n x : Int32} (hD : D < 20) : g_X4_begin (F + 1) t c K m n 4 2 x (nI D) = bd2 (f_X7_ran t c 50) (fun t c => f_X4_run (g_X4_begin F) t c K m n 50 x (nI (D + 1))) := bg (by decide +kernel) hD
theorem bg_4_3 {F D : Nat} {t : Nat → Int32} {c K m n x : Int32} (hD : D < 20) : g_X4_begin (F + 1) t c K m n 4 3 x (nI D) = bd2 (f_X7_ran t c 51) (fun t c => f_X4_run (g_X4_begin F) t c K m n 51 x (nI (D + 1))) := bg (by decide +kernel) hD
theorem bg_5_0 {F D : Nat} {t : Nat → Int32} {c K m n x : Int32} (hD : D < 20) : g_X4_begin (F + 1) t c K m n 5 0 x (nI D) = bd2 (f_X7_ran t c 30) (fun t c => f_X4_run (g_X4_begin F) t c K m n 30 x (nI (D + 1))) := bg (by decide +kernel) hD
theorem bg_5_1 {F D : Nat} {t : Nat → Int32} {c K m n x : Int32} (hD : D < 20) : g_X4_begin (F + 1) t c K m n 5 1 x (nI D) = bd2 (f_X7_ran t c 11) (fun t c => f_X4_run (g_X4_begin F) t c K m n 11 x (nI (D + 1))) := bg (by decide +kernel) hD
theorem bg_5_2 {F D : Nat} {t : Nat → Int32} {c K m n x : Int32} (hD : D < 20) : g_X4_begin (F + 1) t c K m n 5 2 x (nI D) = bd2 (f_X7_ran t c 12) (fun t c => f_X4_run (g_X4_begin F) t c K m n 12 x (nI (D + 1))) := bg (by decide +kernel) hD
theorem bg_5_3 {F D : Nat} {t : Nat → Int32} {c K m n x : Int32} (hD : D < 20) : g_X4_begin (F + 1) t c K m n 5 3 x (nI D) = bd2 (f_X7_ran t c 60) (fun t c => f_X4_run (g_X4_begin F) t c K m n 60 x (nI (D + 1))) := bg (by decide +kernel) hD
theorem bg_6_0 {F D : Nat} {t : Nat → Int32} {c K m n x : Int32} (hD : D < 20) : g_X4_begin (F + 1) t c K m n 6 0 x (nI D) = bd2 (f_X7_ran t c 10) (fun t c => f_X4_run (g_X4_begin F) t c K m n 10 x (nI (D + 1))) := bg (by decide +kernel) hD
theorem bg_6_1 {F D : Nat} {t : Nat → Int32} {c K m n x : Int32} (hD : D < 20) : g_X4_begin (F + 1) t c K m n 6 1 x (nI D) = bd2 (f_X7_ran t c 70) (fun t c => f_X4_run (g_X4_begin F) t c K m n 70 x (nI (D + 1))) := bg (by decide +kernel) hD
theorem bg_6_2 {F D : Nat} {t : Nat → Int32} {c K m n x : Int32} (hD : D < 20) : g_X4_begin (F + 1) t c K m n 6 2 x (nI D) = bd2 (f_X7_ran t c 12) (fun t c => f_X4_run (g_X4_begin F) t c K m n 12 x (nI (D + 1))) := bg (by decide +kernel) hD
theorem bg_6_3 {F D : Nat} {t : Nat → Int32} {c K m n x : Int32} (hD : D < 20) : g_X4_begin (F + 1) t c K m n 6 3 x (nI D) = bd2 (f_X7_ran t c 13) (fun t c => f_X4_run (g_X4_begin F) t c K m n 13 x (nI (D + 1))) := bg (by decide +kernel) hD
theorem rn_10 {rc : (Nat → Int32) → (Int32) → (Int32) → (Int32) → (Int32) → Int32 → Int32 → Int32 → Int32 → Option ((Nat → Int32) × (Int32) × (Int32))} {t : Nat → Int32} {c K m n x D : Int32} : f_X4_run rc t c K m n 10 x D = some (t, c, x + n) := by
  unfold f_X4_run
  rw [if_pos rfl]
theorem rn_11 {rc : (Nat → Int32) → (Int32) → (Int32) → (Int32) → (Int32) → Int32 → Int32 → Int32 → Int32 → Option ((Nat → Int32) × (Int32) × (Int32))} {t : Nat → Int32} {c K m n x D : Int32} : f_X4_run rc t c K m n 11 x D = bd3 (rc t c K m n K 0 x D) (fun t c r => some (t, c, r * 2)) := by
  unfold f_X4_run
  rw [if_neg (by decide), if_pos rfl]
theorem rn_12 {rc : (Nat → Int32) → (Int32) → (Int32) → (Int32) → (Int32) → Int32 → Int32 → Int32 → Int32 → Option ((Nat → Int32) × (Int32) × (Int32))} {t : Nat → Int32} {c K m n x D : Int32} : f_X4_run rc t c K m n 12 x D = some (t, c, x - m) := by
  unfold f_X4_run
  rw [if_neg (by decide), if_neg (by decide), if_pos rfl]
theorem rn_13 {rc : (Nat → Int32) → (Int32) → (Int32) → (Int32) → (Int32) → Int32 → Int32 → Int32 → Int32 → Option ((Nat → Int32) × (Int32) × (Int32))} {t : Nat → Int32} {c K m n x D : Int32} : f_X4_run rc t c K m n 13 x D = bd3 (rc t c K m n K 1 x D) (fun t c r => bd3 (rc t c K m n K 2 x D) (fun t c q => some (t, c, r ^^^ q))) := by
  unfold f_X4_run
  rw [if_neg (by decide), if_neg (by decide), if_neg (by decide), if_pos rfl]
theorem rn_20 {rc : (Nat → Int32) → (Int32) → (Int32) → (Int32) → (Int32) → Int32 → Int32 → Int32 → Int32 → Option ((Nat → Int32) × (Int32) × (Int32))} {t : Nat → Int32} {c K m n x D : Int32} : f_X4_run rc t c K m n 20 x D = bd3 (rc t c K m n 0 2 x D) (fun t c r => some (t, c, -r)) := by
  unfold f_X4_run
  rw [if_neg (by decide), if_neg (by decide), if_neg (by decide), if_neg (by decide), if_pos rfl]
  rw [rdA_i (i := 1) (k := 1) rfl (by decide)]
  rfl
theorem rn_30 {rc : (Nat → Int32) → (Int32) → (Int32) → (Int32) → (Int32) → Int32 → Int32 → Int32 → Int32 → Option ((Nat → Int32) × (Int32) × (Int32))} {t : Nat → Int32} {c K m n x D : Int32} : f_X4_run rc t c K m n 30 x D = bd3 (rc t c K m n 0 0 x D) (fun t c r => some (t, c, r * 3)) := by
  unfold f_X4_run
  rw [if_neg (by decide), if_neg (by decide), if_neg (by decide), if_neg (by decide), if_neg (by decide), if_pos rfl]
  rw [rdA_i (i := 2) (k := 2) rfl (by decide)]
  rfl
theorem rn_40 {rc : (Nat → Int32) → (Int32) → (Int32) → (Int32) → (Int32) → Int32 → Int32 → Int32 → Int32 → Option ((Nat → Int32) × (Int32) × (Int32))} {t : Nat → Int32} {c K m n x D : Int32} : f_X4_run rc t c K m n 40 x D = bd3 (rc t c K m n 0 1 x D) (fun t c r => bd3 (rc t c K m n K 2 1 D) (fun t c q => some (t, c, r - q))) := by
  unfold f_X4_run
  rw [if_neg (by decide), if_neg (by decide), if_neg (by decide), if_neg (by decide), if_neg (by decide), if_neg (by decide), if_pos rfl]
  rw [rdA_i (i := 3) (k := 3) rfl (by decide)]
  rfl
theorem rn_50 {rc : (Nat → Int32) → (Int32) → (Int32) → (Int32) → (Int32) → Int32 → Int32 → Int32 → Int32 → Option ((Nat → Int32) × (Int32) × (Int32))} {t : Nat → Int32} {c K m n x D : Int32} : f_X4_run rc t c K m n 50 x D = bd3 (rc t c K m n 1 2 x D) (fun t c r => some (t, c, r ^^^ n)) := by
  unfold f_X4_run
  rw [if_neg (by decide), if_neg (by decide), if_neg (by decide), if_neg (by decide), if_neg (by decide), if_neg (by decide), if_neg (by decide), if_pos rfl]
  rw [rdA_i (i := 4) (k := 4) rfl (by decide)]
  rfl
theorem rn_51 {rc : (Nat → Int32) → (Int32) → (Int32) → (Int32) → (Int32) → Int32 → Int32 → Int32 → Int32 → Option ((Nat → Int32) × (Int32) × (Int32))} {t : Nat → Int32} {c K m n x D : Int32} : f_X4_run rc t c K m n 51 x D = bd3 (rc t c K m n K 1 x D) (fun t c r => bd3 (rc t c K m n 1 3 x D) (fun t c q => some (t, c, r - q))) := by
  unfold f_X4_run
  rw [if_neg (by decide), if_neg (by decide), if_neg (by decide), if_neg (by decide), if_neg (by decide), if_neg (by decide), if_neg (by decide), if_neg (by decide), if_pos rfl]
  rfl
theorem rn_60 {rc : (Nat → Int32) → (Int32) → (Int32) → (Int32) → (Int32) → Int32 → Int32 → Int32 → Int32 → Option ((Nat → Int32) × (Int32) × (Int32))} {t : Nat → Int32} {c K m n x D : Int32} : f_X4_run rc t c K m n 60 x D = bd3 (rc t c K m n 2 3 x D) (fun t c r => bd3 (rc t c K m n K 0 2 D) (fun t c q => some (t, c, r - q))) := by
  unfold f_X4_run
  rw [if_neg (by decide), if_neg (by decide), if_neg (by decide), if_neg (by decide), if_neg (by decide), if_neg (by decide), if_neg (by decide), if_neg (by decide), if_neg (by decide), if_pos rfl]
  rw [rdA_i (i := 5) (k := 5) rfl (by decide)]
  rfl
theorem rn_70 {rc : (Nat → Int32) → (Int32) → (Int32) → (Int32) → (Int32) → Int32 → Int32 → Int32 → Int32 → Option ((Nat → Int32) × (Int32) × (Int32))} {t : Nat → Int32} {c K m n x D : Int32} : f_X4_run rc t c K m n 70 x D = rc t c K m n 3 1 (x + 1) D := by
  unfold f_X4_run
  rw [if_neg (by decide), if_neg (by decide), if_neg (by decide), if_neg (by decide), if_neg (by decide), if_neg (by decide), if_neg (by decide), if_neg (by decide), if_neg (by decide), if_neg (by decide), if_pos rfl]
  rw [rdA_i (i := 6) (k := 6) rfl (by decide)]
  exact bd3_id
theorem ab_1 : f_X7_above 1 = some 0 := by decide +kernel
theorem ab_2 : f_X7_above 2 = some 0 := by decide +kernel
theorem ab_3 : f_X7_above 3 = some 0 := by decide +kernel
theorem ab_4 : f_X7_above 4 = some 1 := by decide +kernel
theorem ab_5 : f_X7_above 5 = some 2 := by decide +kernel
theorem ab_6 : f_X7_above 6 = some 3 := by decide +kernel
theorem r7_cuts_0 {g : Nat} {t : Nat → Int32} {c who x : Int32} : f_X7_cutsBy (g + 1) t c who 0 x = bd2 (f_X7_ran t c 10) (fun t c => some (t, c, x + who)) := by
  show f_X7_cutsByB (f_X7_cutsBy g) t c who 0 x = _
  unfold f_X7_cutsByB
  rw [if_pos rfl]
theorem r7_cuts_1 {g : Nat} {t : Nat → Int32} {c who x : Int32} : f_X7_cutsBy (g + 1) t c who 1 x = f_X7_cutsBy g t c who 0 x := by
  show f_X7_cutsByB (f_X7_cutsBy g) t c who 1 x = _
  unfold f_X7_cutsByB
  rw [if_neg (by decide), if_neg (by decide)]
  simp only [ab_1, bdE1, bd3_id]
theorem r7_cuts_2 {g : Nat} {t : Nat → Int32} {c who x : Int32} : f_X7_cutsBy (g + 1) t c who 2 x = bd2 (f_X7_ran t c 30) (fun t c => bd3 (f_X7_cutsBy g t c who 0 x) (fun t c r => some (t, c, r * 3))) := by
  show f_X7_cutsByB (f_X7_cutsBy g) t c who 2 x = _
  unfold f_X7_cutsByB
  rw [if_neg (by decide), if_pos rfl]
  simp only [ab_2, bdE1, bd3_id]
theorem r7_cuts_3 {g : Nat} {t : Nat → Int32} {c who x : Int32} : f_X7_cutsBy (g + 1) t c who 3 x = f_X7_cutsBy g t c who 0 x := by
  show f_X7_cutsByB (f_X7_cutsBy g) t c who 3 x = _
  unfold f_X7_cutsByB
  rw [if_neg (by decide), if_neg (by decide)]
  simp only [ab_3, bdE1, bd3_id]
theorem r7_cuts_4 {g : Nat} {t : Nat → Int32} {c who x : Int32} : f_X7_cutsBy (g + 1) t c who 4 x = f_X7_cutsBy g t c who 1 x := by
  show f_X7_cutsByB (f_X7_cutsBy g) t c who 4 x = _
  unfold f_X7_cutsByB
  rw [if_neg (by decide), if_neg (by decide)]
  simp only [ab_4, bdE1, bd3_id]
theorem r7_cuts_5 {g : Nat} {t : Nat → Int32} {c who x : Int32} : f_X7_cutsBy (g + 1) t c who 5 x = f_X7_cutsBy g t c who 2 x := by
  show f_X7_cutsByB (f_X7_cutsBy g) t c who 5 x = _
  unfold f_X7_cutsByB
  rw [if_neg (by decide), if_neg (by decide)]
  simp only [ab_5, bdE1, bd3_id]
theorem r7_cuts_6 {g : Nat} {t : Nat → Int32} {c who x : Int32} : f_X7_cutsBy (g + 1) t c who 6 x = f_X7_cutsBy g t c who 3 x := by
  show f_X7_cutsByB (f_X7_cutsBy g) t c who 6 x = _
  unfold f_X7_cutsByB
  rw [if_neg (by decide), if_neg (by decide)]
  simp only [ab_6, bdE1, bd3_id]
theorem r7_chills_0 {g : Nat} {d t : Nat → Int32} {c who x : Int32} : f_X7_chillsBy (g + 1) d t c who 0 x = bd2 (f_X7_ran t c 12) (fun t c => bd1 (f_X7_of d who 1) (fun r => some (t, c, x - r))) := by
  show f_X7_chillsByB (f_X7_chillsBy g) d t c who 0 x = _
  unfold f_X7_chillsByB
  rw [if_pos rfl]
theorem r7_chills_1 {g : Nat} {d t : Nat → Int32} {c who x : Int32} : f_X7_chillsBy (g + 1) d t c who 1 x = bd2 (f_X7_ran t c 20) (fun t c => bd3 (f_X7_chillsBy g d t c who 0 x) (fun t c r => some (t, c, -r))) := by
  show f_X7_chillsByB (f_X7_chillsBy g) d t c who 1 x = _
  unfold f_X7_chillsByB
  rw [if_neg (by decide), if_pos rfl]
  simp only [ab_1, bdE1, bd3_id]
theorem r7_chills_2 {g : Nat} {d t : Nat → Int32} {c who x : Int32} : f_X7_chillsBy (g + 1) d t c who 2 x = f_X7_chillsBy g d t c who 0 x := by
  show f_X7_chillsByB (f_X7_chillsBy g) d t c who 2 x = _
  unfold f_X7_chillsByB
  rw [if_neg (by decide), if_neg (by decide), if_pos rfl]
  simp only [ab_2, bdE1, bd3_id]
theorem r7_chills_3 {g : Nat} {d t : Nat → Int32} {c who x : Int32} : f_X7_chillsBy (g + 1) d t c who 3 x = f_X7_chillsBy g d t c who 0 x := by
  show f_X7_chillsByB (f_X7_chillsBy g) d t c who 3 x = _
  unfold f_X7_chillsByB
  rw [if_neg (by decide), if_neg (by decide), if_neg (by decide), if_pos rfl]
  simp only [ab_3, bdE1, bd3_id]
theorem r7_chills_4 {g : Nat} {d t : Nat → Int32} {c who x : Int32} : f_X7_chillsBy (g + 1) d t c who 4 x = bd2 (f_X7_ran t c 50) (fun t c => bd3 (f_X7_chillsBy g d t c who 1 x) (fun t c r => some (t, c, r ^^^ who))) := by
  show f_X7_chillsByB (f_X7_chillsBy g) d t c who 4 x = _
  unfold f_X7_chillsByB
  rw [if_neg (by decide), if_neg (by decide), if_neg (by decide), if_neg (by decide), if_pos rfl]
  simp only [ab_4, bdE1, bd3_id]
theorem r7_chills_5 {g : Nat} {d t : Nat → Int32} {c who x : Int32} : f_X7_chillsBy (g + 1) d t c who 5 x = f_X7_chillsBy g d t c who 2 x := by
  show f_X7_chillsByB (f_X7_chillsBy g) d t c who 5 x = _
  unfold f_X7_chillsByB
  rw [if_neg (by decide), if_neg (by decide), if_neg (by decide), if_neg (by decide), if_neg (by decide)]
  simp only [ab_5, bdE1, bd3_id]
theorem r7_chills_6 {g : Nat} {d t : Nat → Int32} {c who x : Int32} : f_X7_chillsBy (g + 1) d t c who 6 x = f_X7_chillsBy g d t c who 3 x := by
  show f_X7_chillsByB (f_X7_chillsBy g) d t c who 6 x = _
  unfold f_X7_chillsByB
  rw [if_neg (by decide), if_neg (by decide), if_neg (by decide), if_neg (by decide), if_neg (by decide)]
  simp only [ab_6, bdE1, bd3_id]
theorem r7_counts_0 {g : Nat} {d t : Nat → Int32} {c who x : Int32} : f_X7_countsBy (g + 1) d t c who 0 x = bd2 (f_X7_ran t c 11) (fun t c => bd1 (f_X7_of d who 0) (fun k => bd3 (f_X7_cutsBy 4 t c who k x) (fun t c r => some (t, c, r * 2)))) := by
  show f_X7_countsByB (f_X7_countsBy g) d t c who 0 x = _
  unfold f_X7_countsByB
  rw [if_pos rfl]
theorem r7_counts_1 {g : Nat} {d t : Nat → Int32} {c who x : Int32} : f_X7_countsBy (g + 1) d t c who 1 x = f_X7_countsBy g d t c who 0 x := by
  show f_X7_countsByB (f_X7_countsBy g) d t c who 1 x = _
  unfold f_X7_countsByB
  rw [if_neg (by decide), if_neg (by decide), if_neg (by decide)]
  simp only [ab_1, bdE1, bd3_id]
theorem r7_counts_2 {g : Nat} {d t : Nat → Int32} {c who x : Int32} : f_X7_countsBy (g + 1) d t c who 2 x = f_X7_countsBy g d t c who 0 x := by
  show f_X7_countsByB (f_X7_countsBy g) d t c who 2 x = _
  unfold f_X7_countsByB
  rw [if_neg (by decide), if_neg (by decide), if_neg (by decide)]
  simp only [ab_2, bdE1, bd3_id]
theorem r7_counts_3 {g : Nat} {d t : Nat → Int32} {c who x : Int32} : f_X7_countsBy (g + 1) d t c who 3 x = bd2 (f_X7_ran t c 40) (fun t c => bd3 (f_X7_countsBy g d t c who 0 x) (fun t c r => bd1 (f_X7_of d who 0) (fun k => bd3 (f_X7_chillsBy 4 d t c who k 1) (fun t c q => some (t, c, r - q))))) := by
  show f_X7_countsByB (f_X7_countsBy g) d t c who 3 x = _
  unfold f_X7_countsByB
  rw [if_neg (by decide), if_pos rfl]
  simp only [ab_3, bdE1, bd3_id]
theorem r7_counts_4 {g : Nat} {d t : Nat → Int32} {c who x : Int32} : f_X7_countsBy (g + 1) d t c who 4 x = f_X7_countsBy g d t c who 1 x := by
  show f_X7_countsByB (f_X7_countsBy g) d t c who 4 x = _
  unfold f_X7_countsByB
  rw [if_neg (by decide), if_neg (by decide), if_neg (by decide)]
  simp only [ab_4, bdE1, bd3_id]
theorem r7_counts_5 {g : Nat} {d t : Nat → Int32} {c who x : Int32} : f_X7_countsBy (g + 1) d t c who 5 x = f_X7_countsBy g d t c who 2 x := by
  show f_X7_countsByB (f_X7_countsBy g) d t c who 5 x = _
  unfold f_X7_countsByB
  rw [if_neg (by decide), if_neg (by decide), if_neg (by decide)]
  simp only [ab_5, bdE1, bd3_id]
theorem r7_counts_6 {g : Nat} {d t : Nat → Int32} {c who x : Int32} : f_X7_countsBy (g + 1) d t c who 6 x = bd2 (f_X7_ran t c 70) (fun t c => f_X7_countsBy g d t c who 3 (x + 1)) := by
  show f_X7_countsByB (f_X7_countsBy g) d t c who 6 x = _
  unfold f_X7_countsByB
  rw [if_neg (by decide), if_neg (by decide), if_pos rfl]
  simp only [ab_6, bdE1, bd3_id]
theorem r7_tells_0 {g : Nat} {d t : Nat → Int32} {c who x : Int32} : f_X7_tellsBy (g + 1) d t c who 0 x = bd2 (f_X7_ran t c 13) (fun t c => bd1 (f_X7_of d who 0) (fun k => bd3 (f_X7_countsBy 4 d t c who k x) (fun t c r => bd1 (f_X7_of d who 0) (fun k => bd3 (f_X7_chillsBy 4 d t c who k x) (fun t c q => some (t, c, r ^^^ q)))))) := by
  show f_X7_tellsByB (f_X7_tellsBy g) d t c who 0 x = _
  unfold f_X7_tellsByB
  rw [if_pos rfl]
theorem r7_tells_1 {g : Nat} {d t : Nat → Int32} {c who x : Int32} : f_X7_tellsBy (g + 1) d t c who 1 x = f_X7_tellsBy g d t c who 0 x := by
  show f_X7_tellsByB (f_X7_tellsBy g) d t c who 1 x = _
  unfold f_X7_tellsByB
  rw [if_neg (by decide), if_neg (by decide), if_neg (by decide)]
  simp only [ab_1, bdE1, bd3_id]
theorem r7_tells_2 {g : Nat} {d t : Nat → Int32} {c who x : Int32} : f_X7_tellsBy (g + 1) d t c who 2 x = f_X7_tellsBy g d t c who 0 x := by
  show f_X7_tellsByB (f_X7_tellsBy g) d t c who 2 x = _
  unfold f_X7_tellsByB
  rw [if_neg (by decide), if_neg (by decide), if_neg (by decide)]
  simp only [ab_2, bdE1, bd3_id]
theorem r7_tells_3 {g : Nat} {d t : Nat → Int32} {c who x : Int32} : f_X7_tellsBy (g + 1) d t c who 3 x = f_X7_tellsBy g d t c who 0 x := by
  show f_X7_tellsByB (f_X7_tellsBy g) d t c who 3 x = _
  unfold f_X7_tellsByB
  rw [if_neg (by decide), if_neg (by decide), if_neg (by decide)]
  simp only [ab_3, bdE1, bd3_id]
theorem r7_tells_4 {g : Nat} {d t : Nat → Int32} {c who x : Int32} : f_X7_tellsBy (g + 1) d t c who 4 x = bd2 (f_X7_ran t c 51) (fun t c => bd1 (f_X7_of d who 0) (fun k => bd3 (f_X7_countsBy 4 d t c who k x) (fun t c r => bd3 (f_X7_tellsBy g d t c who 1 x) (fun t c q => some (t, c, r - q))))) := by
  show f_X7_tellsByB (f_X7_tellsBy g) d t c who 4 x = _
  unfold f_X7_tellsByB
  rw [if_neg (by decide), if_pos rfl]
  simp only [ab_4, bdE1, bd3_id]
theorem r7_tells_5 {g : Nat} {d t : Nat → Int32} {c who x : Int32} : f_X7_tellsBy (g + 1) d t c who 5 x = bd2 (f_X7_ran t c 60) (fun t c => bd3 (f_X7_tellsBy g d t c who 2 x) (fun t c r => bd1 (f_X7_of d who 0) (fun k => bd3 (f_X7_cutsBy 4 t c who k 2) (fun t c q => some (t, c, r - q))))) := by
  show f_X7_tellsByB (f_X7_tellsBy g) d t c who 5 x = _
  unfold f_X7_tellsByB
  rw [if_neg (by decide), if_neg (by decide), if_pos rfl]
  simp only [ab_5, bdE1, bd3_id]
theorem r7_tells_6 {g : Nat} {d t : Nat → Int32} {c who x : Int32} : f_X7_tellsBy (g + 1) d t c who 6 x = f_X7_tellsBy g d t c who 3 x := by
  show f_X7_tellsByB (f_X7_tellsBy g) d t c who 6 x = _
  unfold f_X7_tellsByB
  rw [if_neg (by decide), if_neg (by decide), if_neg (by decide)]
  simp only [ab_6, bdE1, bd3_id]
def Gd (o : Option ((Nat → Int32) × (Int32) × (Int32))) : Prop := ∃ t k r, k ≤ 40 ∧ o = some (t, nI k, r)
theorem Gd_s {t : Nat → Int32} {k : Nat} {r : Int32} (h : k ≤ 40) : Gd (some (t, nI k, r)) := ⟨t, k, r, h, rfl⟩
theorem Gd_b2 {t : Nat → Int32} {k : Nat} {b : Int32} {f : (Nat → Int32) → Int32 → Option ((Nat → Int32) × (Int32) × (Int32))} (hk : k ≤ 40) (h : ∀ t' k', k' ≤ 40 → Gd (f t' (nI k'))) : Gd (bd2 (f_X7_ran t (nI k) b) f) := by
  unfold f_X7_ran
  by_cases e : k = 40
  · rw [if_pos (show (40 : Int32) ≤ nI k by rw [e]; decide), bdE2]
    exact h t k hk
  · rw [if_neg (show ¬ (40 : Int32) ≤ nI k from nI_ge (b := 40) (by omega) (by decide)), wrA_i rfl (by omega)]
    simp only [nmE]
    rw [nI_1, bdE2]
    exact h _ _ (by omega)
theorem Gd_b3 {o : Option ((Nat → Int32) × (Int32) × (Int32))} {f : (Nat → Int32) → Int32 → Int32 → Option ((Nat → Int32) × (Int32) × (Int32))} (h : Gd o) (h2 : ∀ t k r, k ≤ 40 → Gd (f t (nI k) r)) : Gd (bd3 o f) := by
  obtain ⟨t, k, r, hk, rfl⟩ := h
  rw [bdE3]
  exact h2 t k r hk
theorem vo_0_0 {t : Nat → Int32} {c who m x : Int32} : g_X4_begin 8 t c 0 m who 0 0 x (nI 0) = f_X7_cutsBy 4 t c who 0 x := by
  simp (decide := true) only [bg_0_0, bg_0_1, bg_0_2, bg_0_3, bg_1_0, bg_1_1, bg_1_2, bg_1_3, bg_2_0, bg_2_1, bg_2_2, bg_2_3, bg_3_0, bg_3_1, bg_3_2, bg_3_3, bg_4_0, bg_4_1, bg_4_2, bg_4_3, bg_5_0, bg_5_1, bg_5_2, bg_5_3, bg_6_0, bg_6_1, bg_6_2, bg_6_3, rn_10, rn_11, rn_12, rn_13, rn_20, rn_30, rn_40, rn_50, rn_51, rn_60, rn_70, r7_cuts_0, r7_cuts_1, r7_cuts_2, r7_cuts_3, r7_cuts_4, r7_cuts_5, r7_cuts_6, r7_chills_0, r7_chills_1, r7_chills_2, r7_chills_3, r7_chills_4, r7_chills_5, r7_chills_6, r7_counts_0, r7_counts_1, r7_counts_2, r7_counts_3, r7_counts_4, r7_counts_5, r7_counts_6, r7_tells_0, r7_tells_1, r7_tells_2, r7_tells_3, r7_tells_4, r7_tells_5, r7_tells_6, bdE1, bd3_id]
theorem vg_0_0 {t : Nat → Int32} {c : Nat} {who m x : Int32} (hc : c ≤ 40) : Gd (f_X7_cutsBy 4 t (nI c) who 0 x) := by
  simp only [r7_cuts_0, r7_cuts_1, r7_cuts_2, r7_cuts_3, r7_cuts_4, r7_cuts_5, r7_cuts_6, r7_chills_0, r7_chills_1, r7_chills_2, r7_chills_3, r7_chills_4, r7_chills_5, r7_chills_6, r7_counts_0, r7_counts_1, r7_counts_2, r7_counts_3, r7_counts_4, r7_counts_5, r7_counts_6, r7_tells_0, r7_tells_1, r7_tells_2, r7_tells_3, r7_tells_4, r7_tells_5, r7_tells_6, bdE1, bd3_id]
  repeat' first | exact Gd_s (by assumption) | refine Gd_b2 (by assumption) (fun _ _ _ => ?_) | refine Gd_b3 ?_ (fun _ _ _ _ => ?_)
theorem vo_0_1 {t : Nat → Int32} {c who m x : Int32} : g_X4_begin 8 t c 1 m who 1 0 x (nI 0) = f_X7_cutsBy 4 t c who 1 x := by
  simp (decide := true) only [bg_0_0, bg_0_1, bg_0_2, bg_0_3, bg_1_0, bg_1_1, bg_1_2, bg_1_3, bg_2_0, bg_2_1, bg_2_2, bg_2_3, bg_3_0, bg_3_1, bg_3_2, bg_3_3, bg_4_0, bg_4_1, bg_4_2, bg_4_3, bg_5_0, bg_5_1, bg_5_2, bg_5_3, bg_6_0, bg_6_1, bg_6_2, bg_6_3, rn_10, rn_11, rn_12, rn_13, rn_20, rn_30, rn_40, rn_50, rn_51, rn_60, rn_70, r7_cuts_0, r7_cuts_1, r7_cuts_2, r7_cuts_3, r7_cuts_4, r7_cuts_5, r7_cuts_6, r7_chills_0, r7_chills_1, r7_chills_2, r7_chills_3, r7_chills_4, r7_chills_5, r7_chills_6, r7_counts_0, r7_counts_1, r7_counts_2, r7_counts_3, r7_counts_4, r7_counts_5, r7_counts_6, r7_tells_0, r7_tells_1, r7_tells_2, r7_tells_3, r7_tells_4, r7_tells_5, r7_tells_6, bdE1, bd3_id]
theorem vg_0_1 {t : Nat → Int32} {c : Nat} {who m x : Int32} (hc : c ≤ 40) : Gd (f_X7_cutsBy 4 t (nI c) who 1 x) := by
  simp only [r7_cuts_0, r7_cuts_1, r7_cuts_2, r7_cuts_3, r7_cuts_4, r7_cuts_5, r7_cuts_6, r7_chills_0, r7_chills_1, r7_chills_2, r7_chills_3, r7_chills_4, r7_chills_5, r7_chills_6, r7_counts_0, r7_counts_1, r7_counts_2, r7_counts_3, r7_counts_4, r7_counts_5, r7_counts_6, r7_tells_0, r7_tells_1, r7_tells_2, r7_tells_3, r7_tells_4, r7_tells_5, r7_tells_6, bdE1, bd3_id]
  repeat' first | exact Gd_s (by assumption) | refine Gd_b2 (by assumption) (fun _ _ _ => ?_) | refine Gd_b3 ?_ (fun _ _ _ _ => ?_)
theorem vo_0_2 {t : Nat → Int32} {c who m x : Int32} : g_X4_begin 8 t c 2 m who 2 0 x (nI 0) = f_X7_cutsBy 4 t c who 2 x := by
  simp (decide := true) only [bg_0_0, bg_0_1, bg_0_2, bg_0_3, bg_1_0, bg_1_1, bg_1_2, bg_1_3, bg_2_0, bg_2_1, bg_2_2, bg_2_3, bg_3_0, bg_3_1, bg_3_2, bg_3_3, bg_4_0, bg_4_1, bg_4_2, bg_4_3, bg_5_0, bg_5_1, bg_5_2, bg_5_3, bg_6_0, bg_6_1, bg_6_2, bg_6_3, rn_10, rn_11, rn_12, rn_13, rn_20, rn_30, rn_40, rn_50, rn_51, rn_60, rn_70, r7_cuts_0, r7_cuts_1, r7_cuts_2, r7_cuts_3, r7_cuts_4, r7_cuts_5, r7_cuts_6, r7_chills_0, r7_chills_1, r7_chills_2, r7_chills_3, r7_chills_4, r7_chills_5, r7_chills_6, r7_counts_0, r7_counts_1, r7_counts_2, r7_counts_3, r7_counts_4, r7_counts_5, r7_counts_6, r7_tells_0, r7_tells_1, r7_tells_2, r7_tells_3, r7_tells_4, r7_tells_5, r7_tells_6, bdE1, bd3_id]
theorem vg_0_2 {t : Nat → Int32} {c : Nat} {who m x : Int32} (hc : c ≤ 40) : Gd (f_X7_cutsBy 4 t (nI c) who 2 x) := by
  simp only [r7_cuts_0, r7_cuts_1, r7_cuts_2, r7_cuts_3, r7_cuts_4, r7_cuts_5, r7_cuts_6, r7_chills_0, r7_chills_1, r7_chills_2, r7_chills_3, r7_chills_4, r7_chills_5, r7_chills_6, r7_counts_0, r7_counts_1, r7_counts_2, r7_counts_3, r7_counts_4, r7_counts_5, r7_counts_6, r7_tells_0, r7_tells_1, r7_tells_2, r7_tells_3, r7_tells_4, r7_tells_5, r7_tells_6, bdE1, bd3_id]
  repeat' first | exact Gd_s (by assumption) | refine Gd_b2 (by assumption) (fun _ _ _ => ?_) | refine Gd_b3 ?_ (fun _ _ _ _ => ?_)
theorem vo_0_3 {t : Nat → Int32} {c who m x : Int32} : g_X4_begin 8 t c 3 m who 3 0 x (nI 0) = f_X7_cutsBy 4 t c who 3 x := by
  simp (decide := true) only [bg_0_0, bg_0_1, bg_0_2, bg_0_3, bg_1_0, bg_1_1, bg_1_2, bg_1_3, bg_2_0, bg_2_1, bg_2_2, bg_2_3, bg_3_0, bg_3_1, bg_3_2, bg_3_3, bg_4_0, bg_4_1, bg_4_2, bg_4_3, bg_5_0, bg_5_1, bg_5_2, bg_5_3, bg_6_0, bg_6_1, bg_6_2, bg_6_3, rn_10, rn_11, rn_12, rn_13, rn_20, rn_30, rn_40, rn_50, rn_51, rn_60, rn_70, r7_cuts_0, r7_cuts_1, r7_cuts_2, r7_cuts_3, r7_cuts_4, r7_cuts_5, r7_cuts_6, r7_chills_0, r7_chills_1, r7_chills_2, r7_chills_3, r7_chills_4, r7_chills_5, r7_chills_6, r7_counts_0, r7_counts_1, r7_counts_2, r7_counts_3, r7_counts_4, r7_counts_5, r7_counts_6, r7_tells_0, r7_tells_1, r7_tells_2, r7_tells_3, r7_tells_4, r7_tells_5, r7_tells_6, bdE1, bd3_id]
theorem vg_0_3 {t : Nat → Int32} {c : Nat} {who m x : Int32} (hc : c ≤ 40) : Gd (f_X7_cutsBy 4 t (nI c) who 3 x) := by
  simp only [r7_cuts_0, r7_cuts_1, r7_cuts_2, r7_cuts_3, r7_cuts_4, r7_cuts_5, r7_cuts_6, r7_chills_0, r7_chills_1, r7_chills_2, r7_chills_3, r7_chills_4, r7_chills_5, r7_chills_6, r7_counts_0, r7_counts_1, r7_counts_2, r7_counts_3, r7_counts_4, r7_counts_5, r7_counts_6, r7_tells_0, r7_tells_1, r7_tells_2, r7_tells_3, r7_tells_4, r7_tells_5, r7_tells_6, bdE1, bd3_id]
  repeat' first | exact Gd_s (by assumption) | refine Gd_b2 (by assumption) (fun _ _ _ => ?_) | refine Gd_b3 ?_ (fun _ _ _ _ => ?_)
theorem vo_0_4 {t : Nat → Int32} {c who m x : Int32} : g_X4_begin 8 t c 4 m who 4 0 x (nI 0) = f_X7_cutsBy 4 t c who 4 x := by
  simp (decide := true) only [bg_0_0, bg_0_1, bg_0_2, bg_0_3, bg_1_0, bg_1_1, bg_1_2, bg_1_3, bg_2_0, bg_2_1, bg_2_2, bg_2_3, bg_3_0, bg_3_1, bg_3_2, bg_3_3, bg_4_0, bg_4_1, bg_4_2, bg_4_3, bg_5_0, bg_5_1, bg_5_2, bg_5_3, bg_6_0, bg_6_1, bg_6_2, bg_6_3, rn_10, rn_11, rn_12, rn_13, rn_20, rn_30, rn_40, rn_50, rn_51, rn_60, rn_70, r7_cuts_0, r7_cuts_1, r7_cuts_2, r7_cuts_3, r7_cuts_4, r7_cuts_5, r7_cuts_6, r7_chills_0, r7_chills_1, r7_chills_2, r7_chills_3, r7_chills_4, r7_chills_5, r7_chills_6, r7_counts_0, r7_counts_1, r7_counts_2, r7_counts_3, r7_counts_4, r7_counts_5, r7_counts_6, r7_tells_0, r7_tells_1, r7_tells_2, r7_tells_3, r7_tells_4, r7_tells_5, r7_tells_6, bdE1, bd3_id]
theorem vg_0_4 {t : Nat → Int32} {c : Nat} {who m x : Int32} (hc : c ≤ 40) : Gd (f_X7_cutsBy 4 t (nI c) who 4 x) := by
  simp only [r7_cuts_0, r7_cuts_1, r7_cuts_2, r7_cuts_3, r7_cuts_4, r7_cuts_5, r7_cuts_6, r7_chills_0, r7_chills_1, r7_chills_2, r7_chills_3, r7_chills_4, r7_chills_5, r7_chills_6, r7_counts_0, r7_counts_1, r7_counts_2, r7_counts_3, r7_counts_4, r7_counts_5, r7_counts_6, r7_tells_0, r7_tells_1, r7_tells_2, r7_tells_3, r7_tells_4, r7_tells_5, r7_tells_6, bdE1, bd3_id]
  repeat' first | exact Gd_s (by assumption) | refine Gd_b2 (by assumption) (fun _ _ _ => ?_) | refine Gd_b3 ?_ (fun _ _ _ _ => ?_)
theorem vo_0_5 {t : Nat → Int32} {c who m x : Int32} : g_X4_begin 8 t c 5 m who 5 0 x (nI 0) = f_X7_cutsBy 4 t c who 5 x := by
  simp (decide := true) only [bg_0_0, bg_0_1, bg_0_2, bg_0_3, bg_1_0, bg_1_1, bg_1_2, bg_1_3, bg_2_0, bg_2_1, bg_2_2, bg_2_3, bg_3_0, bg_3_1, bg_3_2, bg_3_3, bg_4_0, bg_4_1, bg_4_2, bg_4_3, bg_5_0, bg_5_1, bg_5_2, bg_5_3, bg_6_0, bg_6_1, bg_6_2, bg_6_3, rn_10, rn_11, rn_12, rn_13, rn_20, rn_30, rn_40, rn_50, rn_51, rn_60, rn_70, r7_cuts_0, r7_cuts_1, r7_cuts_2, r7_cuts_3, r7_cuts_4, r7_cuts_5, r7_cuts_6, r7_chills_0, r7_chills_1, r7_chills_2, r7_chills_3, r7_chills_4, r7_chills_5, r7_chills_6, r7_counts_0, r7_counts_1, r7_counts_2, r7_counts_3, r7_counts_4, r7_counts_5, r7_counts_6, r7_tells_0, r7_tells_1, r7_tells_2, r7_tells_3, r7_tells_4, r7_tells_5, r7_tells_6, bdE1, bd3_id]
theorem vg_0_5 {t : Nat → Int32} {c : Nat} {who m x : Int32} (hc : c ≤ 40) : Gd (f_X7_cutsBy 4 t (nI c) who 5 x) := by
  simp only [r7_cuts_0, r7_cuts_1, r7_cuts_2, r7_cuts_3, r7_cuts_4, r7_cuts_5, r7_cuts_6, r7_chills_0, r7_chills_1, r7_chills_2, r7_chills_3, r7_chills_4, r7_chills_5, r7_chills_6, r7_counts_0, r7_counts_1, r7_counts_2, r7_counts_3, r7_counts_4, r7_counts_5, r7_counts_6, r7_tells_0, r7_tells_1, r7_tells_2, r7_tells_3, r7_tells_4, r7_tells_5, r7_tells_6, bdE1, bd3_id]
  repeat' first | exact Gd_s (by assumption) | refine Gd_b2 (by assumption) (fun _ _ _ => ?_) | refine Gd_b3 ?_ (fun _ _ _ _ => ?_)
theorem vo_0_6 {t : Nat → Int32} {c who m x : Int32} : g_X4_begin 8 t c 6 m who 6 0 x (nI 0) = f_X7_cutsBy 4 t c who 6 x := by
  simp (decide := true) only [bg_0_0, bg_0_1, bg_0_2, bg_0_3, bg_1_0, bg_1_1, bg_1_2, bg_1_3, bg_2_0, bg_2_1, bg_2_2, bg_2_3, bg_3_0, bg_3_1, bg_3_2, bg_3_3, bg_4_0, bg_4_1, bg_4_2, bg_4_3, bg_5_0, bg_5_1, bg_5_2, bg_5_3, bg_6_0, bg_6_1, bg_6_2, bg_6_3, rn_10, rn_11, rn_12, rn_13, rn_20, rn_30, rn_40, rn_50, rn_51, rn_60, rn_70, r7_cuts_0, r7_cuts_1, r7_cuts_2, r7_cuts_3, r7_cuts_4, r7_cuts_5, r7_cuts_6, r7_chills_0, r7_chills_1, r7_chills_2, r7_chills_3, r7_chills_4, r7_chills_5, r7_chills_6, r7_counts_0, r7_counts_1, r7_counts_2, r7_counts_3, r7_counts_4, r7_counts_5, r7_counts_6, r7_tells_0, r7_tells_1, r7_tells_2, r7_tells_3, r7_tells_4, r7_tells_5, r7_tells_6, bdE1, bd3_id]
theorem vg_0_6 {t : Nat → Int32} {c : Nat} {who m x : Int32} (hc : c ≤ 40) : Gd (f_X7_cutsBy 4 t (nI c) who 6 x) := by
  simp only [r7_cuts_0, r7_cuts_1, r7_cuts_2, r7_cuts_3, r7_cuts_4, r7_cuts_5, r7_cuts_6, r7_chills_0, r7_chills_1, r7_chills_2, r7_chills_3, r7_chills_4, r7_chills_5, r7_chills_6, r7_counts_0, r7_counts_1, r7_counts_2, r7_counts_3, r7_counts_4, r7_counts_5, r7_counts_6, r7_tells_0, r7_tells_1, r7_tells_2, r7_tells_3, r7_tells_4, r7_tells_5, r7_tells_6, bdE1, bd3_id]
  repeat' first | exact Gd_s (by assumption) | refine Gd_b2 (by assumption) (fun _ _ _ => ?_) | refine Gd_b3 ?_ (fun _ _ _ _ => ?_)
theorem vo_1_0 {t : Nat → Int32} {c who m x : Int32} {d : Nat → Int32} (hk : f_X7_of d who 0 = some 0) (hm : f_X7_of d who 1 = some m) : g_X4_begin 8 t c 0 m who 0 1 x (nI 0) = f_X7_countsBy 4 d t c who 0 x := by
  simp (decide := true) only [bg_0_0, bg_0_1, bg_0_2, bg_0_3, bg_1_0, bg_1_1, bg_1_2, bg_1_3, bg_2_0, bg_2_1, bg_2_2, bg_2_3, bg_3_0, bg_3_1, bg_3_2, bg_3_3, bg_4_0, bg_4_1, bg_4_2, bg_4_3, bg_5_0, bg_5_1, bg_5_2, bg_5_3, bg_6_0, bg_6_1, bg_6_2, bg_6_3, rn_10, rn_11, rn_12, rn_13, rn_20, rn_30, rn_40, rn_50, rn_51, rn_60, rn_70, r7_cuts_0, r7_cuts_1, r7_cuts_2, r7_cuts_3, r7_cuts_4, r7_cuts_5, r7_cuts_6, r7_chills_0, r7_chills_1, r7_chills_2, r7_chills_3, r7_chills_4, r7_chills_5, r7_chills_6, r7_counts_0, r7_counts_1, r7_counts_2, r7_counts_3, r7_counts_4, r7_counts_5, r7_counts_6, r7_tells_0, r7_tells_1, r7_tells_2, r7_tells_3, r7_tells_4, r7_tells_5, r7_tells_6, bdE1, bd3_id, hk, hm]
theorem vg_1_0 {t : Nat → Int32} {c : Nat} {who m x : Int32} {d : Nat → Int32} (hk : f_X7_of d who 0 = some 0) (hm : f_X7_of d who 1 = some m) (hc : c ≤ 40) : Gd (f_X7_countsBy 4 d t (nI c) who 0 x) := by
  simp only [r7_cuts_0, r7_cuts_1, r7_cuts_2, r7_cuts_3, r7_cuts_4, r7_cuts_5, r7_cuts_6, r7_chills_0, r7_chills_1, r7_chills_2, r7_chills_3, r7_chills_4, r7_chills_5, r7_chills_6, r7_counts_0, r7_counts_1, r7_counts_2, r7_counts_3, r7_counts_4, r7_counts_5, r7_counts_6, r7_tells_0, r7_tells_1, r7_tells_2, r7_tells_3, r7_tells_4, r7_tells_5, r7_tells_6, bdE1, bd3_id, hk, hm]
  repeat' first | exact Gd_s (by assumption) | refine Gd_b2 (by assumption) (fun _ _ _ => ?_) | refine Gd_b3 ?_ (fun _ _ _ _ => ?_)
theorem vo_1_1 {t : Nat → Int32} {c who m x : Int32} {d : Nat → Int32} (hk : f_X7_of d who 0 = some 1) (hm : f_X7_of d who 1 = some m) : g_X4_begin 8 t c 1 m who 1 1 x (nI 0) = f_X7_countsBy 4 d t c who 1 x := by
  simp (decide := true) only [bg_0_0, bg_0_1, bg_0_2, bg_0_3, bg_1_0, bg_1_1, bg_1_2, bg_1_3, bg_2_0, bg_2_1, bg_2_2, bg_2_3, bg_3_0, bg_3_1, bg_3_2, bg_3_3, bg_4_0, bg_4_1, bg_4_2, bg_4_3, bg_5_0, bg_5_1, bg_5_2, bg_5_3, bg_6_0, bg_6_1, bg_6_2, bg_6_3, rn_10, rn_11, rn_12, rn_13, rn_20, rn_30, rn_40, rn_50, rn_51, rn_60, rn_70, r7_cuts_0, r7_cuts_1, r7_cuts_2, r7_cuts_3, r7_cuts_4, r7_cuts_5, r7_cuts_6, r7_chills_0, r7_chills_1, r7_chills_2, r7_chills_3, r7_chills_4, r7_chills_5, r7_chills_6, r7_counts_0, r7_counts_1, r7_counts_2, r7_counts_3, r7_counts_4, r7_counts_5, r7_counts_6, r7_tells_0, r7_tells_1, r7_tells_2, r7_tells_3, r7_tells_4, r7_tells_5, r7_tells_6, bdE1, bd3_id, hk, hm]
theorem vg_1_1 {t : Nat → Int32} {c : Nat} {who m x : Int32} {d : Nat → Int32} (hk : f_X7_of d who 0 = some 1) (hm : f_X7_of d who 1 = some m) (hc : c ≤ 40) : Gd (f_X7_countsBy 4 d t (nI c) who 1 x) := by
  simp only [r7_cuts_0, r7_cuts_1, r7_cuts_2, r7_cuts_3, r7_cuts_4, r7_cuts_5, r7_cuts_6, r7_chills_0, r7_chills_1, r7_chills_2, r7_chills_3, r7_chills_4, r7_chills_5, r7_chills_6, r7_counts_0, r7_counts_1, r7_counts_2, r7_counts_3, r7_counts_4, r7_counts_5, r7_counts_6, r7_tells_0, r7_tells_1, r7_tells_2, r7_tells_3, r7_tells_4, r7_tells_5, r7_tells_6, bdE1, bd3_id, hk, hm]
  repeat' first | exact Gd_s (by assumption) | refine Gd_b2 (by assumption) (fun _ _ _ => ?_) | refine Gd_b3 ?_ (fun _ _ _ _ => ?_)
theorem vo_1_2 {t : Nat → Int32} {c who m x : Int32} {d : Nat → Int32} (hk : f_X7_of d who 0 = some 2) (hm : f_X7_of d who 1 = some m) : g_X4_begin 8 t c 2 m who 2 1 x (nI 0) = f_X7_countsBy 4 d t c who 2 x := by
  simp (decide := true) only [bg_0_0, bg_0_1, bg_0_2, bg_0_3, bg_1_0, bg_1_1, bg_1_2, bg_1_3, bg_2_0, bg_2_1, bg_2_2, bg_2_3, bg_3_0, bg_3_1, bg_3_2, bg_3_3, bg_4_0, bg_4_1, bg_4_2, bg_4_3, bg_5_0, bg_5_1, bg_5_2, bg_5_3, bg_6_0, bg_6_1, bg_6_2, bg_6_3, rn_10, rn_11, rn_12, rn_13, rn_20, rn_30, rn_40, rn_50, rn_51, rn_60, rn_70, r7_cuts_0, r7_cuts_1, r7_cuts_2, r7_cuts_3, r7_cuts_4, r7_cuts_5, r7_cuts_6, r7_chills_0, r7_chills_1, r7_chills_2, r7_chills_3, r7_chills_4, r7_chills_5, r7_chills_6, r7_counts_0, r7_counts_1, r7_counts_2, r7_counts_3, r7_counts_4, r7_counts_5, r7_counts_6, r7_tells_0, r7_tells_1, r7_tells_2, r7_tells_3, r7_tells_4, r7_tells_5, r7_tells_6, bdE1, bd3_id, hk, hm]
theorem vg_1_2 {t : Nat → Int32} {c : Nat} {who m x : Int32} {d : Nat → Int32} (hk : f_X7_of d who 0 = some 2) (hm : f_X7_of d who 1 = some m) (hc : c ≤ 40) : Gd (f_X7_countsBy 4 d t (nI c) who 2 x) := by
  simp only [r7_cuts_0, r7_cuts_1, r7_cuts_2, r7_cuts_3, r7_cuts_4, r7_cuts_5, r7_cuts_6, r7_chills_0, r7_chills_1, r7_chills_2, r7_chills_3, r7_chills_4, r7_chills_5, r7_chills_6, r7_counts_0, r7_counts_1, r7_counts_2, r7_counts_3, r7_counts_4, r7_counts_5, r7_counts_6, r7_tells_0, r7_tells_1, r7_tells_2, r7_tells_3, r7_tells_4, r7_tells_5, r7_tells_6, bdE1, bd3_id, hk, hm]
  repeat' first | exact Gd_s (by assumption) | refine Gd_b2 (by assumption) (fun _ _ _ => ?_) | refine Gd_b3 ?_ (fun _ _ _ _ => ?_)
theorem vo_1_3 {t : Nat → Int32} {c who m x : Int32} {d : Nat → Int32} (hk : f_X7_of d who 0 = some 3) (hm : f_X7_of d who 1 = some m) : g_X4_begin 8 t c 3 m who 3 1 x (nI 0) = f_X7_countsBy 4 d t c who 3 x := by
  simp (decide := true) only [bg_0_0, bg_0_1, bg_0_2, bg_0_3, bg_1_0, bg_1_1, bg_1_2, bg_1_3, bg_2_0, bg_2_1, bg_2_2, bg_2_3, bg_3_0, bg_3_1, bg_3_2, bg_3_3, bg_4_0, bg_4_1, bg_4_2, bg_4_3, bg_5_0, bg_5_1, bg_5_2, bg_5_3, bg_6_0, bg_6_1, bg_6_2, bg_6_3, rn_10, rn_11, rn_12, rn_13, rn_20, rn_30, rn_40, rn_50, rn_51, rn_60, rn_70, r7_cuts_0, r7_cuts_1, r7_cuts_2, r7_cuts_3, r7_cuts_4, r7_cuts_5, r7_cuts_6, r7_chills_0, r7_chills_1, r7_chills_2, r7_chills_3, r7_chills_4, r7_chills_5, r7_chills_6, r7_counts_0, r7_counts_1, r7_counts_2, r7_counts_3, r7_counts_4, r7_counts_5, r7_counts_6, r7_tells_0, r7_tells_1, r7_tells_2, r7_tells_3, r7_tells_4, r7_tells_5, r7_tells_6, bdE1, bd3_id, hk, hm]
theorem vg_1_3 {t : Nat → Int32} {c : Nat} {who m x : Int32} {d : Nat → Int32} (hk : f_X7_of d who 0 = some 3) (hm : f_X7_of d who 1 = some m) (hc : c ≤ 40) : Gd (f_X7_countsBy 4 d t (nI c) who 3 x) := by
  simp only [r7_cuts_0, r7_cuts_1, r7_cuts_2, r7_cuts_3, r7_cuts_4, r7_cuts_5, r7_cuts_6, r7_chills_0, r7_chills_1, r7_chills_2, r7_chills_3, r7_chills_4, r7_chills_5, r7_chills_6, r7_counts_0, r7_counts_1, r7_counts_2, r7_counts_3, r7_counts_4, r7_counts_5, r7_counts_6, r7_tells_0, r7_tells_1, r7_tells_2, r7_tells_3, r7_tells_4, r7_tells_5, r7_tells_6, bdE1, bd3_id, hk, hm]
  repeat' first | exact Gd_s (by assumption) | refine Gd_b2 (by assumption) (fun _ _ _ => ?_) | refine Gd_b3 ?_ (fun _ _ _ _ => ?_)
theorem vo_1_4 {t : Nat → Int32} {c who m x : Int32} {d : Nat → Int32} (hk : f_X7_of d who 0 = some 4) (hm : f_X7_of d who 1 = some m) : g_X4_begin 8 t c 4 m who 4 1 x (nI 0) = f_X7_countsBy 4 d t c who 4 x := by
  simp (decide := true) only [bg_0_0, bg_0_1, bg_0_2, bg_0_3, bg_1_0, bg_1_1, bg_1_2, bg_1_3, bg_2_0, bg_2_1, bg_2_2, bg_2_3, bg_3_0, bg_3_1, bg_3_2, bg_3_3, bg_4_0, bg_4_1, bg_4_2, bg_4_3, bg_5_0, bg_5_1, bg_5_2, bg_5_3, bg_6_0, bg_6_1, bg_6_2, bg_6_3, rn_10, rn_11, rn_12, rn_13, rn_20, rn_30, rn_40, rn_50, rn_51, rn_60, rn_70, r7_cuts_0, r7_cuts_1, r7_cuts_2, r7_cuts_3, r7_cuts_4, r7_cuts_5, r7_cuts_6, r7_chills_0, r7_chills_1, r7_chills_2, r7_chills_3, r7_chills_4, r7_chills_5, r7_chills_6, r7_counts_0, r7_counts_1, r7_counts_2, r7_counts_3, r7_counts_4, r7_counts_5, r7_counts_6, r7_tells_0, r7_tells_1, r7_tells_2, r7_tells_3, r7_tells_4, r7_tells_5, r7_tells_6, bdE1, bd3_id, hk, hm]
theorem vg_1_4 {t : Nat → Int32} {c : Nat} {who m x : Int32} {d : Nat → Int32} (hk : f_X7_of d who 0 = some 4) (hm : f_X7_of d who 1 = some m) (hc : c ≤ 40) : Gd (f_X7_countsBy 4 d t (nI c) who 4 x) := by
  simp only [r7_cuts_0, r7_cuts_1, r7_cuts_2, r7_cuts_3, r7_cuts_4, r7_cuts_5, r7_cuts_6, r7_chills_0, r7_chills_1, r7_chills_2, r7_chills_3, r7_chills_4, r7_chills_5, r7_chills_6, r7_counts_0, r7_counts_1, r7_counts_2, r7_counts_3, r7_counts_4, r7_counts_5, r7_counts_6, r7_tells_0, r7_tells_1, r7_tells_2, r7_tells_3, r7_tells_4, r7_tells_5, r7_tells_6, bdE1, bd3_id, hk, hm]
  repeat' first | exact Gd_s (by assumption) | refine Gd_b2 (by assumption) (fun _ _ _ => ?_) | refine Gd_b3 ?_ (fun _ _ _ _ => ?_)
theorem vo_1_5 {t : Nat → Int32} {c who m x : Int32} {d : Nat → Int32} (hk : f_X7_of d who 0 = some 5) (hm : f_X7_of d who 1 = some m) : g_X4_begin 8 t c 5 m who 5 1 x (nI 0) = f_X7_countsBy 4 d t c who 5 x := by
  simp (decide := true) only [bg_0_0, bg_0_1, bg_0_2, bg_0_3, bg_1_0, bg_1_1, bg_1_2, bg_1_3, bg_2_0, bg_2_1, bg_2_2, bg_2_3, bg_3_0, bg_3_1, bg_3_2, bg_3_3, bg_4_0, bg_4_1, bg_4_2, bg_4_3, bg_5_0, bg_5_1, bg_5_2, bg_5_3, bg_6_0, bg_6_1, bg_6_2, bg_6_3, rn_10, rn_11, rn_12, rn_13, rn_20, rn_30, rn_40, rn_50, rn_51, rn_60, rn_70, r7_cuts_0, r7_cuts_1, r7_cuts_2, r7_cuts_3, r7_cuts_4, r7_cuts_5, r7_cuts_6, r7_chills_0, r7_chills_1, r7_chills_2, r7_chills_3, r7_chills_4, r7_chills_5, r7_chills_6, r7_counts_0, r7_counts_1, r7_counts_2, r7_counts_3, r7_counts_4, r7_counts_5, r7_counts_6, r7_tells_0, r7_tells_1, r7_tells_2, r7_tells_3, r7_tells_4, r7_tells_5, r7_tells_6, bdE1, bd3_id, hk, hm]
theorem vg_1_5 {t : Nat → Int32} {c : Nat} {who m x : Int32} {d : Nat → Int32} (hk : f_X7_of d who 0 = some 5) (hm : f_X7_of d who 1 = some m) (hc : c ≤ 40) : Gd (f_X7_countsBy 4 d t (nI c) who 5 x) := by
  simp only [r7_cuts_0, r7_cuts_1, r7_cuts_2, r7_cuts_3, r7_cuts_4, r7_cuts_5, r7_cuts_6, r7_chills_0, r7_chills_1, r7_chills_2, r7_chills_3, r7_chills_4, r7_chills_5, r7_chills_6, r7_counts_0, r7_counts_1, r7_counts_2, r7_counts_3, r7_counts_4, r7_counts_5, r7_counts_6, r7_tells_0, r7_tells_1, r7_tells_2, r7_tells_3, r7_tells_4, r7_tells_5, r7_tells_6, bdE1, bd3_id, hk, hm]
  repeat' first | exact Gd_s (by assumption) | refine Gd_b2 (by assumption) (fun _ _ _ => ?_) | refine Gd_b3 ?_ (fun _ _ _ _ => ?_)
theorem vo_1_6 {t : Nat → Int32} {c who m x : Int32} {d : Nat → Int32} (hk : f_X7_of d who 0 = some 6) (hm : f_X7_of d who 1 = some m) : g_X4_begin 8 t c 6 m who 6 1 x (nI 0) = f_X7_countsBy 4 d t c who 6 x := by
  simp (decide := true) only [bg_0_0, bg_0_1, bg_0_2, bg_0_3, bg_1_0, bg_1_1, bg_1_2, bg_1_3, bg_2_0, bg_2_1, bg_2_2, bg_2_3, bg_3_0, bg_3_1, bg_3_2, bg_3_3, bg_4_0, bg_4_1, bg_4_2, bg_4_3, bg_5_0, bg_5_1, bg_5_2, bg_5_3, bg_6_0, bg_6_1, bg_6_2, bg_6_3, rn_10, rn_11, rn_12, rn_13, rn_20, rn_30, rn_40, rn_50, rn_51, rn_60, rn_70, r7_cuts_0, r7_cuts_1, r7_cuts_2, r7_cuts_3, r7_cuts_4, r7_cuts_5, r7_cuts_6, r7_chills_0, r7_chills_1, r7_chills_2, r7_chills_3, r7_chills_4, r7_chills_5, r7_chills_6, r7_counts_0, r7_counts_1, r7_counts_2, r7_counts_3, r7_counts_4, r7_counts_5, r7_counts_6, r7_tells_0, r7_tells_1, r7_tells_2, r7_tells_3, r7_tells_4, r7_tells_5, r7_tells_6, bdE1, bd3_id, hk, hm]
theorem vg_1_6 {t : Nat → Int32} {c : Nat} {who m x : Int32} {d : Nat → Int32} (hk : f_X7_of d who 0 = some 6) (hm : f_X7_of d who 1 = some m) (hc : c ≤ 40) : Gd (f_X7_countsBy 4 d t (nI c) who 6 x) := by
  simp only [r7_cuts_0, r7_cuts_1, r7_cuts_2, r7_cuts_3, r7_cuts_4, r7_cuts_5, r7_cuts_6, r7_chills_0, r7_chills_1, r7_chills_2, r7_chills_3, r7_chills_4, r7_chills_5, r7_chills_6, r7_counts_0, r7_counts_1, r7_counts_2, r7_counts_3, r7_counts_4, r7_counts_5, r7_counts_6, r7_tells_0, r7_tells_1, r7_tells_2, r7_tells_3, r7_tells_4, r7_tells_5, r7_tells_6, bdE1, bd3_id, hk, hm]
  repeat' first | exact Gd_s (by assumption) | refine Gd_b2 (by assumption) (fun _ _ _ => ?_) | refine Gd_b3 ?_ (fun _ _ _ _ => ?_)
theorem vo_2_0 {t : Nat → Int32} {c who m x : Int32} {d : Nat → Int32} (hk : f_X7_of d who 0 = some 0) (hm : f_X7_of d who 1 = some m) : g_X4_begin 8 t c 0 m who 0 2 x (nI 0) = f_X7_chillsBy 4 d t c who 0 x := by
  simp (decide := true) only [bg_0_0, bg_0_1, bg_0_2, bg_0_3, bg_1_0, bg_1_1, bg_1_2, bg_1_3, bg_2_0, bg_2_1, bg_2_2, bg_2_3, bg_3_0, bg_3_1, bg_3_2, bg_3_3, bg_4_0, bg_4_1, bg_4_2, bg_4_3, bg_5_0, bg_5_1, bg_5_2, bg_5_3, bg_6_0, bg_6_1, bg_6_2, bg_6_3, rn_10, rn_11, rn_12, rn_13, rn_20, rn_30, rn_40, rn_50, rn_51, rn_60, rn_70, r7_cuts_0, r7_cuts_1, r7_cuts_2, r7_cuts_3, r7_cuts_4, r7_cuts_5, r7_cuts_6, r7_chills_0, r7_chills_1, r7_chills_2, r7_chills_3, r7_chills_4, r7_chills_5, r7_chills_6, r7_counts_0, r7_counts_1, r7_counts_2, r7_counts_3, r7_counts_4, r7_counts_5, r7_counts_6, r7_tells_0, r7_tells_1, r7_tells_2, r7_tells_3, r7_tells_4, r7_tells_5, r7_tells_6, bdE1, bd3_id, hk, hm]
theorem vg_2_0 {t : Nat → Int32} {c : Nat} {who m x : Int32} {d : Nat → Int32} (hk : f_X7_of d who 0 = some 0) (hm : f_X7_of d who 1 = some m) (hc : c ≤ 40) : Gd (f_X7_chillsBy 4 d t (nI c) who 0 x) := by
  simp only [r7_cuts_0, r7_cuts_1, r7_cuts_2, r7_cuts_3, r7_cuts_4, r7_cuts_5, r7_cuts_6, r7_chills_0, r7_chills_1, r7_chills_2, r7_chills_3, r7_chills_4, r7_chills_5, r7_chills_6, r7_counts_0, r7_counts_1, r7_counts_2, r7_counts_3, r7_counts_4, r7_counts_5, r7_counts_6, r7_tells_0, r7_tells_1, r7_tells_2, r7_tells_3, r7_tells_4, r7_tells_5, r7_tells_6, bdE1, bd3_id, hk, hm]
  repeat' first | exact Gd_s (by assumption) | refine Gd_b2 (by assumption) (fun _ _ _ => ?_) | refine Gd_b3 ?_ (fun _ _ _ _ => ?_)
theorem vo_2_1 {t : Nat → Int32} {c who m x : Int32} {d : Nat → Int32} (hk : f_X7_of d who 0 = some 1) (hm : f_X7_of d who 1 = some m) : g_X4_begin 8 t c 1 m who 1 2 x (nI 0) = f_X7_chillsBy 4 d t c who 1 x := by
  simp (decide := true) only [bg_0_0, bg_0_1, bg_0_2, bg_0_3, bg_1_0, bg_1_1, bg_1_2, bg_1_3, bg_2_0, bg_2_1, bg_2_2, bg_2_3, bg_3_0, bg_3_1, bg_3_2, bg_3_3, bg_4_0, bg_4_1, bg_4_2, bg_4_3, bg_5_0, bg_5_1, bg_5_2, bg_5_3, bg_6_0, bg_6_1, bg_6_2, bg_6_3, rn_10, rn_11, rn_12, rn_13, rn_20, rn_30, rn_40, rn_50, rn_51, rn_60, rn_70, r7_cuts_0, r7_cuts_1, r7_cuts_2, r7_cuts_3, r7_cuts_4, r7_cuts_5, r7_cuts_6, r7_chills_0, r7_chills_1, r7_chills_2, r7_chills_3, r7_chills_4, r7_chills_5, r7_chills_6, r7_counts_0, r7_counts_1, r7_counts_2, r7_counts_3, r7_counts_4, r7_counts_5, r7_counts_6, r7_tells_0, r7_tells_1, r7_tells_2, r7_tells_3, r7_tells_4, r7_tells_5, r7_tells_6, bdE1, bd3_id, hk, hm]
theorem vg_2_1 {t : Nat → Int32} {c : Nat} {who m x : Int32} {d : Nat → Int32} (hk : f_X7_of d who 0 = some 1) (hm : f_X7_of d who 1 = some m) (hc : c ≤ 40) : Gd (f_X7_chillsBy 4 d t (nI c) who 1 x) := by
  simp only [r7_cuts_0, r7_cuts_1, r7_cuts_2, r7_cuts_3, r7_cuts_4, r7_cuts_5, r7_cuts_6, r7_chills_0, r7_chills_1, r7_chills_2, r7_chills_3, r7_chills_4, r7_chills_5, r7_chills_6, r7_counts_0, r7_counts_1, r7_counts_2, r7_counts_3, r7_counts_4, r7_counts_5, r7_counts_6, r7_tells_0, r7_tells_1, r7_tells_2, r7_tells_3, r7_tells_4, r7_tells_5, r7_tells_6, bdE1, bd3_id, hk, hm]
  repeat' first | exact Gd_s (by assumption) | refine Gd_b2 (by assumption) (fun _ _ _ => ?_) | refine Gd_b3 ?_ (fun _ _ _ _ => ?_)
theorem vo_2_2 {t : Nat → Int32} {c who m x : Int32} {d : Nat → Int32} (hk : f_X7_of d who 0 = some 2) (hm : f_X7_of d who 1 = some m) : g_X4_begin 8 t c 2 m who 2 2 x (nI 0) = f_X7_chillsBy 4 d t c who 2 x := by
  simp (decide := true) only [bg_0_0, bg_0_1, bg_0_2, bg_0_3, bg_1_0, bg_1_1, bg_1_2, bg_1_3, bg_2_0, bg_2_1, bg_2_2, bg_2_3, bg_3_0, bg_3_1, bg_3_2, bg_3_3, bg_4_0, bg_4_1, bg_4_2, bg_4_3, bg_5_0, bg_5_1, bg_5_2, bg_5_3, bg_6_0, bg_6_1, bg_6_2, bg_6_3, rn_10, rn_11, rn_12, rn_13, rn_20, rn_30, rn_40, rn_50, rn_51, rn_60, rn_70, r7_cuts_0, r7_cuts_1, r7_cuts_2, r7_cuts_3, r7_cuts_4, r7_cuts_5, r7_cuts_6, r7_chills_0, r7_chills_1, r7_chills_2, r7_chills_3, r7_chills_4, r7_chills_5, r7_chills_6, r7_counts_0, r7_counts_1, r7_counts_2, r7_counts_3, r7_counts_4, r7_counts_5, r7_counts_6, r7_tells_0, r7_tells_1, r7_tells_2, r7_tells_3, r7_tells_4, r7_tells_5, r7_tells_6, bdE1, bd3_id, hk, hm]
theorem vg_2_2 {t : Nat → Int32} {c : Nat} {who m x : Int32} {d : Nat → Int32} (hk : f_X7_of d who 0 = some 2) (hm : f_X7_of d who 1 = some m) (hc : c ≤ 40) : Gd (f_X7_chillsBy 4 d t (nI c) who 2 x) := by
  simp only [r7_cuts_0, r7_cuts_1, r7_cuts_2, r7_cuts_3, r7_cuts_4, r7_cuts_5, r7_cuts_6, r7_chills_0, r7_chills_1, r7_chills_2, r7_chills_3, r7_chills_4, r7_chills_5, r7_chills_6, r7_counts_0, r7_counts_1, r7_counts_2, r7_counts_3, r7_counts_4, r7_counts_5, r7_counts_6, r7_tells_0, r7_tells_1, r7_tells_2, r7_tells_3, r7_tells_4, r7_tells_5, r7_tells_6, bdE1, bd3_id, hk, hm]
  repeat' first | exact Gd_s (by assumption) | refine Gd_b2 (by assumption) (fun _ _ _ => ?_) | refine Gd_b3 ?_ (fun _ _ _ _ => ?_)
theorem vo_2_3 {t : Nat → Int32} {c who m x : Int32} {d : Nat → Int32} (hk : f_X7_of d who 0 = some 3) (hm : f_X7_of d who 1 = some m) : g_X4_begin 8 t c 3 m who 3 2 x (nI 0) = f_X7_chillsBy 4 d t c who 3 x := by
  simp (decide := true) only [bg_0_0, bg_0_1, bg_0_2, bg_0_3, bg_1_0, bg_1_1, bg_1_2, bg_1_3, bg_2_0, bg_2_1, bg_2_2, bg_2_3, bg_3_0, bg_3_1, bg_3_2, bg_3_3, bg_4_0, bg_4_1, bg_4_2, bg_4_3, bg_5_0, bg_5_1, bg_5_2, bg_5_3, bg_6_0, bg_6_1, bg_6_2, bg_6_3, rn_10, rn_11, rn_12, rn_13, rn_20, rn_30, rn_40, rn_50, rn_51, rn_60, rn_70, r7_cuts_0, r7_cuts_1, r7_cuts_2, r7_cuts_3, r7_cuts_4, r7_cuts_5, r7_cuts_6, r7_chills_0, r7_chills_1, r7_chills_2, r7_chills_3, r7_chills_4, r7_chills_5, r7_chills_6, r7_counts_0, r7_counts_1, r7_counts_2, r7_counts_3, r7_counts_4, r7_counts_5, r7_counts_6, r7_tells_0, r7_tells_1, r7_tells_2, r7_tells_3, r7_tells_4, r7_tells_5, r7_tells_6, bdE1, bd3_id, hk, hm]
theorem vg_2_3 {t : Nat → Int32} {c : Nat} {who m x : Int32} {d : Nat → Int32} (hk : f_X7_of d who 0 = some 3) (hm : f_X7_of d who 1 = some m) (hc : c ≤ 40) : Gd (f_X7_chillsBy 4 d t (nI c) who 3 x) := by
  simp only [r7_cuts_0, r7_cuts_1, r7_cuts_2, r7_cuts_3, r7_cuts_4, r7_cuts_5, r7_cuts_6, r7_chills_0, r7_chills_1, r7_chills_2, r7_chills_3, r7_chills_4, r7_chills_5, r7_chills_6, r7_counts_0, r7_counts_1, r7_counts_2, r7_counts_3, r7_counts_4, r7_counts_5, r7_counts_6, r7_tells_0, r7_tells_1, r7_tells_2, r7_tells_3, r7_tells_4, r7_tells_5, r7_tells_6, bdE1, bd3_id, hk, hm]
  repeat' first | exact Gd_s (by assumption) | refine Gd_b2 (by assumption) (fun _ _ _ => ?_) | refine Gd_b3 ?_ (fun _ _ _ _ => ?_)
theorem vo_2_4 {t : Nat → Int32} {c who m x : Int32} {d : Nat → Int32} (hk : f_X7_of d who 0 = some 4) (hm : f_X7_of d who 1 = some m) : g_X4_begin 8 t c 4 m who 4 2 x (nI 0) = f_X7_chillsBy 4 d t c who 4 x := by
  simp (decide := true) only [bg_0_0, bg_0_1, bg_0_2, bg_0_3, bg_1_0, bg_1_1, bg_1_2, bg_1_3, bg_2_0, bg_2_1, bg_2_2, bg_2_3, bg_3_0, bg_3_1, bg_3_2, bg_3_3, bg_4_0, bg_4_1, bg_4_2, bg_4_3, bg_5_0, bg_5_1, bg_5_2, bg_5_3, bg_6_0, bg_6_1, bg_6_2, bg_6_3, rn_10, rn_11, rn_12, rn_13, rn_20, rn_30, rn_40, rn_50, rn_51, rn_60, rn_70, r7_cuts_0, r7_cuts_1, r7_cuts_2, r7_cuts_3, r7_cuts_4, r7_cuts_5, r7_cuts_6, r7_chills_0, r7_chills_1, r7_chills_2, r7_chills_3, r7_chills_4, r7_chills_5, r7_chills_6, r7_counts_0, r7_counts_1, r7_counts_2, r7_counts_3, r7_counts_4, r7_counts_5, r7_counts_6, r7_tells_0, r7_tells_1, r7_tells_2, r7_tells_3, r7_tells_4, r7_tells_5, r7_tells_6, bdE1, bd3_id, hk, hm]
theorem vg_2_4 {t : Nat → Int32} {c : Nat} {who m x : Int32} {d : Nat → Int32} (hk : f_X7_of d who 0 = some 4) (hm : f_X7_of d who 1 = some m) (hc : c ≤ 40) : Gd (f_X7_chillsBy 4 d t (nI c) who 4 x) := by
  simp only [r7_cuts_0, r7_cuts_1, r7_cuts_2, r7_cuts_3, r7_cuts_4, r7_cuts_5, r7_cuts_6, r7_chills_0, r7_chills_1, r7_chills_2, r7_chills_3, r7_chills_4, r7_chills_5, r7_chills_6, r7_counts_0, r7_counts_1, r7_counts_2, r7_counts_3, r7_counts_4, r7_counts_5, r7_counts_6, r7_tells_0, r7_tells_1, r7_tells_2, r7_tells_3, r7_tells_4, r7_tells_5, r7_tells_6, bdE1, bd3_id, hk, hm]
  repeat' first | exact Gd_s (by assumption) | refine Gd_b2 (by assumption) (fun _ _ _ => ?_) | refine Gd_b3 ?_ (fun _ _ _ _ => ?_)
theorem vo_2_5 {t : Nat → Int32} {c who m x : Int32} {d : Nat → Int32} (hk : f_X7_of d who 0 = some 5) (hm : f_X7_of d who 1 = some m) : g_X4_begin 8 t c 5 m who 5 2 x (nI 0) = f_X7_chillsBy 4 d t c who 5 x := by
  simp (decide := true) only [bg_0_0, bg_0_1, bg_0_2, bg_0_3, bg_1_0, bg_1_1, bg_1_2, bg_1_3, bg_2_0, bg_2_1, bg_2_2, bg_2_3, bg_3_0, bg_3_1, bg_3_2, bg_3_3, bg_4_0, bg_4_1, bg_4_2, bg_4_3, bg_5_0, bg_5_1, bg_5_2, bg_5_3, bg_6_0, bg_6_1, bg_6_2, bg_6_3, rn_10, rn_11, rn_12, rn_13, rn_20, rn_30, rn_40, rn_50, rn_51, rn_60, rn_70, r7_cuts_0, r7_cuts_1, r7_cuts_2, r7_cuts_3, r7_cuts_4, r7_cuts_5, r7_cuts_6, r7_chills_0, r7_chills_1, r7_chills_2, r7_chills_3, r7_chills_4, r7_chills_5, r7_chills_6, r7_counts_0, r7_counts_1, r7_counts_2, r7_counts_3, r7_counts_4, r7_counts_5, r7_counts_6, r7_tells_0, r7_tells_1, r7_tells_2, r7_tells_3, r7_tells_4, r7_tells_5, r7_tells_6, bdE1, bd3_id, hk, hm]
theorem vg_2_5 {t : Nat → Int32} {c : Nat} {who m x : Int32} {d : Nat → Int32} (hk : f_X7_of d who 0 = some 5) (hm : f_X7_of d who 1 = some m) (hc : c ≤ 40) : Gd (f_X7_chillsBy 4 d t (nI c) who 5 x) := by
  simp only [r7_cuts_0, r7_cuts_1, r7_cuts_2, r7_cuts_3, r7_cuts_4, r7_cuts_5, r7_cuts_6, r7_chills_0, r7_chills_1, r7_chills_2, r7_chills_3, r7_chills_4, r7_chills_5, r7_chills_6, r7_counts_0, r7_counts_1, r7_counts_2, r7_counts_3, r7_counts_4, r7_counts_5, r7_counts_6, r7_tells_0, r7_tells_1, r7_tells_2, r7_tells_3, r7_tells_4, r7_tells_5, r7_tells_6, bdE1, bd3_id, hk, hm]
  repeat' first | exact Gd_s (by assumption) | refine Gd_b2 (by assumption) (fun _ _ _ => ?_) | refine Gd_b3 ?_ (fun _ _ _ _ => ?_)
theorem vo_2_6 {t : Nat → Int32} {c who m x : Int32} {d : Nat → Int32} (hk : f_X7_of d who 0 = some 6) (hm : f_X7_of d who 1 = some m) : g_X4_begin 8 t c 6 m who 6 2 x (nI 0) = f_X7_chillsBy 4 d t c who 6 x := by
  simp (decide := true) only [bg_0_0, bg_0_1, bg_0_2, bg_0_3, bg_1_0, bg_1_1, bg_1_2, bg_1_3, bg_2_0, bg_2_1, bg_2_2, bg_2_3, bg_3_0, bg_3_1, bg_3_2, bg_3_3, bg_4_0, bg_4_1, bg_4_2, bg_4_3, bg_5_0, bg_5_1, bg_5_2, bg_5_3, bg_6_0, bg_6_1, bg_6_2, bg_6_3, rn_10, rn_11, rn_12, rn_13, rn_20, rn_30, rn_40, rn_50, rn_51, rn_60, rn_70, r7_cuts_0, r7_cuts_1, r7_cuts_2, r7_cuts_3, r7_cuts_4, r7_cuts_5, r7_cuts_6, r7_chills_0, r7_chills_1, r7_chills_2, r7_chills_3, r7_chills_4, r7_chills_5, r7_chills_6, r7_counts_0, r7_counts_1, r7_counts_2, r7_counts_3, r7_counts_4, r7_counts_5, r7_counts_6, r7_tells_0, r7_tells_1, r7_tells_2, r7_tells_3, r7_tells_4, r7_tells_5, r7_tells_6, bdE1, bd3_id, hk, hm]
theorem vg_2_6 {t : Nat → Int32} {c : Nat} {who m x : Int32} {d : Nat → Int32} (hk : f_X7_of d who 0 = some 6) (hm : f_X7_of d who 1 = some m) (hc : c ≤ 40) : Gd (f_X7_chillsBy 4 d t (nI c) who 6 x) := by
  simp only [r7_cuts_0, r7_cuts_1, r7_cuts_2, r7_cuts_3, r7_cuts_4, r7_cuts_5, r7_cuts_6, r7_chills_0, r7_chills_1, r7_chills_2, r7_chills_3, r7_chills_4, r7_chills_5, r7_chills_6, r7_counts_0, r7_counts_1, r7_counts_2, r7_counts_3, r7_counts_4, r7_counts_5, r7_counts_6, r7_tells_0, r7_tells_1, r7_tells_2, r7_tells_3, r7_tells_4, r7_tells_5, r7_tells_6, bdE1, bd3_id, hk, hm]
  repeat' first | exact Gd_s (by assumption) | refine Gd_b2 (by assumption) (fun _ _ _ => ?_) | refine Gd_b3 ?_ (fun _ _ _ _ => ?_)
theorem vo_3_0 {t : Nat → Int32} {c who m x : Int32} {d : Nat → Int32} (hk : f_X7_of d who 0 = some 0) (hm : f_X7_of d who 1 = some m) : g_X4_begin 8 t c 0 m who 0 3 x (nI 0) = f_X7_tellsBy 4 d t c who 0 x := by
  simp (decide := true) only [bg_0_0, bg_0_1, bg_0_2, bg_0_3, bg_1_0, bg_1_1, bg_1_2, bg_1_3, bg_2_0, bg_2_1, bg_2_2, bg_2_3, bg_3_0, bg_3_1, bg_3_2, bg_3_3, bg_4_0, bg_4_1, bg_4_2, bg_4_3, bg_5_0, bg_5_1, bg_5_2, bg_5_3, bg_6_0, bg_6_1, bg_6_2, bg_6_3, rn_10, rn_11, rn_12, rn_13, rn_20, rn_30, rn_40, rn_50, rn_51, rn_60, rn_70, r7_cuts_0, r7_cuts_1, r7_cuts_2, r7_cuts_3, r7_cuts_4, r7_cuts_5, r7_cuts_6, r7_chills_0, r7_chills_1, r7_chills_2, r7_chills_3, r7_chills_4, r7_chills_5, r7_chills_6, r7_counts_0, r7_counts_1, r7_counts_2, r7_counts_3, r7_counts_4, r7_counts_5, r7_counts_6, r7_tells_0, r7_tells_1, r7_tells_2, r7_tells_3, r7_tells_4, r7_tells_5, r7_tells_6, bdE1, bd3_id, hk, hm]
theorem vg_3_0 {t : Nat → Int32} {c : Nat} {who m x : Int32} {d : Nat → Int32} (hk : f_X7_of d who 0 = some 0) (hm : f_X7_of d who 1 = some m) (hc : c ≤ 40) : Gd (f_X7_tellsBy 4 d t (nI c) who 0 x) := by
  simp only [r7_cuts_0, r7_cuts_1, r7_cuts_2, r7_cuts_3, r7_cuts_4, r7_cuts_5, r7_cuts_6, r7_chills_0, r7_chills_1, r7_chills_2, r7_chills_3, r7_chills_4, r7_chills_5, r7_chills_6, r7_counts_0, r7_counts_1, r7_counts_2, r7_counts_3, r7_counts_4, r7_counts_5, r7_counts_6, r7_tells_0, r7_tells_1, r7_tells_2, r7_tells_3, r7_tells_4, r7_tells_5, r7_tells_6, bdE1, bd3_id, hk, hm]
  repeat' first | exact Gd_s (by assumption) | refine Gd_b2 (by assumption) (fun _ _ _ => ?_) | refine Gd_b3 ?_ (fun _ _ _ _ => ?_)
theorem vo_3_1 {t : Nat → Int32} {c who m x : Int32} {d : Nat → Int32} (hk : f_X7_of d who 0 = some 1) (hm : f_X7_of d who 1 = some m) : g_X4_begin 8 t c 1 m who 1 3 x (nI 0) = f_X7_tellsBy 4 d t c who 1 x := by
  simp (decide := true) only [bg_0_0, bg_0_1, bg_0_2, bg_0_3, bg_1_0, bg_1_1, bg_1_2, bg_1_3, bg_2_0, bg_2_1, bg_2_2, bg_2_3, bg_3_0, bg_3_1, bg_3_2, bg_3_3, bg_4_0, bg_4_1, bg_4_2, bg_4_3, bg_5_0, bg_5_1, bg_5_2, bg_5_3, bg_6_0, bg_6_1, bg_6_2, bg_6_3, rn_10, rn_11, rn_12, rn_13, rn_20, rn_30, rn_40, rn_50, rn_51, rn_60, rn_70, r7_cuts_0, r7_cuts_1, r7_cuts_2, r7_cuts_3, r7_cuts_4, r7_cuts_5, r7_cuts_6, r7_chills_0, r7_chills_1, r7_chills_2, r7_chills_3, r7_chills_4, r7_chills_5, r7_chills_6, r7_counts_0, r7_counts_1, r7_counts_2, r7_counts_3, r7_counts_4, r7_counts_5, r7_counts_6, r7_tells_0, r7_tells_1, r7_tells_2, r7_tells_3, r7_tells_4, r7_tells_5, r7_tells_6, bdE1, bd3_id, hk, hm]
theorem vg_3_1 {t : Nat → Int32} {c : Nat} {who m x : Int32} {d : Nat → Int32} (hk : f_X7_of d who 0 = some 1) (hm : f_X7_of d who 1 = some m) (hc : c ≤ 40) : Gd (f_X7_tellsBy 4 d t (nI c) who 1 x) := by
  simp only [r7_cuts_0, r7_cuts_1, r7_cuts_2, r7_cuts_3, r7_cuts_4, r7_cuts_5, r7_cuts_6, r7_chills_0, r7_chills_1, r7_chills_2, r7_chills_3, r7_chills_4, r7_chills_5, r7_chills_6, r7_counts_0, r7_counts_1, r7_counts_2, r7_counts_3, r7_counts_4, r7_counts_5, r7_counts_6, r7_tells_0, r7_tells_1, r7_tells_2, r7_tells_3, r7_tells_4, r7_tells_5, r7_tells_6, bdE1, bd3_id, hk, hm]
  repeat' first | exact Gd_s (by assumption) | refine Gd_b2 (by assumption) (fun _ _ _ => ?_) | refine Gd_b3 ?_ (fun _ _ _ _ => ?_)
theorem vo_3_2 {t : Nat → Int32} {c who m x : Int32} {d : Nat → Int32} (hk : f_X7_of d who 0 = some 2) (hm : f_X7_of d who 1 = some m) : g_X4_begin 8 t c 2 m who 2 3 x (nI 0) = f_X7_tellsBy 4 d t c who 2 x := by
  simp (decide := true) only [bg_0_0, bg_0_1, bg_0_2, bg_0_3, bg_1_0, bg_1_1, bg_1_2, bg_1_3, bg_2_0, bg_2_1, bg_2_2, bg_2_3, bg_3_0, bg_3_1, bg_3_2, bg_3_3, bg_4_0, bg_4_1, bg_4_2, bg_4_3, bg_5_0, bg_5_1, bg_5_2, bg_5_3, bg_6_0, bg_6_1, bg_6_2, bg_6_3, rn_10, rn_11, rn_12, rn_13, rn_20, rn_30, rn_40, rn_50, rn_51, rn_60, rn_70, r7_cuts_0, r7_cuts_1, r7_cuts_2, r7_cuts_3, r7_cuts_4, r7_cuts_5, r7_cuts_6, r7_chills_0, r7_chills_1, r7_chills_2, r7_chills_3, r7_chills_4, r7_chills_5, r7_chills_6, r7_counts_0, r7_counts_1, r7_counts_2, r7_counts_3, r7_counts_4, r7_counts_5, r7_counts_6, r7_tells_0, r7_tells_1, r7_tells_2, r7_tells_3, r7_tells_4, r7_tells_5, r7_tells_6, bdE1, bd3_id, hk, hm]
theorem vg_3_2 {t : Nat → Int32} {c : Nat} {who m x : Int32} {d : Nat → Int32} (hk : f_X7_of d who 0 = some 2) (hm : f_X7_of d who 1 = some m) (hc : c ≤ 40) : Gd (f_X7_tellsBy 4 d t (nI c) who 2 x) := by
  simp only [r7_cuts_0, r7_cuts_1, r7_cuts_2, r7_cuts_3, r7_cuts_4, r7_cuts_5, r7_cuts_6, r7_chills_0, r7_chills_1, r7_chills_2, r7_chills_3, r7_chills_4, r7_chills_5, r7_chills_6, r7_counts_0, r7_counts_1, r7_counts_2, r7_counts_3, r7_counts_4, r7_counts_5, r7_counts_6, r7_tells_0, r7_tells_1, r7_tells_2, r7_tells_3, r7_tells_4, r7_tells_5, r7_tells_6, bdE1, bd3_id, hk, hm]
  repeat' first | exact Gd_s (by assumption) | refine Gd_b2 (by assumption) (fun _ _ _ => ?_) | refine Gd_b3 ?_ (fun _ _ _ _ => ?_)
theorem vo_3_3 {t : Nat → Int32} {c who m x : Int32} {d : Nat → Int32} (hk : f_X7_of d who 0 = some 3) (hm : f_X7_of d who 1 = some m) : g_X4_begin 8 t c 3 m who 3 3 x (nI 0) = f_X7_tellsBy 4 d t c who 3 x := by
  simp (decide := true) only [bg_0_0, bg_0_1, bg_0_2, bg_0_3, bg_1_0, bg_1_1, bg_1_2, bg_1_3, bg_2_0, bg_2_1, bg_2_2, bg_2_3, bg_3_0, bg_3_1, bg_3_2, bg_3_3, bg_4_0, bg_4_1, bg_4_2, bg_4_3, bg_5_0, bg_5_1, bg_5_2, bg_5_3, bg_6_0, bg_6_1, bg_6_2, bg_6_3, rn_10, rn_11, rn_12, rn_13, rn_20, rn_30, rn_40, rn_50, rn_51, rn_60, rn_70, r7_cuts_0, r7_cuts_1, r7_cuts_2, r7_cuts_3, r7_cuts_4, r7_cuts_5, r7_cuts_6, r7_chills_0, r7_chills_1, r7_chills_2, r7_chills_3, r7_chills_4, r7_chills_5, r7_chills_6, r7_counts_0, r7_counts_1, r7_counts_2, r7_counts_3, r7_counts_4, r7_counts_5, r7_counts_6, r7_tells_0, r7_tells_1, r7_tells_2, r7_tells_3, r7_tells_4, r7_tells_5, r7_tells_6, bdE1, bd3_id, hk, hm]
theorem vg_3_3 {t : Nat → Int32} {c : Nat} {who m x : Int32} {d : Nat → Int32} (hk : f_X7_of d who 0 = some 3) (hm : f_X7_of d who 1 = some m) (hc : c ≤ 40) : Gd (f_X7_tellsBy 4 d t (nI c) who 3 x) := by
  simp only [r7_cuts_0, r7_cuts_1, r7_cuts_2, r7_cuts_3, r7_cuts_4, r7_cuts_5, r7_cuts_6, r7_chills_0, r7_chills_1, r7_chills_2, r7_chills_3, r7_chills_4, r7_chills_5, r7_chills_6, r7_counts_0, r7_counts_1, r7_counts_2, r7_counts_3, r7_counts_4, r7_counts_5, r7_counts_6, r7_tells_0, r7_tells_1, r7_tells_2, r7_tells_3, r7_tells_4, r7_tells_5, r7_tells_6, bdE1, bd3_id, hk, hm]
  repeat' first | exact Gd_s (by assumption) | refine Gd_b2 (by assumption) (fun _ _ _ => ?_) | refine Gd_b3 ?_ (fun _ _ _ _ => ?_)
theorem vo_3_4 {t : Nat → Int32} {c who m x : Int32} {d : Nat → Int32} (hk : f_X7_of d who 0 = some 4) (hm : f_X7_of d who 1 = some m) : g_X4_begin 8 t c 4 m who 4 3 x (nI 0) = f_X7_tellsBy 4 d t c who 4 x := by
  simp (decide := true) only [bg_0_0, bg_0_1, bg_0_2, bg_0_3, bg_1_0, bg_1_1, bg_1_2, bg_1_3, bg_2_0, bg_2_1, bg_2_2, bg_2_3, bg_3_0, bg_3_1, bg_3_2, bg_3_3, bg_4_0, bg_4_1, bg_4_2, bg_4_3, bg_5_0, bg_5_1, bg_5_2, bg_5_3, bg_6_0, bg_6_1, bg_6_2, bg_6_3, rn_10, rn_11, rn_12, rn_13, rn_20, rn_30, rn_40, rn_50, rn_51, rn_60, rn_70, r7_cuts_0, r7_cuts_1, r7_cuts_2, r7_cuts_3, r7_cuts_4, r7_cuts_5, r7_cuts_6, r7_chills_0, r7_chills_1, r7_chills_2, r7_chills_3, r7_chills_4, r7_chills_5, r7_chills_6, r7_counts_0, r7_counts_1, r7_counts_2, r7_counts_3, r7_counts_4, r7_counts_5, r7_counts_6, r7_tells_0, r7_tells_1, r7_tells_2, r7_tells_3, r7_tells_4, r7_tells_5, r7_tells_6, bdE1, bd3_id, hk, hm]
theorem vg_3_4 {t : Nat → Int32} {c : Nat} {who m x : Int32} {d : Nat → Int32} (hk : f_X7_of d who 0 = some 4) (hm : f_X7_of d who 1 = some m) (hc : c ≤ 40) : Gd (f_X7_tellsBy 4 d t (nI c) who 4 x) := by
  simp only [r7_cuts_0, r7_cuts_1, r7_cuts_2, r7_cuts_3, r7_cuts_4, r7_cuts_5, r7_cuts_6, r7_chills_0, r7_chills_1, r7_chills_2, r7_chills_3, r7_chills_4, r7_chills_5, r7_chills_6, r7_counts_0, r7_counts_1, r7_counts_2, r7_counts_3, r7_counts_4, r7_counts_5, r7_counts_6, r7_tells_0, r7_tells_1, r7_tells_2, r7_tells_3, r7_tells_4, r7_tells_5, r7_tells_6, bdE1, bd3_id, hk, hm]
  repeat' first | exact Gd_s (by assumption) | refine Gd_b2 (by assumption) (fun _ _ _ => ?_) | refine Gd_b3 ?_ (fun _ _ _ _ => ?_)
theorem vo_3_5 {t : Nat → Int32} {c who m x : Int32} {d : Nat → Int32} (hk : f_X7_of d who 0 = some 5) (hm : f_X7_of d who 1 = some m) : g_X4_begin 8 t c 5 m who 5 3 x (nI 0) = f_X7_tellsBy 4 d t c who 5 x := by
  simp (decide := true) only [bg_0_0, bg_0_1, bg_0_2, bg_0_3, bg_1_0, bg_1_1, bg_1_2, bg_1_3, bg_2_0, bg_2_1, bg_2_2, bg_2_3, bg_3_0, bg_3_1, bg_3_2, bg_3_3, bg_4_0, bg_4_1, bg_4_2, bg_4_3, bg_5_0, bg_5_1, bg_5_2, bg_5_3, bg_6_0, bg_6_1, bg_6_2, bg_6_3, rn_10, rn_11, rn_12, rn_13, rn_20, rn_30, rn_40, rn_50, rn_51, rn_60, rn_70, r7_cuts_0, r7_cuts_1, r7_cuts_2, r7_cuts_3, r7_cuts_4, r7_cuts_5, r7_cuts_6, r7_chills_0, r7_chills_1, r7_chills_2, r7_chills_3, r7_chills_4, r7_chills_5, r7_chills_6, r7_counts_0, r7_counts_1, r7_counts_2, r7_counts_3, r7_counts_4, r7_counts_5, r7_counts_6, r7_tells_0, r7_tells_1, r7_tells_2, r7_tells_3, r7_tells_4, r7_tells_5, r7_tells_6, bdE1, bd3_id, hk, hm]
theorem vg_3_5 {t : Nat → Int32} {c : Nat} {who m x : Int32} {d : Nat → Int32} (hk : f_X7_of d who 0 = some 5) (hm : f_X7_of d who 1 = some m) (hc : c ≤ 40) : Gd (f_X7_tellsBy 4 d t (nI c) who 5 x) := by
  simp only [r7_cuts_0, r7_cuts_1, r7_cuts_2, r7_cuts_3, r7_cuts_4, r7_cuts_5, r7_cuts_6, r7_chills_0, r7_chills_1, r7_chills_2, r7_chills_3, r7_chills_4, r7_chills_5, r7_chills_6, r7_counts_0, r7_counts_1, r7_counts_2, r7_counts_3, r7_counts_4, r7_counts_5, r7_counts_6, r7_tells_0, r7_tells_1, r7_tells_2, r7_tells_3, r7_tells_4, r7_tells_5, r7_tells_6, bdE1, bd3_id, hk, hm]
  repeat' first | exact Gd_s (by assumption) | refine Gd_b2 (by assumption) (fun _ _ _ => ?_) | refine Gd_b3 ?_ (fun _ _ _ _ => ?_)
theorem vo_3_6 {t : Nat → Int32} {c who m x : Int32} {d : Nat → Int32} (hk : f_X7_of d who 0 = some 6) (hm : f_X7_of d who 1 = some m) : g_X4_begin 8 t c 6 m who 6 3 x (nI 0) = f_X7_tellsBy 4 d t c who 6 x := by
  simp (decide := true) only [bg_0_0, bg_0_1, bg_0_2, bg_0_3, bg_1_0, bg_1_1, bg_1_2, bg_1_3, bg_2_0, bg_2_1, bg_2_2, bg_2_3, bg_3_0, bg_3_1, bg_3_2, bg_3_3, bg_4_0, bg_4_1, bg_4_2, bg_4_3, bg_5_0, bg_5_1, bg_5_2, bg_5_3, bg_6_0, bg_6_1, bg_6_2, bg_6_3, rn_10, rn_11, rn_12, rn_13, rn_20, rn_30, rn_40, rn_50, rn_51, rn_60, rn_70, r7_cuts_0, r7_cuts_1, r7_cuts_2, r7_cuts_3, r7_cuts_4, r7_cuts_5, r7_cuts_6, r7_chills_0, r7_chills_1, r7_chills_2, r7_chills_3, r7_chills_4, r7_chills_5, r7_chills_6, r7_counts_0, r7_counts_1, r7_counts_2, r7_counts_3, r7_counts_4, r7_counts_5, r7_counts_6, r7_tells_0, r7_tells_1, r7_tells_2, r7_tells_3, r7_tells_4, r7_tells_5, r7_tells_6, bdE1, bd3_id, hk, hm]
theorem vg_3_6 {t : Nat → Int32} {c : Nat} {who m x : Int32} {d : Nat → Int32} (hk : f_X7_of d who 0 = some 6) (hm : f_X7_of d who 1 = some m) (hc : c ≤ 40) : Gd (f_X7_tellsBy 4 d t (nI c) who 6 x) := by
  simp only [r7_cuts_0, r7_cuts_1, r7_cuts_2, r7_cuts_3, r7_cuts_4, r7_cuts_5, r7_cuts_6, r7_chills_0, r7_chills_1, r7_chills_2, r7_chills_3, r7_chills_4, r7_chills_5, r7_chills_6, r7_counts_0, r7_counts_1, r7_counts_2, r7_counts_3, r7_counts_4, r7_counts_5, r7_counts_6, r7_tells_0, r7_tells_1, r7_tells_2, r7_tells_3, r7_tells_4, r7_tells_5, r7_tells_6, bdE1, bd3_id, hk, hm]
  repeat' first | exact Gd_s (by assumption) | refine Gd_b2 (by assumption) (fun _ _ _ => ?_) | refine Gd_b3 ?_ (fun _ _ _ _ => ?_)
theorem voice_all {d t : Nat → Int32} {j a : Nat} {who m x : Int32} (hj : j ≤ 6) (ha : a ≤ 3) (hk : f_X7_of d who 0 = some (nI j)) (hm : f_X7_of d who 1 = some m) : ∃ t' k r, k ≤ 40 ∧ g_X4_begin 8 t 0 (nI j) m who (nI j) (nI a) x 0 = some (t', nI k, r) ∧ (if nI a = 0 then f_X7_cutsBy 4 t 0 who (nI j) x else if nI a = 1 then f_X7_countsBy 4 d t 0 who (nI j) x else if nI a = 2 then f_X7_chillsBy 4 d t 0 who (nI j) x else f_X7_tellsBy 4 d t 0 who (nI j) x) = some (t', nI k, r) := by
  have fin : ∀ (A B : Option ((Nat → Int32) × (Int32) × (Int32))), A = B → Gd B → ∃ t' k r, k ≤ 40 ∧ A = some (t', nI k, r) ∧ B = some (t', nI k, r) := by
    intro A B e g
    obtain ⟨t', k, r, h1, h2⟩ := g
    exact ⟨t', k, r, h1, e.trans h2, h2⟩
  rcases (show a = 0 ∨ a = 1 ∨ a = 2 ∨ a = 3 by omega) with rfl | rfl | rfl | rfl
  · rw [if_pos (show nI 0 = (0 : Int32) from rfl)]
    rcases (show j = 0 ∨ j = 1 ∨ j = 2 ∨ j = 3 ∨ j = 4 ∨ j = 5 ∨ j = 6 by omega) with rfl | rfl | rfl | rfl | rfl | rfl | rfl
    · exact fin _ _ vo_0_0 (vg_0_0 (m := m) (c := 0) (by decide))
    · exact fin _ _ vo_0_1 (vg_0_1 (m := m) (c := 0) (by decide))
    · exact fin _ _ vo_0_2 (vg_0_2 (m := m) (c := 0) (by decide))
    · exact fin _ _ vo_0_3 (vg_0_3 (m := m) (c := 0) (by decide))
    · exact fin _ _ vo_0_4 (vg_0_4 (m := m) (c := 0) (by decide))
    · exact fin _ _ vo_0_5 (vg_0_5 (m := m) (c := 0) (by decide))
    · exact fin _ _ vo_0_6 (vg_0_6 (m := m) (c := 0) (by decide))
  · rw [if_neg (show ¬ nI 1 = (0 : Int32) by decide), if_pos (show nI 1 = (1 : Int32) from rfl)]
    rcases (show j = 0 ∨ j = 1 ∨ j = 2 ∨ j = 3 ∨ j = 4 ∨ j = 5 ∨ j = 6 by omega) with rfl | rfl | rfl | rfl | rfl | rfl | rfl
    · exact fin _ _ (vo_1_0 hk hm) (vg_1_0 hk hm (c := 0) (by decide))
    · exact fin _ _ (vo_1_1 hk hm) (vg_1_1 hk hm (c := 0) (by decide))
    · exact fin _ _ (vo_1_2 hk hm) (vg_1_2 hk hm (c := 0) (by decide))
    · exact fin _ _ (vo_1_3 hk hm) (vg_1_3 hk hm (c := 0) (by decide))
    · exact fin _ _ (vo_1_4 hk hm) (vg_1_4 hk hm (c := 0) (by decide))
    · exact fin _ _ (vo_1_5 hk hm) (vg_1_5 hk hm (c := 0) (by decide))
    · exact fin _ _ (vo_1_6 hk hm) (vg_1_6 hk hm (c := 0) (by decide))
  · rw [if_neg (show ¬ nI 2 = (0 : Int32) by decide), if_neg (show ¬ nI 2 = (1 : Int32) by decide), if_pos (show nI 2 = (2 : Int32) from rfl)]
    rcases (show j = 0 ∨ j = 1 ∨ j = 2 ∨ j = 3 ∨ j = 4 ∨ j = 5 ∨ j = 6 by omega) with rfl | rfl | rfl | rfl | rfl | rfl | rfl
    · exact fin _ _ (vo_2_0 hk hm) (vg_2_0 hk hm (c := 0) (by decide))
    · exact fin _ _ (vo_2_1 hk hm) (vg_2_1 hk hm (c := 0) (by decide))
    · exact fin _ _ (vo_2_2 hk hm) (vg_2_2 hk hm (c := 0) (by decide))
    · exact fin _ _ (vo_2_3 hk hm) (vg_2_3 hk hm (c := 0) (by decide))
    · exact fin _ _ (vo_2_4 hk hm) (vg_2_4 hk hm (c := 0) (by decide))
    · exact fin _ _ (vo_2_5 hk hm) (vg_2_5 hk hm (c := 0) (by decide))
    · exact fin _ _ (vo_2_6 hk hm) (vg_2_6 hk hm (c := 0) (by decide))
  · rw [if_neg (show ¬ nI 3 = (0 : Int32) by decide), if_neg (show ¬ nI 3 = (1 : Int32) by decide), if_neg (show ¬ nI 3 = (2 : Int32) by decide)]
    rcases (show j = 0 ∨ j = 1 ∨ j = 2 ∨ j = 3 ∨ j = 4 ∨ j = 5 ∨ j = 6 by omega) with rfl | rfl | rfl | rfl | rfl | rfl | rfl
    · exact fin _ _ (vo_3_0 hk hm) (vg_3_0 hk hm (c := 0) (by decide))
    · exact fin _ _ (vo_3_1 hk hm) (vg_3_1 hk hm (c := 0) (by decide))
    · exact fin _ _ (vo_3_2 hk hm) (vg_3_2 hk hm (c := 0) (by decide))
    · exact fin _ _ (vo_3_3 hk hm) (vg_3_3 hk hm (c := 0) (by decide))
    · exact fin _ _ (vo_3_4 hk hm) (vg_3_4 hk hm (c := 0) (by decide))
    · exact fin _ _ (vo_3_5 hk hm) (vg_3_5 hk hm (c := 0) (by decide))
    · exact fin _ _ (vo_3_6 hk hm) (vg_3_6 hk hm (c := 0) (by decide))
set_option maxHeartbeats 1000000 in
set_option maxRecDepth 10000 in
theorem st_voice {c_now_folk_size : Int32} {c_now_folk_kind : Nat → Int32} {c_now_folk_mark : Nat → Int32} {c_now_folk_horn : Nat → Int32} {c_now_folk_brass : Nat → Int32} {c_now_folk_open : Nat → Int32} {c_now_folk_health : Nat → Int32} {c_now_motions : Int32} {c_now_quorum : Nat → Int32} {c_now_favour : Nat → Int32} {c_now_laws : Int32} {c_now_urnHorn : Int32} {c_now_urnBrass : Int32} {c_now_thread : Int32} {c_now_winter : Int32} {c_now_day : Int32} {c_now_chill_use : Int32} {c_now_chill_codes : Nat → Int32} {c_now_chill_size : Int32} {c_now_cold_use : Int32} {c_now_cold_codes : Nat → Int32} {c_now_cold_size : Int32} {c_now_tape : Nat → Int32} {c_now_taped : Int32} {c_now_z : Int32} {c_now_waiting : Nat → Int32} {c_now_waits : Int32} {c_kept_folk_size : Int32} {c_kept_folk_kind : Nat → Int32} {c_kept_folk_mark : Nat → Int32} {c_kept_folk_horn : Nat → Int32} {c_kept_folk_brass : Nat → Int32} {c_kept_folk_open : Nat → Int32} {c_kept_folk_health : Nat → Int32} {c_kept_motions : Int32} {c_kept_quorum : Nat → Int32} {c_kept_favour : Nat → Int32} {c_kept_laws : Int32} {c_kept_urnHorn : Int32} {c_kept_urnBrass : Int32} {c_kept_thread : Int32} {c_kept_winter : Int32} {c_kept_day : Int32} {c_kept_chill_use : Int32} {c_kept_chill_codes : Nat → Int32} {c_kept_chill_size : Int32} {c_kept_cold_use : Int32} {c_kept_cold_codes : Nat → Int32} {c_kept_cold_size : Int32} {c_kept_tape : Nat → Int32} {c_kept_taped : Int32} {c_kept_z : Int32} {c_kept_waiting : Nat → Int32} {c_kept_waits : Int32} {c_voices_traces : Nat → Int32} {c_voices_traced : Int32} {c_voices_kind : Int32} {c_voices_mark : Int32} {c_voices_number : Int32} {c_sh_bits : Nat → Int32} {c_sh_size : Nat → Int32} {c_sh_numbers : Nat → Nat → Int32} {c_errors : Nat → Int32} {c_images : Int32} {m_d : Nat → Int32} {m_kept : Nat → Int32} {m_images : Int32} {m_found : Nat → Int32} {m_traced : Nat → Int32} {m_traceMany : Int32} {m_who : Int32} {m_bitsOf : Nat → Int32} {m_sizeOf : Nat → Int32} {m_number : Nat → Int32} (R : Rel c_now_folk_size c_now_folk_kind c_now_folk_mark c_now_folk_horn c_now_folk_brass c_now_folk_open c_now_folk_health c_now_motions c_now_quorum c_now_favour c_now_laws c_now_urnHorn c_now_urnBrass c_now_thread c_now_winter c_now_day c_now_chill_use c_now_chill_codes c_now_chill_size c_now_cold_use c_now_cold_codes c_now_cold_size c_now_tape c_now_taped c_now_z c_now_waiting c_now_waits c_kept_folk_size c_kept_folk_kind c_kept_folk_mark c_kept_folk_horn c_kept_folk_brass c_kept_folk_open c_kept_folk_health c_kept_motions c_kept_quorum c_kept_favour c_kept_laws c_kept_urnHorn c_kept_urnBrass c_kept_thread c_kept_winter c_kept_day c_kept_chill_use c_kept_chill_codes c_kept_chill_size c_kept_cold_use c_kept_cold_codes c_kept_cold_size c_kept_tape c_kept_taped c_kept_z c_kept_waiting c_kept_waits c_voices_traces c_voices_traced c_sh_bits c_sh_size c_sh_numbers c_errors c_images m_d m_kept m_images m_found m_traced m_traceMany m_bitsOf m_sizeOf m_number) (p0 : Int32) (p1 : Int32) (p2 : Int32) : ∃ (x_voices_traces : Nat → Int32) (x_voices_traced : Int32) (x_voices_kind : Int32) (x_voices_mark : Int32) (x_voices_number : Int32) (x_errors : Nat → Int32) (r : Int32) (y_found : Nat → Int32) (y_traced : Nat → Int32) (y_traceMany : Int32) (y_who : Int32), f_X6_voice c_now_folk_size c_now_folk_kind c_now_folk_mark c_voices_traces c_voices_traced c_voices_kind c_voices_mark c_voices_number c_errors p0 p1 p2 = some (x_voices_traces, x_voices_traced, x_voices_kind, x_voices_mark, x_voices_number, x_errors, r) ∧ f_X7_voice m_d m_found m_traced m_traceMany m_who p0 p1 p2 = some (y_found, y_traced, y_traceMany, y_who, r) ∧ Rel c_now_folk_size c_now_folk_kind c_now_folk_mark c_now_folk_horn c_now_folk_brass c_now_folk_open c_now_folk_health c_now_motions c_now_quorum c_now_favour c_now_laws c_now_urnHorn c_now_urnBrass c_now_thread c_now_winter c_now_day c_now_chill_use c_now_chill_codes c_now_chill_size c_now_cold_use c_now_cold_codes c_now_cold_size c_now_tape c_now_taped c_now_z c_now_waiting c_now_waits c_kept_folk_size c_kept_folk_kind c_kept_folk_mark c_kept_folk_horn c_kept_folk_brass c_kept_folk_open c_kept_folk_health c_kept_motions c_kept_quorum c_kept_favour c_kept_laws c_kept_urnHorn c_kept_urnBrass c_kept_thread c_kept_winter c_kept_day c_kept_chill_use c_kept_chill_codes c_kept_chill_size c_kept_cold_use c_kept_cold_codes c_kept_cold_size c_kept_tape c_kept_taped c_kept_z c_kept_waiting c_kept_waits x_voices_traces x_voices_traced c_sh_bits c_sh_size c_sh_numbers x_errors c_images m_d m_kept m_images y_found y_traced y_traceMany m_bitsOf m_sizeOf m_number := by
  obtain ⟨⟨hPp, hMo, hSc, hTa, hWa, hUs, hCh, hCo⟩, hIm, hKe, hKu, hEr, hTr, hTn, hTg, hSh⟩ := R
  subst hEr
  obtain ⟨n, hn, hsz, hD0, H, D⟩ := PplR_out hPp
  subst hsz
  by_cases hp : inb p0 n = true
  · obtain ⟨p, hpn, rfl⟩ := inb_of hp (by omega)
    by_cases hp1 : inb p1 4 = true
    · obtain ⟨a, ha, rfl⟩ := inb_of hp1 (by decide)
      obtain ⟨⟨j, hj, ej⟩, a2, a3, a4, a5, a6⟩ := H p (by omega)
      obtain ⟨d1, d2, d3, d4, d5, d6⟩ := D p (by omega)
      obtain ⟨t', k, r, hk, e1, e2⟩ := voice_all (d := m_d) (t := c_voices_traces) (who := nI p) (m := c_now_folk_mark p) (x := p2) hj (show a ≤ 3 by omega) (by rw [eo0 (by omega), d1, ej]) (by rw [eo1 (by omega), d2])
      have e3 : ∀ {α : Type} (G : (Nat → Int32) → Int32 → Int32 → Option α), (if nI a = 0 then bd3 (f_X7_cutsBy 4 c_voices_traces 0 (nI p) (nI j) p2) G else (if nI a = 1 then bd3 (f_X7_countsBy 4 m_d c_voices_traces 0 (nI p) (nI j) p2) G else (if nI a = 2 then bd3 (f_X7_chillsBy 4 m_d c_voices_traces 0 (nI p) (nI j) p2) G else bd3 (f_X7_tellsBy 4 m_d c_voices_traces 0 (nI p) (nI j) p2) G))) = G t' (nI k) r := by
        intro α G
        by_cases z0 : nI a = 0
        · rw [if_pos z0] at e2 ⊢
          rw [e2, bdE3]
        · rw [if_neg z0] at e2 ⊢
          by_cases z1 : nI a = 1
          · rw [if_pos z1] at e2 ⊢
            rw [e2, bdE3]
          · rw [if_neg z1] at e2 ⊢
            by_cases z2 : nI a = 2
            · rw [if_pos z2] at e2 ⊢
              rw [e2, bdE3]
            · rw [if_neg z2] at e2 ⊢
              rw [e2, bdE3]
      refine ⟨?_, ?_, ?_, ?_, ?_, ?_, ?_, ?_, ?_, ?_, ?_, ?c, ?q7, ?r⟩
      case c =>
        simp only [f_X6_voice, e0_has rfl (show n < 1000 by omega), bdE1, jnE]
        rw [if_pos hp, if_neg (by decide), rngC 4 (by decide), if_pos hp1, rdA_i rfl (by omega), rdA_i rfl (by omega), ej]
        unfold f_X4_speak
        rw [e1, bdE3, bdE6]
      case q7 =>
        simp only [f_X7_voice, e7_isPerson hD0 (show n < 1000 by omega), bdE1, jnE]
        rw [if_pos hp, if_neg (by decide), e7_inb 4 (by decide), bdE1, b01, if_pos hp1, eo0 (by omega), bdE1, d1, ej, ← hTr]
        exact e3 (fun t c r => some (c_errors, t, c, nI p, r))
      case r => exact ⟨⟨hPp, hMo, hSc, hTa, hWa, hUs, hCh, hCo⟩, hIm, hKe, hKu, rfl, rfl, rfl, ⟨k, hk, rfl⟩, hSh⟩
    · refine ⟨?_, ?_, ?_, ?_, ?_, ?_, ?_, ?_, ?_, ?_, ?_, ?c, ?q7, ?r⟩
      case c =>
        simp only [f_X6_voice, e0_has rfl (show n < 1000 by omega), bdE1, jnE]
        rw [if_pos hp, if_neg (by decide), rngC 4 (by decide), if_neg hp1, ef1]
        rfl
      case q7 =>
        simp only [f_X7_voice, e7_isPerson hD0 (show n < 1000 by omega), bdE1, jnE]
        rw [if_pos hp, if_neg (by decide), e7_inb 4 (by decide), bdE1, b01, if_neg hp1, eg1]
        rfl
      case r => exact ⟨⟨hPp, hMo, hSc, hTa, hWa, hUs, hCh, hCo⟩, hIm, hKe, hKu, rfl, hTr, hTn, hTg, hSh⟩
  · refine ⟨?_, ?_, ?_, ?_, ?_, ?_, ?_, ?_, ?_, ?_, ?_, ?c, ?q7, ?r⟩
    case c =>
      simp only [f_X6_voice, e0_has rfl (show n < 1000 by omega), bdE1, jnE]
      rw [if_neg hp, if_pos rfl, ef1]
      rfl
    case q7 =>
      simp only [f_X7_voice, e7_isPerson hD0 (show n < 1000 by omega), bdE1, jnE]
      rw [if_neg hp, if_pos rfl, eg1]
      rfl
    case r => exact ⟨⟨hPp, hMo, hSc, hTa, hWa, hUs, hCh, hCo⟩, hIm, hKe, hKu, rfl, hTr, hTn, hTg, hSh⟩
