section LW
variable {p : Program} {l : Launch} {e : Env} {R : Room} {s : State} {m : MethodId} {args : Array Value} {below : List Frame} {meth : Method} {c : Code} {H : Heap} {locs : List Loc} {cells slots : Nat} {Q : State → Prop}
variable {cc : ByteArray} {pc : Nat} {ls : Array Slot} {rest st0 : List Value} {b : Nat} {A : Nat → Prop} {wr wc v1 : va_W} {D : va_G} {tys : List (ClassId × FieldType)} {St : (Nat → Prop) → State → Heap → Prop} {y : MethodName} {bytes : ByteArray} {maxL nL n fr lo idx : Nat} {ret : Option FieldType} {own : String} {As : List Value}
theorem xP_swap {D : va_G} {cl : List vw_C} {a b : va_W} {H : Heap} (h : va_P D cl (a ++ b) H) : va_P D cl (b ++ a) H := by
  intro k q hq
  rcases List.mem_append.mp (List.mem_of_getElem? hq) with h1 | h1
  · obtain ⟨i, hi⟩ := List.getElem?_of_mem h1
    exact h (a.length + i) q (by rw [List.getElem?_append_right (by omega), Nat.add_sub_cancel_left]; exact hi)
  · obtain ⟨i, hi⟩ := List.getElem?_of_mem h1
    exact h i q (by rw [List.getElem?_append_left (List.getElem?_eq_some_iff.mp hi).1]; exact hi)
theorem xD_swap {A : Nat → Prop} {a b : va_W} (h : va_D A (a ++ b)) : va_D A (b ++ a) := by
  have ina : ∀ {k : Nat} {q : Nat × va_E}, a[k]? = some q → (a ++ b)[k]? = some q := fun {k q} h => by
    rw [List.getElem?_append_left (List.getElem?_eq_some_iff.mp h).1]; exact h
  have inb : ∀ {k : Nat} {q : Nat × va_E}, b[k]? = some q → (a ++ b)[a.length + k]? = some q := fun {k q} h => by
    rw [List.getElem?_append_right (by omega), Nat.add_sub_cancel_left]; exact h
  refine va_D.app ⟨fun i j p q hi hj hpq => ?_, fun k q hk => h.2 _ q (inb hk)⟩ ⟨fun i j p q hi hj hpq => h.1 i j p q (ina hi) (ina hj) hpq, fun k q hk => h.2 _ q (ina hk)⟩ (fun i j p q hi hj hpq => ?_)
  · have := h.1 _ _ p q (inb hi) (inb hj) hpq
    omega
  · have := h.1 _ _ p q (inb hi) (ina hj) hpq
    have := (List.getElem?_eq_some_iff.mp hj).1
    omega
theorem x_lastVi (hok : StOk St) (S : XFix p m c cc nL s args own) {rv : Int32} (hM : MetI l D tys St y bytes maxL ret fr lo (.ref b :: As) wc rv v1) (hy : Yf y bytes maxL ret n) (hl : Cond.methodLink own idx y ∈ wsL_law) (hR : fr + 1 ≤ R.frames ∧ 8 + (maxL + 11) + lo ≤ R.locals) (hK : va_K D vwCl tys s) (hSt : St A s s.heap) (hA : ∀ q : Nat, s.heap.size ≤ q → A q) (hP : va_P D vwCl (wr ++ wc) H) (hD : va_D A (wr ++ wc)) (hS : va_S A s.heap H locs) (q0 : Nat) {ci : Nat} {fs : List Value} {T : u_T} {N : Nat} (hrec : wc[q0]? = some (b, .inr (ci, fs))) (hci : vwCl[ci]? = some (y.cls, T, N)) (hn : As.length = n) (hsz : ls.size = nL) (hst : st0 = As.reverse ++ .ref b :: rest) (hroom : (rest.map fun v => v.category).sum ≤ 8) (hdg : decode cc pc = .ok (.invokevirtual idx, 3)) (hc : cells ≤ R.cells) (hs : slots ≤ R.slots)
    (kk : ∀ (H1 : Heap) (locs1 : List Loc), va_P D vwCl (wr ++ v1) H1 → va_D A (wr ++ v1) → va_S A s.heap H1 locs1 → W p l e R s m args below meth c H1 locs1 cells slots Q (F0 m (pc + 3) ls (.int rv :: rest))) : W p l e R s m args below meth c H locs cells slots Q (F0 m pc ls st0) := by
  obtain ⟨hPc, hDc⟩ := last_sub hP hD
  obtain ⟨hy1, hy2, hy3, hy4, hy5⟩ := hy
  have hF := x_free hDc hS hA
  refine va_calli (va_runV (As := As) (rest := rest) S (hM H.size) ⟨x_cb S hy1 hy4 hy5 hl hR, S.2.2.2.2 _ hy2, S.2.2.2.2 _ hy3⟩ ⟨x_blind hok, va_recv hK hPc hci hrec, x_pre hok hPc hK hDc hS hF hSt⟩ rfl hn hsz hst (lv_room hroom) hdg ⟨hc, hs⟩) hS (fun q _ h => hF q h) hF (fun r u t H1 locs1 ht hvm hw hB hz1 hk1 hS1 => ?_)
  obtain ⟨hP1, hK1, hD1⟩ := hB
  rw [ht] at hP1
  subst hw
  obtain ⟨h1, h2⟩ := join_last hP hD hk1 hF hP1 hD1
  exact kk H1 locs1 h1 h2 hS1
theorem x_firstVi (hok : StOk St) (S : XFix p m c cc nL s args own) {rv : Int32} (hM : MetI l D tys St y bytes maxL ret fr lo (.ref b :: As) wc rv v1) (hy : Yf y bytes maxL ret n) (hl : Cond.methodLink own idx y ∈ wsL_law) (hR : fr + 1 ≤ R.frames ∧ 8 + (maxL + 11) + lo ≤ R.locals) (hK : va_K D vwCl tys s) (hSt : St A s s.heap) (hA : ∀ q : Nat, s.heap.size ≤ q → A q) (hP : va_P D vwCl (wc ++ wr) H) (hD : va_D A (wc ++ wr)) (hS : va_S A s.heap H locs) (q0 : Nat) {ci : Nat} {fs : List Value} {T : u_T} {N : Nat} (hrec : wc[q0]? = some (b, .inr (ci, fs))) (hci : vwCl[ci]? = some (y.cls, T, N)) (hn : As.length = n) (hsz : ls.size = nL) (hst : st0 = As.reverse ++ .ref b :: rest) (hroom : (rest.map fun v => v.category).sum ≤ 8) (hdg : decode cc pc = .ok (.invokevirtual idx, 3)) (hc : cells ≤ R.cells) (hs : slots ≤ R.slots)
    (kk : ∀ (H1 : Heap) (locs1 : List Loc), va_P D vwCl (v1 ++ wr) H1 → va_D A (v1 ++ wr) → va_S A s.heap H1 locs1 → W p l e R s m args below meth c H1 locs1 cells slots Q (F0 m (pc + 3) ls (.int rv :: rest))) : W p l e R s m args below meth c H locs cells slots Q (F0 m pc ls st0) :=
  x_lastVi hok S hM hy hl hR hK hSt hA (xP_swap hP) (xD_swap hD) hS q0 hrec hci hn hsz hst hroom hdg hc hs (fun H1 locs1 h1 h2 h3 => kk H1 locs1 (xP_swap h1) (xD_swap h2) h3)
end LW
theorem sc_in {i L k : Nat} (h : i + 6 ≤ L) (hL : L ≤ 3072) (hk : k < 6) : vp_in (nI i + nI k) L := by
  rw [nI_add]
  exact vp_in_nI (by omega) (by omega)
