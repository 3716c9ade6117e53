/-! constructors -/
def Yi (y : MethodName) (bytes : ByteArray) (maxL : Nat) (n : Nat) : Prop := Cond.code y bytes maxL none ∈ wsL_law ∧ Cond.instanceMethod y ∈ wsL_law ∧ Cond.initialized y.cls ∈ wsL_law ∧ y.name = "<init>" ∧ (y.cls ≠ "java/lang/invoke/MethodHandle" ∧ y.cls ≠ "java/lang/invoke/VarHandle" ∧ (parseMethodDescriptor y.desc).map (fun d => d.parameters.length) = some n)
abbrev rmC (fr mc ms lo : Nat) : Room := { frames := fr, cells := mc, slots := ms, locals := lo }
/-- a constructor: the addresses of what it makes come with it -/
def MetC (l : Launch) (D : va_G) (tys : List (ClassId × FieldType)) (St : (Nat → Prop) → State → Heap → Prop) (y : MethodName) (bytes : ByteArray) (maxL : Nat) (fr mc ms lo : Nat) (av : List Value) (wc : va_W) (post : (Nat → Nat) → Prop) (w1 : (Nat → Nat) → va_W) : Prop :=
  ∀ sz : Nat, Met l y (Cond.code y bytes maxL none :: wsL_law) (rmC fr mc ms lo) (va_Pc av (PreX D tys St wc sz)) (va_Qv post (fun o t => PostX D tys (va_A wc sz) (w1 o) t) (va_A wc sz)) mc ms (va_A wc sz)
def EntC (l : Launch) (D : va_G) (tys : List (ClassId × FieldType)) (St : (Nat → Prop) → State → Heap → Prop) (y : MethodName) (bytes : ByteArray) (maxL : Nat) (R : Room) (mc ms : Nat) (av : List Value) (wc : va_W) (Qc : (Nat → Prop) → Array Value → State → Outcome → State → Prop) : Prop :=
  ∀ (p : Program) (e : Env) (s : State) (m : MethodId) (args : Array Value) (below : List Frame) (meth : Method) (c : Code) (A : Nat → Prop) (ls : Array Slot), p.tables.exec = Jvm.exec → c.code = bytes → meth.sig.returnType = none → c.maxLocals = maxL → s.vm.findClass y.cls = some m.cls → (∀ w ∈ wsL_law, w.before args s = true) → meth.locks = false → meth.name = y.name → (∀ q : Nat, s.heap.size ≤ q → A q) → va_K D vwCl tys s → St A s s.heap → va_P D vwCl wc s.heap → va_D A wc → va_S A s.heap s.heap [] → lv_has ls maxL (lv_args 0 av) →
    W p l e R s m args below meth c s.heap [] 0 0 (MQ below (Qc A) args s mc ms A) (F0 m 0 ls [])
theorem EntC.met {l : Launch} {D : va_G} {tys : List (ClassId × FieldType)} {St : (Nat → Prop) → State → Heap → Prop} {y : MethodName} {bytes : ByteArray} {maxL : Nat} {fr mc ms lo : Nat} {av : List Value} {wc : va_W} {post : (Nat → Nat) → Prop} {w1 : (Nat → Nat) → va_W} (hpl : plainName y.cls = true) (hlen : (lg_sl av).length ≤ maxL) (E : EntC l D tys St y bytes maxL (rmC fr mc ms lo) mc ms av wc (fun A => va_Qv post (fun o t => PostX D tys A (w1 o) t) A)) : MetC l D tys St y bytes maxL fr mc ms lo av wc post w1 := by
  intro sz
  refine Met.ofW (cc := bytes) (maxL := maxL) (ret := none) hpl rfl ?_
  intro p e s m args below meth c s₁ B hml hv
  obtain ⟨rfl, hsz, hP, hK, hD0, hSt⟩ := hv
  have hts := atoms_spec (ws := Cond.code y bytes maxL none :: wsL_law) B.pre
  have hown : s.vm.findClass y.cls = some m.cls := findClass_of_methodNamed B.named
  have hin : meth.name = y.name := (name_of_methodNamed B.named B.method).1
  subst hsz
  have hD := hD0.self (sz := s.heap.size)
  have hl := lv_entry av (n := maxL) hlen
  rw [lg_entry_eq]
  exact E p e s m av.toArray below meth c (va_A wc s.heap.size) _ B.exec B.bytes B.returns hml hown (fun w h => hts w (List.mem_cons_of_mem _ h)) B.notSynchronized hin (fun q h => Or.inr h) hK hSt hP hD va_S.rf hl
section XI
variable {p : Program} {l : Launch} {e : Env} {R : Room} {s : State} {m : MethodId} {args : Array Value} {below : List Frame} {meth : Method} {c : Code} {H H0 : Heap} {locs : List Loc} {cells slots : Nat} {Q : State → Prop}
variable {cc : ByteArray} {pc : Nat} {ls : Array Slot} {rest st0 : List Value} {q : Nat} {A : Nat → Prop} {ws wr wc v1 : va_W} {D : va_G} {tys : List (ClassId × FieldType)} {St : (Nat → Prop) → State → Heap → Prop} {y : MethodName} {bytes : ByteArray} {maxL nL n fr lo mc ms idx : Nat} {own : String} {As : List Value} {cI cS : ClassId}
theorem x_newa (hx : p.tables.exec = Jvm.exec) (hb : c.code = cc) (harr : (Cond.arrayClass .int).before args s = true) (hK : va_K D vwCl (tysX cI cS) s) (hP : va_P D vwCl ws H) (hD : va_D A ws) (hS : va_S A H0 H locs) (hA : ∀ q, H0.size ≤ q → A q) {n : Int32} (N : Nat) (hn : ¬ n < 0) (hN : n.toNatClampNeg = N) (hby : N * componentBytes .int ≤ 536870912) (hcells : cells + 1 ≤ R.cells) (hslots : slots + N ≤ R.slots) (hdg : decode cc pc = .ok (.newarray .int, 2))
    (kk : ∀ (q : Nat) (H1 : Heap), va_P D vwCl (ws ++ [(q, .inl (cI, N, .inl (fun _ => 0)))]) H1 → va_D A (ws ++ [(q, .inl (cI, N, .inl (fun _ => 0)))]) → va_S A H0 H1 locs → W p l e R s m args below meth c H1 locs (cells + 1) (slots + N) Q (F0 m (pc + 2) ls (.ref q :: rest))) : W p l e R s m args below meth c H locs cells slots Q (F0 m pc ls (.int n :: rest)) := by
  refine va_newa (atype := .int) hx hb harr rfl hK hP hD hS hA (a0 := (N, .inl (fun _ => 0))) (fun _ => rfl) hn hN hby hcells hslots hdg (fun q cA H1 hK1 hP1 hD1 hS1 => ?_)
  have e1 : va_RA s cI .int := (hK.2 0 (cI, .int) rfl).2
  have e2 : va_RA s cA .int := (hK1.2 2 (cA, .int) rfl).2
  have e3 : cA = cI := Option.some.inj (Eq.trans (Eq.symm (show s.vm.findClass _ = some cA from e2)) (show s.vm.findClass _ = some cI from e1))
  subst e3
  exact kk q H1 hP1 hD1 hS1
theorem x_newq (hx : p.tables.exec = Jvm.exec) (hb : c.code = cc) (hown : s.vm.findClass own = some m.cls) (hcl : (Cond.classLink own idx RX2).before args s = true) (hao : va_AO RX2 s) (hK : va_K D vwCl (tysX cI cS) s) (hP : va_P D vwCl ws H) (hD : va_D A ws) (hS : va_S A H0 H locs) (hA : ∀ q, H0.size ≤ q → A q) {n : Int32} (N : Nat) (hn : ¬ n < 0) (hN : n.toNatClampNeg = N) (hby : N * 4 ≤ 536870912) (hcells : cells + 1 ≤ R.cells) (hslots : slots + N ≤ R.slots) (hdg : decode cc pc = .ok (.anewarray idx, 3))
    (kk : ∀ (q : Nat) (H1 : Heap), va_P D vwCl (ws ++ [(q, .inl (cS, N, .inr (.inr (.inr (.inr (fun _ => none))))))]) H1 → va_D A (ws ++ [(q, .inl (cS, N, .inr (.inr (.inr (.inr (fun _ => none))))))]) → va_S A H0 H1 locs → W p l e R s m args below meth c H1 locs (cells + 1) (slots + N) Q (F0 m (pc + 3) ls (.ref q :: rest))) : W p l e R s m args below meth c H locs cells slots Q (F0 m pc ls (.int n :: rest)) := by
  refine va_newq hx hb hown hcl hao hK hP hD hS hA hn hN hby hcells hslots hdg (fun q cA H1 hK1 hP1 hD1 hS1 => ?_)
  have e1 : va_RA s cS (.object RX2) := (hK.2 1 (cS, .object "CoatVotes$Sheet") rfl).2
  have e2 : va_RA s cA (.object RX2) := (hK1.2 2 (cA, .object RX2) rfl).2
  obtain ⟨-, -, -, -, -, f1⟩ := e1
  obtain ⟨-, -, -, -, -, f2⟩ := e2
  have e3 : cA = cS := Option.some.inj (f2.symm.trans f1)
  subst e3
  exact kk q H1 hP1 hD1 hS1
theorem join_last (hP : va_P D vwCl (wr ++ wc) H) (hD : va_D A (wr ++ wc)) {H1 : Heap} (hk : ∀ q : Nat, q < H.size → ¬ va_A wc H.size q → H1[q]? = H[q]?) (hF : ∀ q, va_A wc H.size q → A q) (hP1 : va_P D vwCl v1 H1) (hD1 : va_D (va_A wc H.size) v1) : va_P D vwCl (wr ++ v1) H1 ∧ va_D A (wr ++ v1) := by
  have inr : ∀ {k : Nat} {q : Nat × va_E}, wr[k]? = some q → (wr ++ wc)[k]? = some q := fun {k q} h => by
    rw [List.getElem?_append_left (List.getElem?_eq_some_iff.mp h).1]; exact h
  have inc : ∀ {k : Nat} {q : Nat × va_E}, wc[k]? = some q → (wr ++ wc)[wr.length + k]? = some q := fun {k q} h => by
    rw [List.getElem?_append_right (by omega), Nat.add_sub_cancel_left]; exact h
  have apart : ∀ (k : Nat) (q : Nat × va_E), wr[k]? = some q → q.1 < H.size ∧ ¬ va_A wc H.size q.1 := by
    intro k q hq
    have hl := (hP k q (inr hq)).lt
    refine ⟨hl, fun h => ?_⟩
    rcases h with ⟨k2, e, h⟩ | h
    · have := hD.1 k (wr.length + k2) q (q.1, e) (inr hq) (inc h) rfl
      have := (List.getElem?_eq_some_iff.mp hq).1
      omega
    · omega
  refine ⟨va_P.app (fun k q hq => ?_) hP1, va_D.app ⟨fun i j p q hi hj hpq => hD.1 i j p q (inr hi) (inr hj) hpq, fun k q hk => hD.2 k q (inr hk)⟩ (hD1.weaken (fun k q _ h => hF q.1 h)) (fun i j x y hx hy hxy => ?_)⟩
  · obtain ⟨g1, g2⟩ := apart k q hq
    exact (hP k q (inr hq)).kept (hk q.1 g1 g2)
  · exact (apart i x hx).2 (by rw [hxy]; exact hD1.2 j y hy)
theorem last_sub (hP : va_P D vwCl (wr ++ wc) H) (hD : va_D A (wr ++ wc)) : va_P D vwCl wc H ∧ va_D A wc := by
  have inc : ∀ {k : Nat} {q : Nat × va_E}, wc[k]? = some q → (wr ++ wc)[wr.length + k]? = some q := fun {k q} h => by
    rw [List.getElem?_append_right (by omega), Nat.add_sub_cancel_left]; exact h
  refine ⟨fun k q hq => hP _ q (inc hq), fun i j p q hi hj hpq => ?_, fun k q hk => hD.2 _ q (inc hk)⟩
  have := hD.1 _ _ p q (inc hi) (inc hj) hpq
  omega
theorem x_ctorI (hok : StOk St) (S : XFix p m c cc nL s args own) {post : (Nat → Nat) → Prop} {w1 : (Nat → Nat) → va_W} {e0 : va_E} (wr : va_W) (hM : MetC l D tys St y bytes maxL fr mc ms lo (.ref q :: As) [(q, e0)] post w1) (hy : Yi y bytes maxL n) (hl : Cond.methodLink own idx y ∈ wsL_law) (hR : fr + 1 ≤ R.frames ∧ 8 + (maxL + 11) + lo ≤ R.locals) (hK : va_K D vwCl tys s) (hSt : St A s s.heap) (hA : ∀ q : Nat, s.heap.size ≤ q → A q) (hP : va_P D vwCl (wr ++ [(q, e0)]) H) (hD : va_D A (wr ++ [(q, e0)])) (hS : va_S A s.heap H locs) (hn : As.length = n) (hsz : ls.size = nL) (hst : st0 = As.reverse ++ .ref q :: rest) (hroom : (rest.map fun v => v.category).sum ≤ 8) (hdg : decode cc pc = .ok (.invokespecial idx, 3)) (hc : cells + mc ≤ R.cells) (hs : slots + ms ≤ R.slots)
    (kk : ∀ (o : Nat → Nat) (H1 : Heap) (locs1 : List Loc), post o → va_P D vwCl (wr ++ w1 o) H1 → va_D A (wr ++ w1 o) → va_S A s.heap H1 locs1 → W p l e R s m args below meth c H1 locs1 (cells + mc) (slots + ms) Q (F0 m (pc + 3) ls rest)) : W p l e R s m args below meth c H locs cells slots Q (F0 m pc ls st0) := by
  obtain ⟨hPc, hDc⟩ := last_sub hP hD
  obtain ⟨hy1, hy2, hy4, hy6, hy5⟩ := hy
  have hF := x_free hDc hS hA
  refine va_callv (va_runI (As := As) (rest := rest) S (hM H.size) ⟨callB_of n S.2.2.2.2 (good_cons hy1) rfl rfl rfl (S.2.2.2.2 _ hy4) (S.2.2.2.2 _ hl) hy5 hR, hy6, S.2.2.2.2 _ hy2⟩ ⟨x_blind hok, x_pre hok hPc hK hDc hS hF hSt⟩ rfl hn hsz hst (lv_room hroom) hdg ⟨hc, hs⟩) hS (fun q _ h => hF q h) hF (fun u t H1 locs1 ht hvm hw hB hz1 hk1 hS1 => ?_)
  obtain ⟨hP1, hK1, hD1⟩ := hB
  rw [ht] at hP1
  obtain ⟨h1, h2⟩ := join_last hP hD hk1 hF hP1 hD1
  exact kk u H1 locs1 hw h1 h2 hS1
theorem x_ctorN (hok : StOk St) (S : XFix p m c cc nL s args own) {post : (Nat → Nat) → Prop} {w1 : (Nat → Nat) → va_W} {e0 : va_E} {host : String} (wr : va_W) (hM : MetC l D tys St y bytes maxL fr mc ms lo (.ref q :: As) [(q, e0)] post w1) (hy : Yi y bytes maxL n) (hl : va_Nw (.methodLinkNest own idx y host) s) (hR : fr + 1 ≤ R.frames ∧ 8 + (maxL + 11) + lo ≤ R.locals) (hK : va_K D vwCl tys s) (hSt : St A s s.heap) (hA : ∀ q : Nat, s.heap.size ≤ q → A q) (hP : va_P D vwCl (wr ++ [(q, e0)]) H) (hD : va_D A (wr ++ [(q, e0)])) (hS : va_S A s.heap H locs) (hn : As.length = n) (hsz : ls.size = nL) (hst : st0 = As.reverse ++ .ref q :: rest) (hroom : (rest.map fun v => v.category).sum ≤ 8) (hdg : decode cc pc = .ok (.invokespecial idx, 3)) (hc : cells + mc ≤ R.cells) (hs : slots + ms ≤ R.slots)
    (kk : ∀ (o : Nat → Nat) (H1 : Heap) (locs1 : List Loc), post o → va_P D vwCl (wr ++ w1 o) H1 → va_D A (wr ++ w1 o) → va_S A s.heap H1 locs1 → W p l e R s m args below meth c H1 locs1 (cells + mc) (slots + ms) Q (F0 m (pc + 3) ls rest)) : W p l e R s m args below meth c H locs cells slots Q (F0 m pc ls st0) := by
  obtain ⟨hPc, hDc⟩ := last_sub hP hD
  obtain ⟨hy1, hy2, hy4, hy6, hy5⟩ := hy
  have hF := x_free hDc hS hA
  refine va_callv (va_runIN (As := As) (rest := rest) S (hM H.size) ⟨va_cnB n S.2.2.2.2 (good_cons hy1) rfl rfl rfl hl (S.2.2.2.2 _ hy4) hy5 hR, hy6, S.2.2.2.2 _ hy2⟩ ⟨x_blind hok, x_pre hok hPc hK hDc hS hF hSt⟩ rfl hn hsz hst (lv_room hroom) hdg ⟨hc, hs⟩) hS (fun q _ h => hF q h) hF (fun u t H1 locs1 ht hvm hw hB hz1 hk1 hS1 => ?_)
  obtain ⟨hP1, hK1, hD1⟩ := hB
  rw [ht] at hP1
  obtain ⟨h1, h2⟩ := join_last hP hD hk1 hF hP1 hD1
  exact kk u H1 locs1 hw h1 h2 hS1
theorem x_cret (hx : p.tables.exec = Jvm.exec) (hb : c.code = cc) (hr : meth.sig.returnType = none) (hlocks : meth.locks = false) (hK : va_K D vwCl tys s) {post : (Nat → Nat) → Prop} {w1 : (Nat → Nat) → va_W} (o : Nat → Nat) (hp : post o) (hP : va_P D vwCl (w1 o) H) (hD : va_D A (w1 o)) (hS : va_S A s.heap H locs) (hdg : decode cc pc = .ok (.return_, 1)) :
    W p l e R s m args below meth c H locs cells slots (MQ below (va_Qv post (fun o t => PostX D tys A (w1 o) t) A) args s cells slots A) (F0 m pc ls []) :=
  W.vret hx hb hr (fun t ht hW => ⟨⟨o, rfl, hp, by rw [ht]; exact hP, va_K.moved hW.alike hK, hD⟩, hS.F ht⟩) hS.2.2 hdg
end XI
