/-! constructors: what is made anew -/
def CtA (l : Launch) (y : MethodName) (ws : List Cond) (rm : Room) (mc ms : Nat) (G : XG) (as : List Value) (w0 : va_W) {S : Type} (w1 : S → va_W) : Prop :=
  ∀ sz, Met l y ws rm (PreW G as w0 sz) (va_Qv (fun _ : S => True) (BW G w0 sz w1) (va_A w0 sz)) mc ms (va_A w0 sz)
theorem CtA.go {l : Launch} {y : MethodName} {ws ws' : List Cond} {rm : Room} {mc ms : Nat} {G : XG} {as : List Value} {w0 : va_W} {S : Type} {w1 : S → va_W} {cc : ByteArray} {maxL : Nat} (own : String) (hown : y.cls = own) (hnm : y.name = "<init>") (hy : plainName y.cls = true) (hw : ws = Cond.code y cc maxL none :: ws') (hn : (lg_sl as).length ≤ maxL)
    (body : ∀ (p : Program) (e : Env) (s : State) (m : MethodId) (args : Array Value) (below : List Frame) (meth : Method) (c : Code) (A : Nat → Prop) (Q : State → Prop) (ls : Array Slot), CallFix p m c cc maxL s args ws own → meth.name = "<init>" → Wd G s A w0 s.heap [] → lv_has ls maxL (lv_args 0 as) →
      (∀ (u : S) (H : Heap) (locs : List Loc) (pc : Nat) (ls : Array Slot), decode cc pc = .ok (.return_, 1) → Wd G s A (w1 u) H locs → W p l e rm s m args below meth c H locs mc ms Q (F0 m pc ls [])) →
      W p l e rm s m args below meth c s.heap [] 0 0 Q (F0 m 0 ls [])) : CtA l y ws rm mc ms G as w0 w1 := by
  intro sz
  refine Met.ofW (cc := cc) (maxL := maxL) (ret := none) hy hw ?_
  intro p e s m args below meth c s₁ B hml hv
  obtain ⟨rfl, hsz, hK, hP, hD0, hN, hSK⟩ := hv
  subst hsz
  have hts := atoms_spec (ws := ws) B.pre
  have ho : s.vm.findClass own = some m.cls := hown ▸ findClass_of_methodNamed B.named
  have hin : meth.name = "<init>" := (name_of_methodNamed B.named B.method).1.trans hnm
  rw [lg_entry_eq]
  exact body p e s m _ below meth c (va_A w0 s.heap.size) _ _ ⟨B.exec, B.bytes, hml, ho, hts⟩ hin ⟨hK, hP, hD0.self, va_S.rf, fun q h => Or.inr h, hN, hSK⟩ (lv_entry as hn)
    (fun u H locs pc ls hdg hw2 => W.vret B.exec B.bytes B.returns (fun t ht _ => ⟨⟨u, rfl, trivial, by rw [ht]; exact hw2.2.1, hw2.2.2.1⟩, hw2.2.2.2.1.F ht⟩) hw2.2.2.2.1.2.2 hdg B.notSynchronized)
section XA
variable {p : Program} {l : Launch} {e : Env} {R : Room} {s : State} {m : MethodId} {args : Array Value} {below : List Frame} {meth : Method} {c : Code} {H : Heap} {locs : List Loc} {Q : State → Prop} {cc : ByteArray} {pc nL : Nat} {ls : Array Slot} {rest : List Value} {Ts : List Cond} {own : String} {G : XG} {A : Nat → Prop} {ws ws1 : va_W} {cells slots : Nat}
theorem x_callA (E : CallFix p m c cc nL s args Ts own) (hw : Wd G s A ws H locs) (hsz : ls.size = nL) {y : MethodName} {bytes : ByteArray} {maxL : Nat} {wsy wsy' : List Cond} {rm : Room} {b : Addr} {As : List Value} {mc ms : Nat} {w0 : va_W} {S : Type} {w1 : S → va_W} (hM : CtA l y wsy rm mc ms G (.ref b :: As) w0 w1) {index : Nat} (n : Nat) (hG : GoodIn Ts wsy) (hini : Cond.initialized y.cls ∈ Ts) (hlk : Cond.methodLink own index y ∈ Ts) (hin : Cond.instanceMethod y ∈ Ts) (hnm : y.name = "<init>") (hwy : wsy = Cond.code y bytes maxL none :: wsy') (hrc : rm.cells = mc) (hrs : rm.slots = ms)
    (hd : y.cls ≠ "java/lang/invoke/MethodHandle" ∧ y.cls ≠ "java/lang/invoke/VarHandle" ∧ (parseMethodDescriptor y.desc).map (fun d => d.parameters.length) = some n) (hR : rm.frames + 1 ≤ R.frames ∧ 8 + (maxL + 11) + rm.locals ≤ R.locals) (hf : cells + mc ≤ R.cells ∧ slots + ms ≤ R.slots) (hn : As.length = n)
    (isC isR : List Nat) (hcn : va_nd isC = true) (hC : isC.map (fun i => ws[i]?) = w0.map some) (hRr : isR.map (fun i => ws[i]?) = (isR.filterMap (fun i => ws[i]?)).map some) (hnd : va_nd isR = true) (hdis : isR.all (fun i => !isC.contains i) = true)
    (isJ : List Nat) (w2 : S → va_W) (hJn : va_nd isJ = true) (hJ : ∀ u, isJ.map (fun i => (isR.filterMap (fun i => ws[i]?) ++ w1 u)[i]?) = (w2 u).map some) {st : List Value} (hstk : st = As.reverse ++ .ref b :: rest) (hst : (rest.map fun v => v.category).sum ≤ 8) (hdg : decode cc pc = .ok (.invokespecial index, 3))
    (kk : ∀ (u : S) (H1 : Heap) (locs1 : List Loc), Wd G s A (w2 u) H1 locs1 → W p l e R s m args below meth c H1 locs1 (cells + mc) (slots + ms) Q (F0 m (pc + 3) ls rest)) : W p l e R s m args below meth c H locs cells slots Q (F0 m pc ls st) := by
  subst hstk
  obtain ⟨hK, hP, hD, hS, hA, hN, hSK⟩ := id hw
  have hd1 : ∀ i ∈ isR, i ∉ isC := fun i hi h => by
    have h1 := List.all_eq_true.mp hdis i hi
    simp only [Bool.not_eq_true', List.contains_eq_mem, decide_eq_false_iff_not] at h1
    exact h1 h
  have hFc := va_free (wc := w0) hD hS hA isC hC
  have hDc : va_D A w0 := hD.sub isC hcn hC
  have hpre : ∀ U : State, U.heap = H → s.WarmedH U.vm → PreW G (.ref b :: As) w0 H.size (Value.ref b :: As).toArray U := fun U hU hW => by
    refine ⟨rfl, by rw [hU], va_K.moved hW.alike hK, ?_, ?_, hN.warm hW, ?_⟩
    · rw [hU]
      intro k q hq
      have h1 : (isC.map (fun i => ws[i]?))[k]? = some (some q) := by rw [hC, List.getElem?_map, hq]; rfl
      rw [List.getElem?_map] at h1
      cases hi : isC[k]? with
      | none => rw [hi] at h1; cases h1
      | some i => rw [hi] at h1; exact hP i q (Option.some.inj h1)
    · refine ⟨fun i j p q hp hq hpq => ?_, fun _ _ _ => trivial⟩
      exact hDc.1 i j p q hp hq hpq
    · rw [hU]
      exact hSK.go hW hS.2.1 hFc
  refine va_callv (B := BW G w0 H.size w1) (va_runI (As := As) (rest := rest) E (hM H.size) (cwI n E.2.2.2.2 hG hwy hrc hrs (E.2.2.2.2 _ hini) (E.2.2.2.2 _ hlk) (E.2.2.2.2 _ hin) hnm hd hR) ⟨PreW.blind, hpre⟩ rfl hn hsz rfl (lv_room hst) hdg hf) hS (fun q _ h => hFc q h) hFc (fun u t H1 locs ht hvm _ hB hz1 hk1 hS1 => ?_)
  obtain ⟨hP1, hD1⟩ := hB
  rw [ht] at hP1
  obtain ⟨hP3, hD3⟩ := va_join (wr := isR.filterMap (fun i => ws[i]?)) (w1 := w1 u) hP hD isC isR hC hRr hnd hd1 hk1 hFc hP1 hD1
  have hw3 : Wd G s A (isR.filterMap (fun i => ws[i]?) ++ w1 u) H1 locs := hw.set hP3 hD3 hS1
  exact kk u H1 locs (hw3.sub isJ hJn (hJ u))
theorem x_callAN (E : CallFix p m c cc nL s args Ts own) (hw : Wd G s A ws H locs) (hsz : ls.size = nL) {y : MethodName} {bytes : ByteArray} {maxL : Nat} {wsy wsy' : List Cond} {rm : Room} {b : Addr} {As : List Value} {mc ms : Nat} {w0 : va_W} {S : Type} {w1 : S → va_W} (hM : CtA l y wsy rm mc ms G (.ref b :: As) w0 w1) {index : Nat} (n : Nat) (hG : GoodIn Ts wsy) (hini : Cond.initialized y.cls ∈ Ts) (hlk : .methodLinkNest own index y "GuessFolds" ∈ nestM) (hin : Cond.instanceMethod y ∈ Ts) (hnm : y.name = "<init>") (hwy : wsy = Cond.code y bytes maxL none :: wsy') (hrc : rm.cells = mc) (hrs : rm.slots = ms)
    (hd : y.cls ≠ "java/lang/invoke/MethodHandle" ∧ y.cls ≠ "java/lang/invoke/VarHandle" ∧ (parseMethodDescriptor y.desc).map (fun d => d.parameters.length) = some n) (hR : rm.frames + 1 ≤ R.frames ∧ 8 + (maxL + 11) + rm.locals ≤ R.locals) (hf : cells + mc ≤ R.cells ∧ slots + ms ≤ R.slots) (hn : As.length = n)
    (isC isR : List Nat) (hcn : va_nd isC = true) (hC : isC.map (fun i => ws[i]?) = w0.map some) (hRr : isR.map (fun i => ws[i]?) = (isR.filterMap (fun i => ws[i]?)).map some) (hnd : va_nd isR = true) (hdis : isR.all (fun i => !isC.contains i) = true)
    (isJ : List Nat) (w2 : S → va_W) (hJn : va_nd isJ = true) (hJ : ∀ u, isJ.map (fun i => (isR.filterMap (fun i => ws[i]?) ++ w1 u)[i]?) = (w2 u).map some) {st : List Value} (hstk : st = As.reverse ++ .ref b :: rest) (hst : (rest.map fun v => v.category).sum ≤ 8) (hdg : decode cc pc = .ok (.invokespecial index, 3))
    (kk : ∀ (u : S) (H1 : Heap) (locs1 : List Loc), Wd G s A (w2 u) H1 locs1 → W p l e R s m args below meth c H1 locs1 (cells + mc) (slots + ms) Q (F0 m (pc + 3) ls rest)) : W p l e R s m args below meth c H locs cells slots Q (F0 m pc ls st) := by
  subst hstk
  obtain ⟨hK, hP, hD, hS, hA, hN, hSK⟩ := id hw
  have hd1 : ∀ i ∈ isR, i ∉ isC := fun i hi h => by
    have h1 := List.all_eq_true.mp hdis i hi
    simp only [Bool.not_eq_true', List.contains_eq_mem, decide_eq_false_iff_not] at h1
    exact h1 h
  have hFc := va_free (wc := w0) hD hS hA isC hC
  have hDc : va_D A w0 := hD.sub isC hcn hC
  have hpre : ∀ U : State, U.heap = H → s.WarmedH U.vm → PreW G (.ref b :: As) w0 H.size (Value.ref b :: As).toArray U := fun U hU hW => by
    refine ⟨rfl, by rw [hU], va_K.moved hW.alike hK, ?_, ?_, hN.warm hW, ?_⟩
    · rw [hU]
      intro k q hq
      have h1 : (isC.map (fun i => ws[i]?))[k]? = some (some q) := by rw [hC, List.getElem?_map, hq]; rfl
      rw [List.getElem?_map] at h1
      cases hi : isC[k]? with
      | none => rw [hi] at h1; cases h1
      | some i => rw [hi] at h1; exact hP i q (Option.some.inj h1)
    · refine ⟨fun i j p q hp hq hpq => ?_, fun _ _ _ => trivial⟩
      exact hDc.1 i j p q hp hq hpq
    · rw [hU]
      exact hSK.go hW hS.2.1 hFc
  refine va_callv (B := BW G w0 H.size w1) (va_runIN (As := As) (rest := rest) E (hM H.size) ⟨va_cnB n E.2.2.2.2 hG hwy hrc hrs (hw.2.2.2.2.2.1.2 _ hlk) (E.2.2.2.2 _ hini) hd hR, hnm, E.2.2.2.2 _ hin⟩ ⟨PreW.blind, hpre⟩ rfl hn hsz rfl (lv_room hst) hdg hf) hS (fun q _ h => hFc q h) hFc (fun u t H1 locs ht hvm _ hB hz1 hk1 hS1 => ?_)
  obtain ⟨hP1, hD1⟩ := hB
  rw [ht] at hP1
  obtain ⟨hP3, hD3⟩ := va_join (wr := isR.filterMap (fun i => ws[i]?)) (w1 := w1 u) hP hD isC isR hC hRr hnd hd1 hk1 hFc hP1 hD1
  have hw3 : Wd G s A (isR.filterMap (fun i => ws[i]?) ++ w1 u) H1 locs := hw.set hP3 hD3 hS1
  exact kk u H1 locs (hw3.sub isJ hJn (hJ u))
theorem x_new (E : CallFix p m c cc nL s args Ts own) (hw : Wd G s A ws H locs) {C : String} {T : u_T} {N ci index : Nat} (hin : ∀ w ∈ u_ws C T N, w ∈ Ts) {ty0 : Nat → FieldType} (hty : ∀ k, k < N → parseFieldDescriptor (T k).2.2.1 = some (ty0 k)) (hc : vwCl[ci]? = some (C, T, N)) (hlk : Cond.classLink own index C ∈ Ts) (hinst : Cond.instantiable C N ∈ Ts) (hini : Cond.initialized C ∈ Ts) {fs : List Value} (hfs : ∀ j, j < N → defaultValue (ty0 j) = vp_V fs j) (hcells : cells + 1 ≤ R.cells) (hslots : slots + N ≤ R.slots) (hdg : decode cc pc = .ok (.new index, 3))
    (kk : ∀ (q : Nat) (H1 : Heap), Wd G s A (ws ++ [(q, .inr (ci, fs))]) H1 locs → W p l e R s m args below meth c H1 locs (cells + 1) (slots + N) Q (F0 m (pc + 3) ls (.ref q :: rest))) : W p l e R s m args below meth c H locs cells slots Q (F0 m pc ls rest) :=
  va_new E.1 E.2.1 E.2.2.2.2 hin ty0 hty E.2.2.2.1 (E.2.2.2.2 _ hlk) (E.2.2.2.2 _ hinst) (E.2.2.2.2 _ hini) hw.1 hw.2.1 hw.2.2.1 hw.2.2.2.1 hw.2.2.2.2.1 hc hfs hcells hslots hdg (fun q H1 hP hD hS => kk q H1 (hw.set hP hD hS))
theorem x_newJ (E : CallFix p m c cc nL s args Ts own) (hw : Wd G s A ws H locs) (harr : Cond.arrayClass .long ∈ Ts) {i : Int32} {N : Nat} (hi : i = nI N) (hN : N ≤ 1000) (hcells : cells + 1 ≤ R.cells) (hslots : slots + N ≤ R.slots) (hdg : decode cc pc = .ok (.newarray .long, 2))
    (kk : ∀ (q : Nat) (H1 : Heap), Wd G s A (ws ++ [(q, .inl (cJ G, N, .inr (.inl (fJ (fun _ => 0)))))]) H1 locs → W p l e R s m args below meth c H1 locs (cells + 1) (slots + N) Q (F0 m (pc + 2) ls (.ref q :: rest))) : W p l e R s m args below meth c H locs cells slots Q (F0 m pc ls (.int i :: rest)) := by
  subst hi
  refine va_newa (ty := .long) (a0 := (N, .inr (.inl (fJ (fun _ => 0))))) E.1 E.2.1 (atype := .long) (E.2.2.2.2 _ harr) rfl hw.1 hw.2.1 hw.2.2.1 hw.2.2.2.1 hw.2.2.2.2.1 (fun cA => rfl) (by rw [i_lt, nI_toI (by omega)]; show ¬ ((N : Nat) : Int) < (0 : Int32).toInt; rw [show (0 : Int32).toInt = 0 by decide]; omega) (nI_clamp (by omega)) (by show N * 8 ≤ _; omega) hcells hslots hdg (fun q cA H1 hK hP hD hS => ?_)
  have e1 := va_nm_long (hw.1.2 0 (cJ G, .long) rfl).2
  have e2 := va_nm_long (hK.2 2 (cA, .long) rfl).2
  have e : cA = cJ G := Option.some.inj (e2.symm.trans e1)
  subst e
  exact kk q H1 (hw.set hP hD hS)
theorem x_newI (E : CallFix p m c cc nL s args Ts own) (hw : Wd G s A ws H locs) (harr : Cond.arrayClass .int ∈ Ts) {i : Int32} {N : Nat} (hi : i = nI N) (hN : N ≤ 1000) (hcells : cells + 1 ≤ R.cells) (hslots : slots + N ≤ R.slots) (hdg : decode cc pc = .ok (.newarray .int, 2))
    (kk : ∀ (q : Nat) (H1 : Heap), Wd G s A (ws ++ [(q, .inl (cI G, N, .inl (fI (fun _ => 0))))]) H1 locs → W p l e R s m args below meth c H1 locs (cells + 1) (slots + N) Q (F0 m (pc + 2) ls (.ref q :: rest))) : W p l e R s m args below meth c H locs cells slots Q (F0 m pc ls (.int i :: rest)) := by
  subst hi
  refine va_newa (ty := .int) (a0 := (N, .inl (fI (fun _ => 0)))) E.1 E.2.1 (atype := .int) (E.2.2.2.2 _ harr) rfl hw.1 hw.2.1 hw.2.2.1 hw.2.2.2.1 hw.2.2.2.2.1 (fun cA => rfl) (by rw [i_lt, nI_toI (by omega)]; show ¬ ((N : Nat) : Int) < (0 : Int32).toInt; rw [show (0 : Int32).toInt = 0 by decide]; omega) (nI_clamp (by omega)) (by show N * 4 ≤ _; omega) hcells hslots hdg (fun q cA H1 hK hP hD hS => ?_)
  have e1 := va_nm_int (hw.1.2 1 (cI G, .int) rfl).2
  have e2 := va_nm_int (hK.2 2 (cA, .int) rfl).2
  have e : cA = cI G := Option.some.inj (e2.symm.trans e1)
  subst e
  exact kk q H1 (hw.set hP hD hS)
theorem x_putF (E : CallFix p m c cc nL s args Ts own) (hm : meth.name = "<init>") (hw : Wd G s A ws H locs) {C : String} {T : u_T} {N ci index a : Nat} (hin : ∀ w ∈ u_ws C T N, w ∈ Ts) {ty0 : Nat → FieldType} (hty : ∀ k, k < N → parseFieldDescriptor (T k).2.2.1 = some (ty0 k)) (hnm : ∀ a, a < N → ∀ b, b < N → a ≠ b → (T a).2.1 ≠ (T b).2.1) (q0 : Nat) {fs : List Value} (he : ws[q0]? = some (a, .inr (ci, fs))) (hc : vwCl[ci]? = some (C, T, N)) (k : Nat) (hk : k < N) (hlink : Cond.fieldLink own index (T k).1 (T k).2.1 (T k).2.2.1 ∈ Ts) (hfin : (T k).2.2.2 = true) (hdecl : (T k).1 = own) {v : Value} (hn : narrow (ty0 k) v = v) (hfit : fits (ty0 k) v = true) (hl : k < fs.length) (hset : ws.set q0 (a, .inr (ci, fs.set k v)) = ws1)
    (hdg : decode cc pc = .ok (.putfield index, 3)) (kk : ∀ (H1 : Heap) (locs1 : List Loc), Wd G s A ws1 H1 locs1 → W p l e R s m args below meth c H1 locs1 cells slots Q (F0 m (pc + 3) ls rest)) : W p l e R s m args below meth c H locs cells slots Q (F0 m pc ls (v :: .ref a :: rest)) :=
  va_putF E.1 E.2.1 E.2.2.2.2 hin ty0 hty hnm E.2.2.2.1 hw.1 hw.2.1 hw.2.2.1 hw.2.2.2.1 q0 he hc k hk (E.2.2.2.2 _ hlink) (fun _ h => h) hfin hm hdecl (hty k hk) hn hfit hl hdg (fun H1 locs1 hP hD hS => kk H1 locs1 (hw.set (hset ▸ hP) (hset ▸ hD) hS))
theorem x_maxn0 {n : Nat} (h : n < 2147483648) : (if nI n < nI 0 then nI 0 else nI n) = nI n := by
  rw [if_neg (by rw [i_lt, nI_toI h, nI_toI (by decide)]; omega)]
end XA
