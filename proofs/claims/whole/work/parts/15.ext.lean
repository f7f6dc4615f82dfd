/-! more rows: or, and; a lookupswitch; a method that answers a reference or null -/
theorem x_andL (a b : Nat) : lN a &&& lN b = lN (a &&& b) := by
  apply Int64.toBitVec_inj.1
  show BitVec.ofNat 64 a &&& BitVec.ofNat 64 b = BitVec.ofNat 64 (a &&& b)
  apply BitVec.eq_of_getLsbD_eq
  intro i hi
  simp [hi]
theorem x_orL (a b : Nat) : lN a ||| lN b = lN (a ||| b) := by
  apply Int64.toBitVec_inj.1
  show BitVec.ofNat 64 a ||| BitVec.ofNat 64 b = BitVec.ofNat 64 (a ||| b)
  apply BitVec.eq_of_getLsbD_eq
  intro i hi
  simp [hi]
theorem x_andI (a b : Nat) : nI a &&& nI b = nI (a &&& b) := by
  apply Int32.toBitVec_inj.1
  show BitVec.ofNat 32 a &&& BitVec.ofNat 32 b = BitVec.ofNat 32 (a &&& b)
  apply BitVec.eq_of_getLsbD_eq
  intro i hi
  simp [hi]
theorem x_orI (a b : Nat) : nI a ||| nI b = nI (a ||| b) := by
  apply Int32.toBitVec_inj.1
  show BitVec.ofNat 32 a ||| BitVec.ofNat 32 b = BitVec.ofNat 32 (a ||| b)
  apply BitVec.eq_of_getLsbD_eq
  intro i hi
  simp [hi]
/-- a method that answers a reference or null, told by a term -/
def x_Qr (v : Value) (B : State → Prop) (A : Nat → Prop) : Array Value → State → Outcome → State → Prop := fun _ st oc t => (oc = .returned (some v) ∧ B t) ∧ va_F A st t
def CfR (l : Launch) (y : MethodName) (ws : List Cond) (rm : Room) (G : XG) (as : List Value) (w0 : va_W) (v : Value) (w1 : va_W) : Prop :=
  ∀ sz, Met l y ws rm (PreW G as w0 sz) (x_Qr v (BW G w0 sz (fun _ : Unit => w1) ()) (va_A w0 sz)) 0 0 (va_A w0 sz)
section XE
variable {p : Program} {l : Launch} {e : Env} {R : Room} {s : State} {m : MethodId} {args : Array Value} {below : List Frame} {meth : Method} {c : Code} {H : Heap} {locs : List Loc} {Q : State → Prop} {cc : ByteArray} {pc nL : Nat} {ls : Array Slot} {rest : List Value} {Ts : List Cond} {own : String} {G : XG} {A : Nat → Prop} {ws : va_W} {cells slots : Nat}
theorem x_lk (E : CallFix p m c cc nL s args Ts own) {dflt : Int} {ps : Array (Int × Int)} {len : Nat} {x : Int32} {X off : Int} {L : List (Int × Int)} {tgt : Nat} (hX : x.toInt = X) (hdg : decode cc pc = .ok (.lookupswitch dflt ps, len)) (hL : ps.toList = L) (hp : (L.zip (L.drop 1)).all (fun (a, next) => a.1 < next.1) = true) (ho : Op.lookupswitch.offset L dflt X = off) (ht : (pc : Int) + off = (tgt : Int))
    (k : W p l e R s m args below meth c H locs cells slots Q (F0 m tgt ls rest)) : W p l e R s m args below meth c H locs cells slots Q (F0 m pc ls (.int x :: rest)) :=
  lv_lookup E.1 E.2.1 hdg (hL ▸ hp) (by rw [hX, hL]; exact ho) ht k
theorem CfR.go {y : MethodName} {wsy ws' : List Cond} {rm : Room} {as : List Value} {w0 w1 : va_W} {maxL : Nat} {v : Value} {C : String} (own : String) (hown : y.cls = own) (hy : plainName y.cls = true) (hw : wsy = Cond.code y cc maxL (some (.object C)) :: ws') (hn : (lg_sl as).length ≤ maxL) (hv : v = .null ∨ ∃ a, v = .ref a)
    (body : ∀ (p : Program) (e : Env) (s : State) (m : MethodId) (args : Array Value) (below : List Frame) (meth : Method) (c : Code) (A : Nat → Prop) (Q : State → Prop) (ls : Array Slot), CallFix p m c cc maxL s args wsy own → Wd G s A w0 s.heap [] → lv_has ls maxL (lv_args 0 as) →
      (∀ (H : Heap) (locs : List Loc) (pc : Nat) (ls : Array Slot), decode cc pc = .ok (.areturn, 1) → Wd G s A w1 H locs → W p l e rm s m args below meth c H locs 0 0 Q (F0 m pc ls [v])) →
      W p l e rm s m args below meth c s.heap [] 0 0 Q (F0 m 0 ls [])) : CfR l y wsy rm G as w0 v w1 :=
  x_start (Qc := fun sz => x_Qr v (BW G w0 sz (fun _ : Unit => w1) ()) (va_A w0 sz)) own hown hy hw hn (fun p e s m args below meth c A ls E hr hlk hAe hwd hl => body p e s m args below meth c A _ ls E hwd hl
    (fun H locs pc ls hdg hw2 => W.aret (v := v) E.1 E.2.1 hr (Or.inl ⟨C, rfl⟩) hv (fun t ht _ => ⟨⟨rfl, by rw [ht]; exact hw2.2.1, hAe ▸ hw2.2.2.1⟩, hAe ▸ hw2.2.2.2.1.F ht⟩) hw2.2.2.2.1.2.2 hdg hlk))
theorem x_callrr {st0 : List Value} {a : Array Value} {A0 A1 : Nat → Prop} {H0 : Heap} {mc ms : Nat} {free : Addr → Prop} {v0 : Value} {B : State → Prop} (hr : va_Run p l e R s m args below meth c H locs cells slots mc ms (F0 m pc ls st0) rest (x_Qr v0 B A1 a) free) (hS : va_S A0 H0 H locs) (hA : ∀ q, q < H.size → A1 q → A0 q) (hf : ∀ q, free q → A0 q)
    (kk : ∀ (t : State) (H1 : Heap) (locs1 : List Loc), t.heap = H1 → B t → (∀ q : Nat, q < H.size → ¬ A1 q → H1[q]? = H[q]?) → va_S A0 H0 H1 locs1 → W p l e R s m args below meth c H1 locs1 (cells + mc) (slots + ms) Q (F0 m (pc + 3) ls (v0 :: rest))) : W p l e R s m args below meth c H locs cells slots Q (F0 m pc ls st0) := by
  intro T hT X
  obtain ⟨v, st₀, t, T', L, h0, X', hL, e1, e2, ⟨⟨hv, hb⟩, hz, hk⟩, st⟩ := hr T hT X
  cases hv
  rw [h0] at hz hk
  obtain ⟨t2, a1, b1⟩ := kk t T'.heap (locs ++ L) e1.symm hb (fun q h1 h2 => by rw [e1]; exact hk q h1 h2)
    ⟨Nat.le_trans hS.1 (by rw [e1]; exact hz), fun q h1 h2 => by rw [e1, hk q (Nat.lt_of_lt_of_le h1 hS.1) (fun z => h2 (hA q (Nat.lt_of_lt_of_le h1 hS.1) z))]; exact hS.2.1 q h1 h2, fun q hq => by
      rcases List.mem_append.mp hq with h | h
      · exact hS.2.2 q h
      · exact hf _ (hL q h)⟩ T' rfl X'
  exact ⟨t2, st t2 a1, b1⟩
theorem x_cfVr (E : CallFix p m c cc nL s args Ts own) (hw : Wd G s A ws H locs) (hsz : ls.size = nL) {y : MethodName} {bytes : ByteArray} {maxL : Nat} {ret : Option FieldType} {wsy wsy' : List Cond} {rm : Room} {b : Addr} {As : List Value} {w0 : va_W} {w1 : va_W} {v0 : Value} (hM : CfR l y wsy rm G (.ref b :: As) w0 v0 w1) {C : String} {index : Nat} (n : Nat) (hG : GoodIn Ts (wsV own index C y wsy)) (hwy : wsy = Cond.code y bytes maxL ret :: wsy') (hrc : rm.cells = 0) (hrs : rm.slots = 0)
    (hd : y.cls = C ∧ y.cls ≠ "java/lang/invoke/MethodHandle" ∧ y.cls ≠ "java/lang/invoke/VarHandle" ∧ (parseMethodDescriptor y.desc).map (fun d => d.parameters.length) = some n) (hR : rm.frames + 1 ≤ R.frames ∧ 8 + (maxL + 11) + rm.locals ≤ R.locals) (hf : cells ≤ R.cells ∧ slots ≤ R.slots) (hn : As.length = n)
    (qr : Nat) {ci N : Nat} {fs : List Value} {T : u_T} (hci : vwCl[ci]? = some (C, T, N)) (hrecv : ws[qr]? = some (b, .inr (ci, fs))) (isC isR : List Nat) (hcn : va_nd isC = true) (hC : isC.map (fun i => ws[i]?) = w0.map some) (hRr : isR.map (fun i => ws[i]?) = (isR.filterMap (fun i => ws[i]?)).map some) (hnd : va_nd isR = true) (hdis : isR.all (fun i => !isC.contains i) = true)
    (isJ : List Nat) (w2 : va_W) (hJn : va_nd isJ = true) (hJ : isJ.map (fun i => (isR.filterMap (fun i => ws[i]?) ++ w1)[i]?) = w2.map some) {st : List Value} (hstk : st = As.reverse ++ .ref b :: rest) (hst : (rest.map fun v => v.category).sum ≤ 8) (hdg : decode cc pc = .ok (.invokevirtual index, 3))
    (kk : ∀ (H1 : Heap) (locs1 : List Loc), Wd G s A w2 H1 locs1 → W p l e R s m args below meth c H1 locs1 cells slots Q (F0 m (pc + 3) ls (v0 :: rest))) : W p l e R s m args below meth c H locs cells slots Q (F0 m pc ls st) := by
  subst hstk
  obtain ⟨hK, hP, hD, hS, hA, hN, hSK⟩ := id hw
  have hd1 : ∀ i ∈ isR, i ∉ isC := fun i hi h => by
    have h1 := List.all_eq_true.mp hdis i hi
    simp only [Bool.not_eq_true', List.contains_eq_mem, decide_eq_false_iff_not] at h1
    exact h1 h
  have hFc := va_free (wc := w0) hD hS hA isC hC
  have hDc : va_D A w0 := hD.sub isC hcn hC
  have hpre : ∀ U : State, U.heap = H → s.WarmedH U.vm → PreW G (.ref b :: As) w0 H.size (Value.ref b :: As).toArray U := fun U hU hW => by
    refine ⟨rfl, by rw [hU], va_K.moved hW.alike hK, ?_, ?_, hN.warm hW, ?_⟩
    · rw [hU]
      intro k q hq
      have h1 : (isC.map (fun i => ws[i]?))[k]? = some (some q) := by rw [hC, List.getElem?_map, hq]; rfl
      rw [List.getElem?_map] at h1
      cases hi : isC[k]? with
      | none => rw [hi] at h1; cases h1
      | some i => rw [hi] at h1; exact hP i q (Option.some.inj h1)
    · refine ⟨fun i j p q hp hq hpq => ?_, fun _ _ _ => trivial⟩
      exact hDc.1 i j p q hp hq hpq
    · rw [hU]
      exact hSK.go hW hS.2.1 hFc
  refine x_callrr (B := BW G w0 H.size (fun _ : Unit => w1) ()) (va_runV (As := As) (rest := rest) E (hM H.size) (cwV n E.2.2.2.2 hG hwy hrc hrs hd hR) ⟨PreW.blind, va_recv hK hP (ci := ci) (q0 := qr) hci hrecv, hpre⟩ rfl hn hsz rfl (lv_room hst) hdg hf) hS (fun q _ h => hFc q h) hFc (fun t H1 locs ht hB hk1 hS1 => ?_)
  obtain ⟨hP1, hD1⟩ := hB
  rw [ht] at hP1
  obtain ⟨hP3, hD3⟩ := va_join (wr := isR.filterMap (fun i => ws[i]?)) (w1 := w1) hP hD isC isR hC hRr hnd hd1 hk1 hFc hP1 hD1
  have hw3 : Wd G s A (isR.filterMap (fun i => ws[i]?) ++ w1) H1 locs := hw.set hP3 hD3 hS1
  exact kk H1 locs (hw3.sub isJ hJn hJ)
end XE
