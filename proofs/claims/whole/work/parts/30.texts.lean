/-! texts: a call of a text's own method; what a text's letters are -/
section XK
variable {p : Program} {l : Launch} {e : Env} {R : Room} {s : State} {m : MethodId} {args : Array Value} {below : List Frame} {meth : Method} {c : Code} {H : Heap} {locs : List Loc} {Q : State → Prop} {cc : ByteArray} {pc nL : Nat} {ls : Array Slot} {rest : List Value} {Ts : List Cond} {own : String} {G : XG} {A : Nat → Prop} {ws : va_W} {cells slots : Nat}
theorem x_calliK (E : CallFix p m c cc nL s args Ts own) (hw : Wd G s A ws H locs) (hsz : ls.size = nL) {y : MethodName} {bytes : ByteArray} {maxL : Nat} {ret : Option FieldType} {wsy wsy' : List Cond} {rm : Room} {b : Addr} {As : List Value} {w0 : va_W} {S : Type} {post : Int32 → S → Prop} {w1 : S → va_W} (hM : CtI l y wsy rm G (.ref b :: As) w0 post w1) {index : Nat} (n : Nat) (hG : GoodIn Ts (wsV own index "java/lang/String" y wsy)) (hwy : wsy = Cond.code y bytes maxL ret :: wsy') (hrc : rm.cells = 0) (hrs : rm.slots = 0)
    (hd : y.cls = "java/lang/String" ∧ y.cls ≠ "java/lang/invoke/MethodHandle" ∧ y.cls ≠ "java/lang/invoke/VarHandle" ∧ (parseMethodDescriptor y.desc).map (fun d => d.parameters.length) = some n) (hR : rm.frames + 1 ≤ R.frames ∧ 8 + (maxL + 11) + rm.locals ≤ R.locals) (hf : cells ≤ R.cells ∧ slots ≤ R.slots) (hn : As.length = n)
    (i0 : Nat) (hi0 : i0 < 5) (hb0 : b = G.2.2.2.1 i0) (isC isR : List Nat) (hcn : va_nd isC = true) (hC : isC.map (fun i => ws[i]?) = w0.map some) (hRr : isR.map (fun i => ws[i]?) = (isR.filterMap (fun i => ws[i]?)).map some) (hnd : va_nd isR = true) (hdis : isR.all (fun i => !isC.contains i) = true)
    (isJ : List Nat) (w2 : S → va_W) (hJn : va_nd isJ = true) (hJ : ∀ u, isJ.map (fun i => (isR.filterMap (fun i => ws[i]?) ++ w1 u)[i]?) = (w2 u).map some) {st : List Value} (hstk : st = As.reverse ++ .ref b :: rest) (hst : (rest.map fun v => v.category).sum ≤ 8) (hdg : decode cc pc = .ok (.invokevirtual index, 3))
    (kk : ∀ (r : Int32) (u : S) (H1 : Heap) (locs1 : List Loc), post r u → Wd G s A (w2 u) H1 locs1 → W p l e R s m args below meth c H1 locs1 cells slots Q (F0 m (pc + 3) ls (.int r :: rest))) : W p l e R s m args below meth c H locs cells slots Q (F0 m pc ls st) := by
  subst hstk
  obtain ⟨hK, hP, hD, hS, hA, hN, hSK⟩ := id hw
  have hd1 : ∀ i ∈ isR, i ∉ isC := fun i hi h => by
    have h1 := List.all_eq_true.mp hdis i hi
    simp only [Bool.not_eq_true', List.contains_eq_mem, decide_eq_false_iff_not] at h1
    exact h1 h
  have hFc := va_free (wc := w0) hD hS hA isC hC
  have hDc : va_D A w0 := hD.sub isC hcn hC
  have hpre : ∀ U : State, U.heap = H → s.WarmedH U.vm → PreW G (.ref b :: As) w0 H.size (Value.ref b :: As).toArray U := fun U hU hW => by
    refine ⟨rfl, by rw [hU], va_K.moved hW.alike hK, ?_, ?_, hN.warm hW, ?_⟩
    · rw [hU]
      intro k q hq
      have h1 : (isC.map (fun i => ws[i]?))[k]? = some (some q) := by rw [hC, List.getElem?_map, hq]; rfl
      rw [List.getElem?_map] at h1
      cases hi : isC[k]? with
      | none => rw [hi] at h1; cases h1
      | some i => rw [hi] at h1; exact hP i q (Option.some.inj h1)
    · refine ⟨fun i j p q hp hq hpq => ?_, fun _ _ _ => trivial⟩
      exact hDc.1 i j p q hp hq hpq
    · rw [hU]
      exact hSK.go hW hS.2.1 hFc
  refine va_calli (B := BW G w0 H.size w1) (va_runV (As := As) (rest := rest) E (hM H.size) (cwV n E.2.2.2.2 hG hwy hrc hrs hd hR) ⟨PreW.blind, by rw [hb0]; exact vk_recv hSK.1 hi0 hS, hpre⟩ rfl hn hsz rfl (lv_room hst) hdg hf) hS (fun q _ h => hFc q h) hFc (fun r u t H1 locs ht hvm hw2 hB hz1 hk1 hS1 => ?_)
  obtain ⟨hP1, hD1⟩ := hB
  rw [ht] at hP1
  obtain ⟨hP3, hD3⟩ := va_join (wr := isR.filterMap (fun i => ws[i]?)) (w1 := w1 u) hP hD isC isR hC hRr hnd hd1 hk1 hFc hP1 hD1
  have hw3 : Wd G s A (isR.filterMap (fun i => ws[i]?) ++ w1 u) H1 locs := hw.set hP3 hD3 hS1
  exact kk r u H1 locs hw2 (hw3.sub isJ hJn (hJ u))
theorem x_cfKi (E : CallFix p m c cc nL s args Ts own) (hw : Wd G s A ws H locs) (hsz : ls.size = nL) {y : MethodName} {bytes : ByteArray} {maxL : Nat} {ret : Option FieldType} {wsy wsy' : List Cond} {rm : Room} {b : Addr} {As : List Value} {w0 : va_W} {r0 : Int32} {w1 : va_W} (hM : CfI l y wsy rm G (.ref b :: As) w0 r0 w1) {index : Nat} (n : Nat) (hG : GoodIn Ts (wsV own index "java/lang/String" y wsy)) (hwy : wsy = Cond.code y bytes maxL ret :: wsy') (hrc : rm.cells = 0) (hrs : rm.slots = 0)
    (hd : y.cls = "java/lang/String" ∧ y.cls ≠ "java/lang/invoke/MethodHandle" ∧ y.cls ≠ "java/lang/invoke/VarHandle" ∧ (parseMethodDescriptor y.desc).map (fun d => d.parameters.length) = some n) (hR : rm.frames + 1 ≤ R.frames ∧ 8 + (maxL + 11) + rm.locals ≤ R.locals) (hf : cells ≤ R.cells ∧ slots ≤ R.slots) (hn : As.length = n)
    (i0 : Nat) (hi0 : i0 < 5) (hb0 : b = G.2.2.2.1 i0) (isC isR : List Nat) (hcn : va_nd isC = true) (hC : isC.map (fun i => ws[i]?) = w0.map some) (hRr : isR.map (fun i => ws[i]?) = (isR.filterMap (fun i => ws[i]?)).map some) (hnd : va_nd isR = true) (hdis : isR.all (fun i => !isC.contains i) = true)
    (isJ : List Nat) (w2 : va_W) (hJn : va_nd isJ = true) (hJ : isJ.map (fun i => (isR.filterMap (fun i => ws[i]?) ++ w1)[i]?) = w2.map some) {st : List Value} (hstk : st = As.reverse ++ .ref b :: rest) (hst : (rest.map fun v => v.category).sum ≤ 8) (hdg : decode cc pc = .ok (.invokevirtual index, 3))
    (kk : ∀ (H1 : Heap) (locs1 : List Loc), Wd G s A w2 H1 locs1 → W p l e R s m args below meth c H1 locs1 cells slots Q (F0 m (pc + 3) ls (.int r0 :: rest))) : W p l e R s m args below meth c H locs cells slots Q (F0 m pc ls st) :=
  x_calliK E hw hsz hM n hG hwy hrc hrs hd hR hf hn i0 hi0 hb0 isC isR hcn hC hRr hnd hdis isJ (fun _ => w2) hJn (fun _ => hJ) hstk hst hdg (fun r u H1 locs1 hp hw2 => hp ▸ kk H1 locs1 hw2)
end XK
def chI (i k : Nat) : Int32 := (bytS.getD i []).getD k 0 &&& 255
def lnS (i : Nat) : Nat := lenS.getD i 0
theorem lnS_lt : ∀ i, i < 5 → lnS i < 6 := by decide +kernel
def eqL (i : Nat) (gb : Nat → Nat) (p : Nat) : Nat → Bool
  | 0 => true
  | k + 1 => eqL i gb p k && decide ((chI i k).toInt = (gb (p + k) : Int))
theorem eqL_no {i : Nat} {gb : Nat → Nat} {p k : Nat} (h : ¬ (chI i k).toInt = (gb (p + k) : Int)) : ∀ m, k < m → ¬ eqL i gb p m = true := by
  intro m
  induction m with
  | zero => intro h; exact absurd h (Nat.not_lt_zero _)
  | succ m ih =>
    intro hk he
    rw [eqL, Bool.and_eq_true, decide_eq_true_eq] at he
    rcases Nat.lt_or_eq_of_le (Nat.le_of_lt_succ hk) with h1 | h1
    · exact ih h1 he.1
    · subst h1; exact h he.2
theorem eqL_yes {i : Nat} {gb : Nat → Nat} {p k : Nat} (h : eqL i gb p k = true) (h2 : (chI i k).toInt = (gb (p + k) : Int)) : eqL i gb p (k + 1) = true := by
  rw [eqL, h, Bool.true_and, decide_eq_true_eq]
  exact h2
/-- the token's text is that of constant i -/
def isS (i : Nat) (gb : Nat → Nat) (p e : Nat) : Prop := lnS i = e - p ∧ eqL i gb p (lnS i) = true
theorem isS_def {i : Nat} {gb : Nat → Nat} {p e : Nat} : isS i gb p e ↔ lnS i = e - p ∧ eqL i gb p (lnS i) = true := Iff.rfl
theorem x_shr0 {n : Nat} (h : n < 2147483648) : nI n >>> (nI 0 &&& 31) = nI n := sc_shr0 h
