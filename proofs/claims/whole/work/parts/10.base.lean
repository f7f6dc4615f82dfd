/-! own base: one bundle for the world at a place of a walk, contracts over it, rows that take the bundle -/
/-- the nest mates' links that GuessFolds uses -/
def nestW : List Cond := [
  .fieldLinkNest "GuessFolds" 50 "GuessFolds$Text" "bytes" "LGuessFolds$Row;" "GuessFolds",
  .fieldLinkNest "GuessFolds" 76 "GuessFolds$Text" "parts" "I" "GuessFolds",
  .fieldLinkNest "GuessFolds" 77 "GuessFolds$Text" "part" "I" "GuessFolds",
  .fieldLinkNest "GuessFolds" 78 "GuessFolds$Text" "off" "I" "GuessFolds",
  .fieldLinkNest "GuessFolds" 79 "GuessFolds$Text" "hair" "I" "GuessFolds",
  .fieldLinkNest "GuessFolds" 80 "GuessFolds$Text" "firsts" "LGuessFolds$Row;" "GuessFolds",
  .fieldLinkNest "GuessFolds" 87 "GuessFolds$Text" "seconds" "LGuessFolds$Row;" "GuessFolds",
  .fieldLinkNest "GuessFolds" 95 "GuessFolds$Text" "items" "I" "GuessFolds",
  .fieldLinkNest "GuessFolds" 103 "GuessFolds$Now" "where" "LGuessFolds$Row;" "GuessFolds",
  .fieldLinkNest "GuessFolds" 115 "GuessFolds$Now" "offness" "LGuessFolds$Row;" "GuessFolds",
  .fieldLinkNest "GuessFolds" 118 "GuessFolds$Now" "hairs" "LGuessFolds$Row;" "GuessFolds",
  .fieldLinkNest "GuessFolds" 163 "GuessFolds$Now" "letters" "LGuessFolds$Row;" "GuessFolds",
  .fieldLinkNest "GuessFolds" 171 "GuessFolds$Now" "seen" "LGuessFolds$Row;" "GuessFolds"]
def nestM : List Cond := [.methodLinkNest "GuessFolds" 11 yX2_init "GuessFolds", .methodLinkNest "GuessFolds" 18 yX0_init "GuessFolds"]
def x_nest (U : State) : Prop := (∀ w ∈ nestW, va_Nw w U) ∧ ∀ w ∈ nestM, va_Nw w U
theorem x_nest.warm {s U : State} (hW : s.WarmedH U.vm) (h : x_nest s) : x_nest U := by
  refine ⟨fun w hw => ?_, fun w hw => ?_⟩
  · have hz := h.1 w hw
    simp only [nestW, List.mem_cons, List.not_mem_nil, or_false] at hw
    rcases hw with rfl | rfl | rfl | rfl | rfl | rfl | rfl | rfl | rfl | rfl | rfl | rfl | rfl <;> exact va_Nw.warmF hW hz
  · have hz := h.2 w hw
    simp only [nestM, List.mem_cons, List.not_mem_nil, or_false] at hw
    rcases hw with rfl | rfl <;> exact va_Nw.warmM hW hz
theorem x_nest.calling {U : State} {g : JFrame} {mk : MethodId} {a : Array Value} (h : x_nest U) : x_nest (U.calling g mk a) := by
  refine ⟨fun w hw => ?_, fun w hw => ?_⟩
  · have hz := h.1 w hw
    simp only [nestW, List.mem_cons, List.not_mem_nil, or_false] at hw
    rcases hw with rfl | rfl | rfl | rfl | rfl | rfl | rfl | rfl | rfl | rfl | rfl | rfl | rfl <;> exact va_Nw.same rfl rfl hz
  · have hz := h.2 w hw
    simp only [nestM, List.mem_cons, List.not_mem_nil, or_false] at hw
    rcases hw with rfl | rfl <;> exact va_Nw.same rfl rfl hz
/-- the launch's places: classes, the two array classes, the five texts and their bytes -/
abbrev XG : Type := va_G × ClassId × ClassId × (Nat → Nat) × (Nat → Nat)
abbrev cJ (G : XG) : ClassId := G.2.1
abbrev cI (G : XG) : ClassId := G.2.2.1
abbrev tyz (G : XG) : List (ClassId × FieldType) := [(cJ G, .long), (cI G, .int)]
def lenS : List Nat := [5, 4, 3, 4, 4]
def bytS : List (List Int32) := [[115, 116, 114, 105, 112], [112, 97, 114, 116], [111, 102, 102], [104, 97, 105, 114], [102, 111, 108, 100]]
def ixS : List Nat := [95, 101, 102, 103, 104]
def txS : List String := ["strip", "part", "off", "hair", "fold"]
/-- what stands outside: the texts, two statics -/
def x_SK (G : XG) (A : Nat → Prop) (U : State) (H : Heap) : Prop :=
  vk_S 5 lenS bytS G.2.2.2.1 G.2.2.2.2 A U H ∧ (∀ i, i < 5 → vk_R RX2 (ixS.getD i 0) (txS.getD i "") (G.2.2.2.1 i) U) ∧ va_Z "java/lang/String" "COMPACT_STRINGS" "Z" (.int 1) A U H ∧ va_Zq "jdk/internal/util/Preconditions" "SIOOBE_FORMATTER" "Ljava/util/function/BiFunction;" A U H
theorem x_SK.go {G : XG} {A B : Nat → Prop} {s U : State} {H H1 : Heap} (hW : s.WarmedH U.vm) (hq : ∀ a : Nat, a < H.size → ¬ A a → H1[a]? = H[a]?) (hAB : ∀ q, B q → A q) (h : x_SK G A s H) : x_SK G B U H1 :=
  ⟨((h.1.kept hq).narrow hAB).moved hW.alike, fun i hi => vk_R.warm hW (h.2.1 i hi), ((h.2.2.1.kept hq).narrow hAB).moved hW.alike, ((h.2.2.2.kept hq).narrow hAB).moved hW.alike⟩
theorem x_SK.calling {G : XG} {A : Nat → Prop} {U : State} {H : Heap} {g : JFrame} {mk : MethodId} {a : Array Value} (h : x_SK G A U H) : x_SK G A (U.calling g mk a) H :=
  ⟨h.1.moved (Vm.Alike.refl U.vm), fun i hi => vk_R.same (u := U) rfl (h.2.1 i hi), h.2.2.1.moved (Vm.Alike.refl U.vm), h.2.2.2.moved (Vm.Alike.refl U.vm)⟩
/-- the world at a place of a walk -/
def Wd (G : XG) (s : State) (A : Nat → Prop) (ws : va_W) (H : Heap) (locs : List Loc) : Prop :=
  va_K G.1 vwCl (tyz G) s ∧ va_P G.1 vwCl ws H ∧ va_D A ws ∧ va_S A s.heap H locs ∧ (∀ q, s.heap.size ≤ q → A q) ∧ x_nest s ∧ x_SK G A s s.heap
def PreW (G : XG) (as : List Value) (w0 : va_W) (sz : Nat) : Array Value → State → Prop :=
  va_Pc as (fun U => U.heap.size = sz ∧ va_K G.1 vwCl (tyz G) U ∧ va_P G.1 vwCl w0 U.heap ∧ va_D (fun _ => True) w0 ∧ x_nest U ∧ x_SK G (va_A w0 sz) U U.heap)
theorem PreW.blind {G : XG} {as : List Value} {w0 : va_W} {sz : Nat} : FrameBlind (PreW G as w0 sz) := fun a U g mk h => ⟨h.1, h.2.1, va_K.moved (u := U) (U := U.calling g mk a) (Vm.Alike.refl U.vm) h.2.2.1, h.2.2.2.1, h.2.2.2.2.1, h.2.2.2.2.2.1.calling, h.2.2.2.2.2.2.calling⟩
def BW (G : XG) (w0 : va_W) (sz : Nat) {S : Type} (w1 : S → va_W) : S → State → Prop := fun u t => va_P G.1 vwCl (w1 u) t.heap ∧ va_D (va_A w0 sz) (w1 u)
/-- contracts: an int (or boolean), a long, nothing, a reference comes back -/
def CtI (l : Launch) (y : MethodName) (ws : List Cond) (rm : Room) (G : XG) (as : List Value) (w0 : va_W) {S : Type} (post : Int32 → S → Prop) (w1 : S → va_W) : Prop :=
  ∀ sz, Met l y ws rm (PreW G as w0 sz) (va_Qi post (BW G w0 sz w1) (va_A w0 sz)) 0 0 (va_A w0 sz)
def CtL (l : Launch) (y : MethodName) (ws : List Cond) (rm : Room) (G : XG) (as : List Value) (w0 : va_W) {S : Type} (post : Int64 → S → Prop) (w1 : S → va_W) : Prop :=
  ∀ sz, Met l y ws rm (PreW G as w0 sz) (va_Ql post (BW G w0 sz w1) (va_A w0 sz)) 0 0 (va_A w0 sz)
def CtV (l : Launch) (y : MethodName) (ws : List Cond) (rm : Room) (G : XG) (as : List Value) (w0 : va_W) {S : Type} (post : S → Prop) (w1 : S → va_W) : Prop :=
  ∀ sz, Met l y ws rm (PreW G as w0 sz) (va_Qv post (BW G w0 sz w1) (va_A w0 sz)) 0 0 (va_A w0 sz)
section XB
variable {l : Launch} {y : MethodName} {ws ws' : List Cond} {rm : Room} {G : XG} {as : List Value} {w0 : va_W} {S : Type} {w1 : S → va_W} {cc : ByteArray} {maxL : Nat}
theorem x_start {ret : Option FieldType} {Qc : Nat → Array Value → State → Outcome → State → Prop} (own : String) (hown : y.cls = own) (hy : plainName y.cls = true) (hw : ws = Cond.code y cc maxL ret :: ws') (hn : (lg_sl as).length ≤ maxL)
    (body : ∀ (p : Program) (e : Env) (s : State) (m : MethodId) (args : Array Value) (below : List Frame) (meth : Method) (c : Code) (A : Nat → Prop) (ls : Array Slot), CallFix p m c cc maxL s args ws own → meth.sig.returnType = ret → meth.locks = false → A = va_A w0 s.heap.size → Wd G s A w0 s.heap [] → lv_has ls maxL (lv_args 0 as) →
      W p l e rm s m args below meth c s.heap [] 0 0 (MQ below (Qc s.heap.size) args s 0 0 A) (F0 m 0 ls [])) :
    ∀ sz, Met l y ws rm (PreW G as w0 sz) (Qc sz) 0 0 (va_A w0 sz) := by
  intro sz
  refine Met.ofW (cc := cc) (maxL := maxL) (ret := ret) hy hw ?_
  intro p e s m args below meth c s₁ B hml hv
  obtain ⟨rfl, hsz, hK, hP, hD0, hN, hSK⟩ := hv
  subst hsz
  have hts := atoms_spec (ws := ws) B.pre
  have ho : s.vm.findClass own = some m.cls := hown ▸ findClass_of_methodNamed B.named
  rw [lg_entry_eq]
  exact body p e s m _ below meth c _ _ ⟨B.exec, B.bytes, hml, ho, hts⟩ B.returns B.notSynchronized rfl ⟨hK, hP, hD0.self, va_S.rf, fun q h => Or.inr h, hN, hSK⟩ (lv_entry as hn)
theorem CtI.go {post : Int32 → S → Prop} {rt : FieldType} (own : String) (hown : y.cls = own) (hy : plainName y.cls = true) (hw : ws = Cond.code y cc maxL (some rt) :: ws') (hn : (lg_sl as).length ≤ maxL)
    (body : ∀ (p : Program) (e : Env) (s : State) (m : MethodId) (args : Array Value) (below : List Frame) (meth : Method) (c : Code) (A : Nat → Prop) (Q : State → Prop) (ls : Array Slot), CallFix p m c cc maxL s args ws own → Wd G s A w0 s.heap [] → lv_has ls maxL (lv_args 0 as) →
      (∀ (r : Int32) (u : S) (H : Heap) (locs : List Loc) (pc : Nat) (ls : Array Slot), decode cc pc = .ok (.ireturn, 1) → narrow rt (.int r) = .int r → post r u → Wd G s A (w1 u) H locs → W p l e rm s m args below meth c H locs 0 0 Q (F0 m pc ls [.int r])) →
      W p l e rm s m args below meth c s.heap [] 0 0 Q (F0 m 0 ls [])) : CtI l y ws rm G as w0 post w1 :=
  x_start (Qc := fun sz => va_Qi post (BW G w0 sz w1) (va_A w0 sz)) own hown hy hw hn (fun p e s m args below meth c A ls E hr hlk hAe hwd hl => body p e s m args below meth c A _ ls E hwd hl
    (fun r u H locs pc ls hdg hnar hp hw2 => W.zret (v := r) E.1 E.2.1 hr hnar (fun t ht _ => ⟨⟨r, u, rfl, hp, by rw [ht]; exact hw2.2.1, hAe ▸ hw2.2.2.1⟩, hAe ▸ hw2.2.2.2.1.F ht⟩) hw2.2.2.2.1.2.2 hdg hlk))
theorem CtL.go {post : Int64 → S → Prop} (own : String) (hown : y.cls = own) (hy : plainName y.cls = true) (hw : ws = Cond.code y cc maxL (some .long) :: ws') (hn : (lg_sl as).length ≤ maxL)
    (body : ∀ (p : Program) (e : Env) (s : State) (m : MethodId) (args : Array Value) (below : List Frame) (meth : Method) (c : Code) (A : Nat → Prop) (Q : State → Prop) (ls : Array Slot), CallFix p m c cc maxL s args ws own → Wd G s A w0 s.heap [] → lv_has ls maxL (lv_args 0 as) →
      (∀ (r : Int64) (u : S) (H : Heap) (locs : List Loc) (pc : Nat) (ls : Array Slot), decode cc pc = .ok (.lreturn, 1) → post r u → Wd G s A (w1 u) H locs → W p l e rm s m args below meth c H locs 0 0 Q (F0 m pc ls [.long r])) →
      W p l e rm s m args below meth c s.heap [] 0 0 Q (F0 m 0 ls [])) : CtL l y ws rm G as w0 post w1 :=
  x_start (Qc := fun sz => va_Ql post (BW G w0 sz w1) (va_A w0 sz)) own hown hy hw hn (fun p e s m args below meth c A ls E hr hlk hAe hwd hl => body p e s m args below meth c A _ ls E hwd hl
    (fun r u H locs pc ls hdg hp hw2 => W.lret (v := r) E.1 E.2.1 hr (fun t ht _ => ⟨⟨r, u, rfl, hp, by rw [ht]; exact hw2.2.1, hAe ▸ hw2.2.2.1⟩, hAe ▸ hw2.2.2.2.1.F ht⟩) hw2.2.2.2.1.2.2 hdg hlk))
theorem CtV.go {post : S → Prop} (own : String) (hown : y.cls = own) (hy : plainName y.cls = true) (hw : ws = Cond.code y cc maxL none :: ws') (hn : (lg_sl as).length ≤ maxL)
    (body : ∀ (p : Program) (e : Env) (s : State) (m : MethodId) (args : Array Value) (below : List Frame) (meth : Method) (c : Code) (A : Nat → Prop) (Q : State → Prop) (ls : Array Slot), CallFix p m c cc maxL s args ws own → Wd G s A w0 s.heap [] → lv_has ls maxL (lv_args 0 as) →
      (∀ (u : S) (H : Heap) (locs : List Loc) (pc : Nat) (ls : Array Slot), decode cc pc = .ok (.return_, 1) → post u → Wd G s A (w1 u) H locs → W p l e rm s m args below meth c H locs 0 0 Q (F0 m pc ls [])) →
      W p l e rm s m args below meth c s.heap [] 0 0 Q (F0 m 0 ls [])) : CtV l y ws rm G as w0 post w1 :=
  x_start (Qc := fun sz => va_Qv post (BW G w0 sz w1) (va_A w0 sz)) own hown hy hw hn (fun p e s m args below meth c A ls E hr hlk hAe hwd hl => body p e s m args below meth c A _ ls E hwd hl
    (fun u H locs pc ls hdg hp hw2 => W.vret E.1 E.2.1 hr (fun t ht _ => ⟨⟨u, rfl, hp, by rw [ht]; exact hw2.2.1, hAe ▸ hw2.2.2.1⟩, hAe ▸ hw2.2.2.2.1.F ht⟩) hw2.2.2.2.1.2.2 hdg hlk))
end XB
