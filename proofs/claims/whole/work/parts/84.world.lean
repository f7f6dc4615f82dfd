/-! the launch's world -/
theorem tA1 : tA (fun _ => 1) = fI (fun _ => 0) := funext fun _ => tI_succ 0
theorem nest_in1 : ∀ w ∈ nestW, w ∈ lw_tbl := by decide +kernel
theorem nest_in2 : ∀ w ∈ nestM, w ∈ lw_tbl := by decide +kernel
theorem nest_on1 : ∀ w ∈ nestW, w.onTables = true := by decide +kernel
theorem nest_on2 : ∀ w ∈ nestM, w.onTables = true := by decide +kernel
theorem w_nest {s : State} {a : Array Value} (hts : ∀ w ∈ lw_tbl, w.before a s = true) : x_nest s :=
  ⟨fun w hw => va_Nw.of (nest_on1 w hw) (hts w (nest_in1 w hw)), fun w hw => va_Nw.of (nest_on2 w hw) (hts w (nest_in2 w hw))⟩
theorem w_arr {s : State} {a : Array Value} {ty : FieldType} (h : (Cond.arrayClass ty).before a s = true) : ∃ cA : ClassId, ArrOfT s cA ty ∧ s.vm.findClass ("[" ++ ty.toString) = some cA := by
  obtain ⟨cA, kA, comp, h1, h2, h3⟩ := Cond.arrayClass_spec h
  exact ⟨cA, fun n z => ⟨(fun k h => by cases h), kA, h2, comp, h3⟩, h1⟩
theorem w_cls {s : State} {a : Array Value} (hts : ∀ w ∈ lw_tbl, w.before a s = true) : ∃ G0 : va_G, ∀ (k : Nat) (q : vw_C), vwCl[k]? = some q → u_Kn s q.1 q.2.1 q.2.2 (G0.1 k) (G0.2 k) := by
  obtain ⟨c0, j0, hk0⟩ := u_known (C := RX0) (T := TX0) (N := 5) (n := 5) hts inX0 (hts (.instantiable RX0 5) (wsL_law_in _ (inL (i := 18) rfl)))
  obtain ⟨c1, j1, hk1⟩ := u_known (C := RX1) (T := TX1) (N := 2) (n := 2) hts inX1 (hts (.instantiable RX1 2) (wsL_law_in _ (inL (i := 32) rfl)))
  obtain ⟨c2, j2, hk2⟩ := u_known (C := RX2) (T := TX2) (N := 15) (n := 15) hts inX2 (hts (.instantiable RX2 15) (wsL_law_in _ (inL (i := 14) rfl)))
  obtain ⟨c3, j3, hk3⟩ := u_known (C := RX3) (T := TX3) (N := 9) (n := 9) hts inX3 (hts (.instantiable RX3 9) (wsL_law_in _ (inL (i := 1) rfl)))
  obtain ⟨c4, j4, hk4⟩ := u_known (C := RX4) (T := TX4) (N := 23) (n := 23) hts inX4 (hts (.instantiable RX4 23) (wsL_law_in _ (inL (i := 4) rfl)))
  refine ⟨(fun k => if k = 0 then c0 else if k = 1 then c1 else if k = 2 then c2 else if k = 3 then c3 else c4, fun k => if k = 0 then j0 else if k = 1 then j1 else if k = 2 then j2 else if k = 3 then j3 else j4), ?_⟩
  intro k q hq
  match k, hq with
  | 0, hq => cases hq; exact hk0
  | 1, hq => cases hq; exact hk1
  | 2, hq => cases hq; exact hk2
  | 3, hq => cases hq; exact hk3
  | 4, hq => cases hq; exact hk4
  | k + 5, hq => simp [vwCl] at hq
set_option maxHeartbeats 8000000 in
set_option maxRecDepth 100000 in
theorem w_texts {s : State} {a : Array Value} {A : Nat → Prop} (hq : ∀ w ∈ flatC (Jvm.Cond.and given_1 narrow_1), w.before a s = true) (hA : ∀ q : Nat, q < s.heap.size → ¬ A q) : ∃ adK adV : Nat → Nat, vk_S 5 lenS bytS adK adV A s s.heap ∧ ∀ i : Nat, i < 5 → (Term.string RX2 (ixS.getD i 0)).eval a s none [] s = some (.ref (adK i)) := by
  refine vk_Sof (tm := fun i => Term.string RX2 (ixS.getD i 0)) (args := a) (s := s) (fun i hi => ?_) (fun i hi => ?_) (fun i hi => ?_) (fun i hi => ?_) (fun i hi => ?_) (fun i hi j hj => ?_) (fun i j hi hj hij => ?_) hA
  · rcases (show i = 0 ∨ i = 1 ∨ i = 2 ∨ i = 3 ∨ i = 4 by omega) with rfl | rfl | rfl | rfl | rfl <;> decide
  · rcases (show i = 0 ∨ i = 1 ∨ i = 2 ∨ i = 3 ∨ i = 4 by omega) with rfl | rfl | rfl | rfl | rfl
    · exact hq (Cond.exactly (.string RX2 95) "java/lang/String") (by decide +kernel)
    · exact hq (Cond.exactly (.string RX2 101) "java/lang/String") (by decide +kernel)
    · exact hq (Cond.exactly (.string RX2 102) "java/lang/String") (by decide +kernel)
    · exact hq (Cond.exactly (.string RX2 103) "java/lang/String") (by decide +kernel)
    · exact hq (Cond.exactly (.string RX2 104) "java/lang/String") (by decide +kernel)
  · rcases (show i = 0 ∨ i = 1 ∨ i = 2 ∨ i = 3 ∨ i = 4 by omega) with rfl | rfl | rfl | rfl | rfl
    · exact hq (Cond.eq (.field (.string RX2 95) "java/lang/String" "coder" "B") (.int 0)) (by decide +kernel)
    · exact hq (Cond.eq (.field (.string RX2 101) "java/lang/String" "coder" "B") (.int 0)) (by decide +kernel)
    · exact hq (Cond.eq (.field (.string RX2 102) "java/lang/String" "coder" "B") (.int 0)) (by decide +kernel)
    · exact hq (Cond.eq (.field (.string RX2 103) "java/lang/String" "coder" "B") (.int 0)) (by decide +kernel)
    · exact hq (Cond.eq (.field (.string RX2 104) "java/lang/String" "coder" "B") (.int 0)) (by decide +kernel)
  · rcases (show i = 0 ∨ i = 1 ∨ i = 2 ∨ i = 3 ∨ i = 4 by omega) with rfl | rfl | rfl | rfl | rfl
    · exact hq (Cond.arrayOf (.field (.string RX2 95) "java/lang/String" "value" "[B") .byte) (by decide +kernel)
    · exact hq (Cond.arrayOf (.field (.string RX2 101) "java/lang/String" "value" "[B") .byte) (by decide +kernel)
    · exact hq (Cond.arrayOf (.field (.string RX2 102) "java/lang/String" "value" "[B") .byte) (by decide +kernel)
    · exact hq (Cond.arrayOf (.field (.string RX2 103) "java/lang/String" "value" "[B") .byte) (by decide +kernel)
    · exact hq (Cond.arrayOf (.field (.string RX2 104) "java/lang/String" "value" "[B") .byte) (by decide +kernel)
  · rcases (show i = 0 ∨ i = 1 ∨ i = 2 ∨ i = 3 ∨ i = 4 by omega) with rfl | rfl | rfl | rfl | rfl
    · exact hq (Cond.eq (.length (.field (.string RX2 95) "java/lang/String" "value" "[B")) (.int 5)) (by decide +kernel)
    · exact hq (Cond.eq (.length (.field (.string RX2 101) "java/lang/String" "value" "[B")) (.int 4)) (by decide +kernel)
    · exact hq (Cond.eq (.length (.field (.string RX2 102) "java/lang/String" "value" "[B")) (.int 3)) (by decide +kernel)
    · exact hq (Cond.eq (.length (.field (.string RX2 103) "java/lang/String" "value" "[B")) (.int 4)) (by decide +kernel)
    · exact hq (Cond.eq (.length (.field (.string RX2 104) "java/lang/String" "value" "[B")) (.int 4)) (by decide +kernel)
  · rcases (show i = 0 ∨ i = 1 ∨ i = 2 ∨ i = 3 ∨ i = 4 by omega) with rfl | rfl | rfl | rfl | rfl
    · have hj : j < 5 := hj
      rcases (show j = 0 ∨ j = 1 ∨ j = 2 ∨ j = 3 ∨ j = 4 by omega) with rfl | rfl | rfl | rfl | rfl
      · exact hq (Cond.eq (.elem (.field (.string RX2 95) "java/lang/String" "value" "[B") (.int 0)) (.int 115)) (by decide +kernel)
      · exact hq (Cond.eq (.elem (.field (.string RX2 95) "java/lang/String" "value" "[B") (.int 1)) (.int 116)) (by decide +kernel)
      · exact hq (Cond.eq (.elem (.field (.string RX2 95) "java/lang/String" "value" "[B") (.int 2)) (.int 114)) (by decide +kernel)
      · exact hq (Cond.eq (.elem (.field (.string RX2 95) "java/lang/String" "value" "[B") (.int 3)) (.int 105)) (by decide +kernel)
      · exact hq (Cond.eq (.elem (.field (.string RX2 95) "java/lang/String" "value" "[B") (.int 4)) (.int 112)) (by decide +kernel)
    · have hj : j < 4 := hj
      rcases (show j = 0 ∨ j = 1 ∨ j = 2 ∨ j = 3 by omega) with rfl | rfl | rfl | rfl
      · exact hq (Cond.eq (.elem (.field (.string RX2 101) "java/lang/String" "value" "[B") (.int 0)) (.int 112)) (by decide +kernel)
      · exact hq (Cond.eq (.elem (.field (.string RX2 101) "java/lang/String" "value" "[B") (.int 1)) (.int 97)) (by decide +kernel)
      · exact hq (Cond.eq (.elem (.field (.string RX2 101) "java/lang/String" "value" "[B") (.int 2)) (.int 114)) (by decide +kernel)
      · exact hq (Cond.eq (.elem (.field (.string RX2 101) "java/lang/String" "value" "[B") (.int 3)) (.int 116)) (by decide +kernel)
    · have hj : j < 3 := hj
      rcases (show j = 0 ∨ j = 1 ∨ j = 2 by omega) with rfl | rfl | rfl
      · exact hq (Cond.eq (.elem (.field (.string RX2 102) "java/lang/String" "value" "[B") (.int 0)) (.int 111)) (by decide +kernel)
      · exact hq (Cond.eq (.elem (.field (.string RX2 102) "java/lang/String" "value" "[B") (.int 1)) (.int 102)) (by decide +kernel)
      · exact hq (Cond.eq (.elem (.field (.string RX2 102) "java/lang/String" "value" "[B") (.int 2)) (.int 102)) (by decide +kernel)
    · have hj : j < 4 := hj
      rcases (show j = 0 ∨ j = 1 ∨ j = 2 ∨ j = 3 by omega) with rfl | rfl | rfl | rfl
      · exact hq (Cond.eq (.elem (.field (.string RX2 103) "java/lang/String" "value" "[B") (.int 0)) (.int 104)) (by decide +kernel)
      · exact hq (Cond.eq (.elem (.field (.string RX2 103) "java/lang/String" "value" "[B") (.int 1)) (.int 97)) (by decide +kernel)
      · exact hq (Cond.eq (.elem (.field (.string RX2 103) "java/lang/String" "value" "[B") (.int 2)) (.int 105)) (by decide +kernel)
      · exact hq (Cond.eq (.elem (.field (.string RX2 103) "java/lang/String" "value" "[B") (.int 3)) (.int 114)) (by decide +kernel)
    · have hj : j < 4 := hj
      rcases (show j = 0 ∨ j = 1 ∨ j = 2 ∨ j = 3 by omega) with rfl | rfl | rfl | rfl
      · exact hq (Cond.eq (.elem (.field (.string RX2 104) "java/lang/String" "value" "[B") (.int 0)) (.int 102)) (by decide +kernel)
      · exact hq (Cond.eq (.elem (.field (.string RX2 104) "java/lang/String" "value" "[B") (.int 1)) (.int 111)) (by decide +kernel)
      · exact hq (Cond.eq (.elem (.field (.string RX2 104) "java/lang/String" "value" "[B") (.int 2)) (.int 108)) (by decide +kernel)
      · exact hq (Cond.eq (.elem (.field (.string RX2 104) "java/lang/String" "value" "[B") (.int 3)) (.int 100)) (by decide +kernel)
  · rcases (show i = 0 ∨ i = 1 ∨ i = 2 ∨ i = 3 ∨ i = 4 by omega) with rfl | rfl | rfl | rfl | rfl
    · rcases (show j = 0 ∨ j = 1 ∨ j = 2 ∨ j = 3 ∨ j = 4 by omega) with rfl | rfl | rfl | rfl | rfl
      · exact absurd rfl hij
      · exact Or.inl (hq (Cond.not (Cond.eq (.string RX2 95) (.string RX2 101))) (by decide +kernel))
      · exact Or.inl (hq (Cond.not (Cond.eq (.string RX2 95) (.string RX2 102))) (by decide +kernel))
      · exact Or.inl (hq (Cond.not (Cond.eq (.string RX2 95) (.string RX2 103))) (by decide +kernel))
      · exact Or.inl (hq (Cond.not (Cond.eq (.string RX2 95) (.string RX2 104))) (by decide +kernel))
    · rcases (show j = 0 ∨ j = 1 ∨ j = 2 ∨ j = 3 ∨ j = 4 by omega) with rfl | rfl | rfl | rfl | rfl
      · exact Or.inr (hq (Cond.not (Cond.eq (.string RX2 95) (.string RX2 101))) (by decide +kernel))
      · exact absurd rfl hij
      · exact Or.inl (hq (Cond.not (Cond.eq (.string RX2 101) (.string RX2 102))) (by decide +kernel))
      · exact Or.inl (hq (Cond.not (Cond.eq (.string RX2 101) (.string RX2 103))) (by decide +kernel))
      · exact Or.inl (hq (Cond.not (Cond.eq (.string RX2 101) (.string RX2 104))) (by decide +kernel))
    · rcases (show j = 0 ∨ j = 1 ∨ j = 2 ∨ j = 3 ∨ j = 4 by omega) with rfl | rfl | rfl | rfl | rfl
      · exact Or.inr (hq (Cond.not (Cond.eq (.string RX2 95) (.string RX2 102))) (by decide +kernel))
      · exact Or.inr (hq (Cond.not (Cond.eq (.string RX2 101) (.string RX2 102))) (by decide +kernel))
      · exact absurd rfl hij
      · exact Or.inl (hq (Cond.not (Cond.eq (.string RX2 102) (.string RX2 103))) (by decide +kernel))
      · exact Or.inl (hq (Cond.not (Cond.eq (.string RX2 102) (.string RX2 104))) (by decide +kernel))
    · rcases (show j = 0 ∨ j = 1 ∨ j = 2 ∨ j = 3 ∨ j = 4 by omega) with rfl | rfl | rfl | rfl | rfl
      · exact Or.inr (hq (Cond.not (Cond.eq (.string RX2 95) (.string RX2 103))) (by decide +kernel))
      · exact Or.inr (hq (Cond.not (Cond.eq (.string RX2 101) (.string RX2 103))) (by decide +kernel))
      · exact Or.inr (hq (Cond.not (Cond.eq (.string RX2 102) (.string RX2 103))) (by decide +kernel))
      · exact absurd rfl hij
      · exact Or.inl (hq (Cond.not (Cond.eq (.string RX2 103) (.string RX2 104))) (by decide +kernel))
    · rcases (show j = 0 ∨ j = 1 ∨ j = 2 ∨ j = 3 ∨ j = 4 by omega) with rfl | rfl | rfl | rfl | rfl
      · exact Or.inr (hq (Cond.not (Cond.eq (.string RX2 95) (.string RX2 104))) (by decide +kernel))
      · exact Or.inr (hq (Cond.not (Cond.eq (.string RX2 101) (.string RX2 104))) (by decide +kernel))
      · exact Or.inr (hq (Cond.not (Cond.eq (.string RX2 102) (.string RX2 104))) (by decide +kernel))
      · exact Or.inr (hq (Cond.not (Cond.eq (.string RX2 103) (.string RX2 104))) (by decide +kernel))
      · exact absurd rfl hij
theorem w_start {s : State} {a : Array Value} (hts : ∀ w ∈ lw_tbl, w.before a s = true) (hgv : (Jvm.Cond.and given_1 narrow_1).before a s = true) : ∃ G : XG, ∀ A : Nat → Prop, (∀ q : Nat, s.heap.size ≤ q → A q) → (∀ q : Nat, q < s.heap.size → ¬ A q) → Wd G s A [] s.heap [] := by
  have hq := flat_of_before _ hgv
  obtain ⟨G0, hG0⟩ := w_cls hts
  obtain ⟨aJ, hJ1, hJ2⟩ := w_arr (ty := .long) (hts (.arrayClass .long) (wsL_law_in _ (inL (i := 46) rfl)))
  obtain ⟨aI, hI1, hI2⟩ := w_arr (ty := .int) (hts (.arrayClass .int) (wsL_law_in _ (inL (i := 83) rfl)))
  obtain ⟨adK, adV, hS0, hE⟩ := w_texts (A := fun q : Nat => s.heap.size ≤ q) hq (fun q h => Nat.not_le.mpr h)
  refine ⟨(G0, aJ, aI, adK, adV), fun A hA hB => ⟨⟨hG0, fun k q h => ?_⟩, fun k q h => by simp at h, ⟨fun i j p q h => by simp at h, fun k q h => by simp at h⟩, va_S.rf, hA, w_nest hts, hS0.narrow (fun q h => ?_), fun i hi => ?_, ?_, ?_⟩⟩
  · match k, h with
    | 0, h => cases h; exact ⟨hJ1, hJ2⟩
    | 1, h => cases h; exact ⟨hI1, hI2⟩
    | k + 2, h => simp [tyz] at h
  · exact Nat.le_of_not_lt (fun h1 => hB q h1 h)
  · refine vk_R.of (A := a) ?_ (hE i hi)
    rcases (show i = 0 ∨ i = 1 ∨ i = 2 ∨ i = 3 ∨ i = 4 by omega) with rfl | rfl | rfl | rfl | rfl
    · exact hts (.stringRef RX2 95 "strip") (by decide +kernel)
    · exact hts (.stringRef RX2 101 "part") (by decide +kernel)
    · exact hts (.stringRef RX2 102 "off") (by decide +kernel)
    · exact hts (.stringRef RX2 103 "hair") (by decide +kernel)
    · exact hts (.stringRef RX2 104 "fold") (by decide +kernel)
  · exact va_Zof (args := a) (hts (.laysStatic "java/lang/String" "COMPACT_STRINGS" "Z") (by decide +kernel)) (hts (.initialized "java/lang/String") (by decide +kernel)) (va_eqt (hq (Cond.eq (.static "java/lang/String" "COMPACT_STRINGS" "Z") (.int 1)) (by decide +kernel))) hB
  · exact va_Zqof (args := a) (hts (.laysStatic "jdk/internal/util/Preconditions" "SIOOBE_FORMATTER" "Ljava/util/function/BiFunction;") (by decide +kernel)) (hts (.initialized "jdk/internal/util/Preconditions") (by decide +kernel)) (hq (Cond.isRef (.static "jdk/internal/util/Preconditions" "SIOOBE_FORMATTER" "Ljava/util/function/BiFunction;")) (by decide +kernel)) hB
