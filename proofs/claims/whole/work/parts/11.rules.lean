/-! own rows over the bundle -/
section XR
variable {p : Program} {l : Launch} {e : Env} {R : Room} {s : State} {m : MethodId} {args : Array Value} {below : List Frame} {meth : Method} {c : Code} {H : Heap} {locs : List Loc} {Q : State → Prop} {cc : ByteArray} {pc nL : Nat} {ls : Array Slot} {rest : List Value} {Ts : List Cond} {own : String} {G : XG} {A : Nat → Prop} {ws ws1 : va_W} {cells slots : Nat}
theorem Wd.set {H1 : Heap} {locs1 : List Loc} (hw : Wd G s A ws H locs) (hP : va_P G.1 vwCl ws1 H1) (hD : va_D A ws1) (hS : va_S A s.heap H1 locs1) : Wd G s A ws1 H1 locs1 := ⟨hw.1, hP, hD, hS, hw.2.2.2.2⟩
theorem Wd.sub (hw : Wd G s A ws H locs) (is : List Nat) (hn : va_nd is = true) (hs : is.map (fun i => ws[i]?) = ws1.map some) : Wd G s A ws1 H locs := by
  refine hw.set (hw.2.1.sub is ?_) (hw.2.2.1.sub is hn hs) hw.2.2.2.1
  have h : is.filterMap (fun i => ws[i]?) = (is.map (fun i => ws[i]?)).filterMap id := by rw [List.filterMap_map]; rfl
  rw [h, hs, List.filterMap_map]
  simp
theorem Wd.cast (hw : Wd G s A ws H locs) (h : ws = ws1) : Wd G s A ws1 H locs := h ▸ hw
theorem x_get (E : CallFix p m c cc nL s args Ts own) (hw : Wd G s A ws H locs) {C : String} {T : u_T} {N ci index a : Nat} (hin : ∀ w ∈ u_ws C T N, w ∈ Ts) (q0 : Nat) {fs : List Value} (he : ws[q0]? = some (a, .inr (ci, fs))) (hc : vwCl[ci]? = some (C, T, N)) (k : Nat) (hk : k < N) {v : Value} (hv : fs[k]? = some v) (hlink : Cond.fieldLink own index (T k).1 (T k).2.1 (T k).2.2.1 ∈ Ts) (hdg : decode cc pc = .ok (.getfield index, 3))
    (kk : W p l e R s m args below meth c H locs cells slots Q (F0 m (pc + 3) ls (v :: rest))) : W p l e R s m args below meth c H locs cells slots Q (F0 m pc ls (.ref a :: rest)) :=
  va_get E.1 E.2.1 E.2.2.2.2 hin E.2.2.2.1 hw.1 hw.2.1 q0 he hc k hk (E.2.2.2.2 _ hlink) (fun _ h => h) hv hdg kk
theorem x_getN (E : CallFix p m c cc nL s args Ts own) (hw : Wd G s A ws H locs) {C host : String} {T : u_T} {N ci index a : Nat} (hin : ∀ w ∈ u_ws C T N, w ∈ Ts) (q0 : Nat) {fs : List Value} (he : ws[q0]? = some (a, .inr (ci, fs))) (hc : vwCl[ci]? = some (C, T, N)) (k : Nat) (hk : k < N) {v : Value} (hv : fs[k]? = some v) (hlink : Cond.fieldLinkNest own index (T k).1 (T k).2.1 (T k).2.2.1 host ∈ nestW) (hdg : decode cc pc = .ok (.getfield index, 3))
    (kk : W p l e R s m args below meth c H locs cells slots Q (F0 m (pc + 3) ls (v :: rest))) : W p l e R s m args below meth c H locs cells slots Q (F0 m pc ls (.ref a :: rest)) :=
  va_getN E.1 E.2.1 E.2.2.2.2 hin E.2.2.2.1 hw.1 hw.2.1 q0 he hc k hk (va_Nw.use rfl (hw.2.2.2.2.2.1.1 _ hlink)) (fun _ h => h) hv hdg kk
theorem x_put (E : CallFix p m c cc nL s args Ts own) (hw : Wd G s A ws H locs) {C : String} {T : u_T} {N ci index a : Nat} (hin : ∀ w ∈ u_ws C T N, w ∈ Ts) {ty0 : Nat → FieldType} (hty : ∀ k, k < N → parseFieldDescriptor (T k).2.2.1 = some (ty0 k)) (hnm : ∀ a, a < N → ∀ b, b < N → a ≠ b → (T a).2.1 ≠ (T b).2.1) (q0 : Nat) {fs : List Value} (he : ws[q0]? = some (a, .inr (ci, fs))) (hc : vwCl[ci]? = some (C, T, N)) (k : Nat) (hk : k < N) (hlink : Cond.fieldLink own index (T k).1 (T k).2.1 (T k).2.2.1 ∈ Ts) (hfin : (T k).2.2.2 = false) {v : Value} (hn : narrow (ty0 k) v = v) (hfit : fits (ty0 k) v = true) (hl : k < fs.length) (hset : ws.set q0 (a, .inr (ci, fs.set k v)) = ws1)
    (hdg : decode cc pc = .ok (.putfield index, 3)) (kk : ∀ (H1 : Heap) (locs1 : List Loc), Wd G s A ws1 H1 locs1 → W p l e R s m args below meth c H1 locs1 cells slots Q (F0 m (pc + 3) ls rest)) : W p l e R s m args below meth c H locs cells slots Q (F0 m pc ls (v :: .ref a :: rest)) :=
  va_put E.1 E.2.1 E.2.2.2.2 hin ty0 hty hnm E.2.2.2.1 hw.1 hw.2.1 hw.2.2.1 hw.2.2.2.1 q0 he hc k hk (E.2.2.2.2 _ hlink) (fun _ h => h) hfin (hty k hk) hn hfit hl hdg (fun H1 locs1 hP hD hS => kk H1 locs1 (hw.set (hset ▸ hP) (hset ▸ hD) hS))
theorem x_lald (E : CallFix p m c cc nL s args Ts own) (hw : Wd G s A ws H locs) (q0 : Nat) {a n : Nat} {f : Nat → Int64} (ha : ws[q0]? = some (a, .inl (cJ G, n, .inr (.inl f)))) {i : Int32} {j : Nat} (hi : i = nI j) (hj : j < n) (hn : n < 2147483648) {v : Int64} (hv : f j = v) (hdg : decode cc pc = .ok (.laload, 1))
    (kk : W p l e R s m args below meth c H locs cells slots Q (F0 m (pc + 1) ls (.long v :: rest))) : W p l e R s m args below meth c H locs cells slots Q (F0 m pc ls (.int i :: .ref a :: rest)) := by
  subst hi
  refine va_lald E.1 E.2.1 hw.1 hw.2.1 q0 0 ha rfl (vp_in_nI hj hn) hdg ?_
  rw [nI_clamp (by omega), hv]
  exact kk
theorem x_iald (E : CallFix p m c cc nL s args Ts own) (hw : Wd G s A ws H locs) (q0 : Nat) {a n : Nat} {f : Nat → Int32} (ha : ws[q0]? = some (a, .inl (cI G, n, .inl f))) {i : Int32} {j : Nat} (hi : i = nI j) (hj : j < n) (hn : n < 2147483648) {v : Int32} (hv : f j = v) (hdg : decode cc pc = .ok (.iaload, 1))
    (kk : W p l e R s m args below meth c H locs cells slots Q (F0 m (pc + 1) ls (.int v :: rest))) : W p l e R s m args below meth c H locs cells slots Q (F0 m pc ls (.int i :: .ref a :: rest)) := by
  subst hi
  refine va_iald E.1 E.2.1 hw.1 hw.2.1 q0 1 ha rfl (vp_in_nI hj hn) hdg ?_
  rw [nI_clamp (by omega), hv]
  exact kk
/-- longs that are numbers, ints that are numbers: contents of arrays -/
abbrev fJ (g : Nat → Nat) : Nat → Int64 := fun j => lN (g j)
abbrev fI (g : Nat → Nat) : Nat → Int32 := fun j => nI (g j)
theorem fJ_up (g : Nat → Nat) (k v : Nat) : vp_updL (fJ g) k (lN v) = fJ (va_up g k v) := by
  funext j
  by_cases h : j = k <;> simp [vp_updL, fJ, va_up, h]
theorem fI_up (g : Nat → Nat) (k v : Nat) : upd (fI g) k (nI v) = fI (va_up g k v) := by
  funext j
  by_cases h : j = k <;> simp [upd, fI, va_up, h]
theorem x_last (E : CallFix p m c cc nL s args Ts own) (hw : Wd G s A ws H locs) (q0 : Nat) {a n : Nat} {f : Nat → Int64} (ha : ws[q0]? = some (a, .inl (cJ G, n, .inr (.inl f)))) {i : Int32} {j : Nat} (hi : i = nI j) (hj : j < n) (hn : n < 2147483648) {x : Int64} {f1 : Nat → Int64} (hf : vp_updL f j x = f1) (hset : ws.set q0 (a, .inl (cJ G, n, .inr (.inl f1))) = ws1) (hdg : decode cc pc = .ok (.lastore, 1))
    (kk : ∀ (H1 : Heap) (locs1 : List Loc), Wd G s A ws1 H1 locs1 → W p l e R s m args below meth c H1 locs1 cells slots Q (F0 m (pc + 1) ls rest)) : W p l e R s m args below meth c H locs cells slots Q (F0 m pc ls (.long x :: .int i :: .ref a :: rest)) := by
  subst hi
  have hc : (nI j).toNatClampNeg = j := nI_clamp (by omega)
  refine va_last E.1 E.2.1 hw.1 hw.2.1 hw.2.2.1 hw.2.2.2.1 q0 0 ha rfl (vp_in_nI hj hn) hdg (fun H1 locs1 hP hD hS => kk H1 locs1 (hw.set ?_ ?_ hS))
  · rw [hc, hf, hset] at hP
    exact hP
  · rw [hc, hf, hset] at hD
    exact hD
theorem x_iast (E : CallFix p m c cc nL s args Ts own) (hw : Wd G s A ws H locs) (q0 : Nat) {a n : Nat} {f : Nat → Int32} (ha : ws[q0]? = some (a, .inl (cI G, n, .inl f))) {i : Int32} {j : Nat} (hi : i = nI j) (hj : j < n) (hn : n < 2147483648) {x : Int32} {f1 : Nat → Int32} (hf : upd f j x = f1) (hset : ws.set q0 (a, .inl (cI G, n, .inl f1)) = ws1) (hdg : decode cc pc = .ok (.iastore, 1))
    (kk : ∀ (H1 : Heap) (locs1 : List Loc), Wd G s A ws1 H1 locs1 → W p l e R s m args below meth c H1 locs1 cells slots Q (F0 m (pc + 1) ls rest)) : W p l e R s m args below meth c H locs cells slots Q (F0 m pc ls (.int x :: .int i :: .ref a :: rest)) := by
  subst hi
  have hc : (nI j).toNatClampNeg = j := nI_clamp (by omega)
  refine va_iast E.1 E.2.1 hw.1 hw.2.1 hw.2.2.1 hw.2.2.2.1 q0 1 ha rfl (vp_in_nI hj hn) hdg (fun H1 locs1 hP hD hS => kk H1 locs1 (hw.set ?_ ?_ hS))
  · rw [hc, hf, hset] at hP
    exact hP
  · rw [hc, hf, hset] at hD
    exact hD
theorem x_alen (E : CallFix p m c cc nL s args Ts own) (hw : Wd G s A ws H locs) (q0 : Nat) {a n : Nat} {f : Nat → Int64} (ha : ws[q0]? = some (a, .inl (cJ G, n, .inr (.inl f)))) (hdg : decode cc pc = .ok (.arraylength, 1))
    (kk : W p l e R s m args below meth c H locs cells slots Q (F0 m (pc + 1) ls (.int (nI n) :: rest))) : W p l e R s m args below meth c H locs cells slots Q (F0 m pc ls (.ref a :: rest)) :=
  va_alen E.1 E.2.1 hw.1 hw.2.1 q0 0 ha rfl rfl hdg kk
-- arithmetic with its value named
theorem x_iadd (E : CallFix p m c cc nL s args Ts own) {x y v : Int32} (hdg : decode cc pc = .ok (.iadd, 1)) (hv : x + y = v) (k : W p l e R s m args below meth c H locs cells slots Q (F0 m (pc + 1) ls (.int v :: rest))) : W p l e R s m args below meth c H locs cells slots Q (F0 m pc ls (.int y :: .int x :: rest)) := lv_iadd E.1 E.2.1 hdg (hv ▸ k)
theorem x_isub (E : CallFix p m c cc nL s args Ts own) {x y v : Int32} (hdg : decode cc pc = .ok (.isub, 1)) (hv : x - y = v) (k : W p l e R s m args below meth c H locs cells slots Q (F0 m (pc + 1) ls (.int v :: rest))) : W p l e R s m args below meth c H locs cells slots Q (F0 m pc ls (.int y :: .int x :: rest)) := lv_isub E.1 E.2.1 hdg (hv ▸ k)
theorem x_imul (E : CallFix p m c cc nL s args Ts own) {x y v : Int32} (hdg : decode cc pc = .ok (.imul, 1)) (hv : x * y = v) (k : W p l e R s m args below meth c H locs cells slots Q (F0 m (pc + 1) ls (.int v :: rest))) : W p l e R s m args below meth c H locs cells slots Q (F0 m pc ls (.int y :: .int x :: rest)) := lv_imul E.1 E.2.1 hdg (hv ▸ k)
theorem x_iand (E : CallFix p m c cc nL s args Ts own) {x y v : Int32} (hdg : decode cc pc = .ok (.iand, 1)) (hv : x &&& y = v) (k : W p l e R s m args below meth c H locs cells slots Q (F0 m (pc + 1) ls (.int v :: rest))) : W p l e R s m args below meth c H locs cells slots Q (F0 m pc ls (.int y :: .int x :: rest)) := lv_iand E.1 E.2.1 hdg (hv ▸ k)
theorem x_ior (E : CallFix p m c cc nL s args Ts own) {x y v : Int32} (hdg : decode cc pc = .ok (.ior, 1)) (hv : x ||| y = v) (k : W p l e R s m args below meth c H locs cells slots Q (F0 m (pc + 1) ls (.int v :: rest))) : W p l e R s m args below meth c H locs cells slots Q (F0 m pc ls (.int y :: .int x :: rest)) := lv_ior E.1 E.2.1 hdg (hv ▸ k)
theorem x_idiv (E : CallFix p m c cc nL s args Ts own) {x y v : Int32} (hdg : decode cc pc = .ok (.idiv, 1)) (hne : ¬ y = 0) (hv : x / y = v) (k : W p l e R s m args below meth c H locs cells slots Q (F0 m (pc + 1) ls (.int v :: rest))) : W p l e R s m args below meth c H locs cells slots Q (F0 m pc ls (.int y :: .int x :: rest)) := lv_idiv E.1 E.2.1 hdg hne (hv ▸ k)
theorem x_irem (E : CallFix p m c cc nL s args Ts own) {x y v : Int32} (hdg : decode cc pc = .ok (.irem, 1)) (hne : ¬ y = 0) (hv : x - x / y * y = v) (k : W p l e R s m args below meth c H locs cells slots Q (F0 m (pc + 1) ls (.int v :: rest))) : W p l e R s m args below meth c H locs cells slots Q (F0 m pc ls (.int y :: .int x :: rest)) := lv_irem E.1 E.2.1 hdg hne (hv ▸ k)
theorem x_ishl (E : CallFix p m c cc nL s args Ts own) {x y v : Int32} (hdg : decode cc pc = .ok (.ishl, 1)) (hv : x <<< (y &&& 31) = v) (k : W p l e R s m args below meth c H locs cells slots Q (F0 m (pc + 1) ls (.int v :: rest))) : W p l e R s m args below meth c H locs cells slots Q (F0 m pc ls (.int y :: .int x :: rest)) := lv_ishl E.1 E.2.1 hdg (hv ▸ k)
theorem x_ladd (E : CallFix p m c cc nL s args Ts own) {x y v : Int64} (hdg : decode cc pc = .ok (.ladd, 1)) (hv : x + y = v) (k : W p l e R s m args below meth c H locs cells slots Q (F0 m (pc + 1) ls (.long v :: rest))) : W p l e R s m args below meth c H locs cells slots Q (F0 m pc ls (.long y :: .long x :: rest)) := lv_ladd E.1 E.2.1 hdg (hv ▸ k)
theorem x_lsub (E : CallFix p m c cc nL s args Ts own) {x y v : Int64} (hdg : decode cc pc = .ok (.lsub, 1)) (hv : x - y = v) (k : W p l e R s m args below meth c H locs cells slots Q (F0 m (pc + 1) ls (.long v :: rest))) : W p l e R s m args below meth c H locs cells slots Q (F0 m pc ls (.long y :: .long x :: rest)) := lv_lsub E.1 E.2.1 hdg (hv ▸ k)
theorem x_lmul (E : CallFix p m c cc nL s args Ts own) {x y v : Int64} (hdg : decode cc pc = .ok (.lmul, 1)) (hv : x * y = v) (k : W p l e R s m args below meth c H locs cells slots Q (F0 m (pc + 1) ls (.long v :: rest))) : W p l e R s m args below meth c H locs cells slots Q (F0 m pc ls (.long y :: .long x :: rest)) := lv_lmul E.1 E.2.1 hdg (hv ▸ k)
theorem x_land (E : CallFix p m c cc nL s args Ts own) {x y v : Int64} (hdg : decode cc pc = .ok (.land, 1)) (hv : x &&& y = v) (k : W p l e R s m args below meth c H locs cells slots Q (F0 m (pc + 1) ls (.long v :: rest))) : W p l e R s m args below meth c H locs cells slots Q (F0 m pc ls (.long y :: .long x :: rest)) := lv_land E.1 E.2.1 hdg (hv ▸ k)
theorem x_lor (E : CallFix p m c cc nL s args Ts own) {x y v : Int64} (hdg : decode cc pc = .ok (.lor, 1)) (hv : x ||| y = v) (k : W p l e R s m args below meth c H locs cells slots Q (F0 m (pc + 1) ls (.long v :: rest))) : W p l e R s m args below meth c H locs cells slots Q (F0 m pc ls (.long y :: .long x :: rest)) := lv_lor E.1 E.2.1 hdg (hv ▸ k)
theorem x_ldiv (E : CallFix p m c cc nL s args Ts own) {x y v : Int64} (hdg : decode cc pc = .ok (.ldiv, 1)) (hne : ¬ y = 0) (hv : x / y = v) (k : W p l e R s m args below meth c H locs cells slots Q (F0 m (pc + 1) ls (.long v :: rest))) : W p l e R s m args below meth c H locs cells slots Q (F0 m pc ls (.long y :: .long x :: rest)) := lv_ldiv E.1 E.2.1 hdg hne (hv ▸ k)
theorem x_lrem (E : CallFix p m c cc nL s args Ts own) {x y v : Int64} (hdg : decode cc pc = .ok (.lrem, 1)) (hne : ¬ y = 0) (hv : x - x / y * y = v) (k : W p l e R s m args below meth c H locs cells slots Q (F0 m (pc + 1) ls (.long v :: rest))) : W p l e R s m args below meth c H locs cells slots Q (F0 m pc ls (.long y :: .long x :: rest)) := lv_lrem E.1 E.2.1 hdg hne (hv ▸ k)
-- facts of numbers
theorem nI_toI {n : Nat} (h : n < 2147483648) : (nI n).toInt = (n : Int) := nI_toInt h
theorem lN_toI {n : Nat} (h : n < 9223372036854775808) : (lN n).toInt = (n : Int) := pk_lT h
-- branches, told in integers
theorem i_lt (a b : Int32) : a < b ↔ a.toInt < b.toInt := Int32.lt_iff_toInt_lt
theorem i_le (a b : Int32) : a ≤ b ↔ a.toInt ≤ b.toInt := Int32.le_iff_toInt_le
theorem i_eq (a b : Int32) : a = b ↔ a.toInt = b.toInt := Int32.toInt_inj.symm
theorem j_lt (a b : Int64) : a < b ↔ a.toInt < b.toInt := Int64.lt_iff_toInt_lt
theorem j_le (a b : Int64) : a ≤ b ↔ a.toInt ≤ b.toInt := Int64.le_iff_toInt_le
theorem j_eq (a b : Int64) : a = b ↔ a.toInt = b.toInt := Int64.toInt_inj.symm
theorem i_z : (0 : Int32).toInt = 0 := by decide
theorem x_icmp_eq (E : CallFix p m c cc nL s args Ts own) {x y : Int32} {X Y : Int} (hX : x.toInt = X) (hY : y.toInt = Y) {off : Int} {tgt : Nat} (hdg : decode cc pc = .ok (.if_icmp .eq off, 3)) (ht : (pc : Int) + off = (tgt : Int)) (kt : X = Y → W p l e R s m args below meth c H locs cells slots Q (F0 m tgt ls rest)) (kf : ¬ X = Y → W p l e R s m args below meth c H locs cells slots Q (F0 m (pc + 3) ls rest)) : W p l e R s m args below meth c H locs cells slots Q (F0 m pc ls (.int y :: .int x :: rest)) :=
  lv_icmp_eq E.1 E.2.1 hdg ht (fun h => kt (by rw [i_eq, hX, hY] at h; exact h)) (fun h => kf (by rw [i_eq, hX, hY] at h; exact h))
theorem x_if_eq (E : CallFix p m c cc nL s args Ts own) {x : Int32} {X : Int} (hX : x.toInt = X) {off : Int} {tgt : Nat} (hdg : decode cc pc = .ok (.ifCond .eq off, 3)) (ht : (pc : Int) + off = (tgt : Int)) (kt : X = 0 → W p l e R s m args below meth c H locs cells slots Q (F0 m tgt ls rest)) (kf : ¬ X = 0 → W p l e R s m args below meth c H locs cells slots Q (F0 m (pc + 3) ls rest)) : W p l e R s m args below meth c H locs cells slots Q (F0 m pc ls (.int x :: rest)) :=
  lv_if_eq E.1 E.2.1 hdg ht (fun h => kt (by rw [i_eq, hX, i_z] at h; exact h)) (fun h => kf (by rw [i_eq, hX, i_z] at h; exact h))
theorem x_lc_eq (E : CallFix p m c cc nL s args Ts own) {x y : Int64} {X Y : Int} (hX : x.toInt = X) (hY : y.toInt = Y) {off : Int} {tgt : Nat} (hd0 : decode cc pc = .ok (.lcmp, 1)) (hdg : decode cc (pc + 1) = .ok (.ifCond .eq off, 3)) (ht : ((pc + 1 : Nat) : Int) + off = (tgt : Int)) (kt : X = Y → W p l e R s m args below meth c H locs cells slots Q (F0 m tgt ls rest)) (kf : ¬ X = Y → W p l e R s m args below meth c H locs cells slots Q (F0 m (pc + 4) ls rest)) : W p l e R s m args below meth c H locs cells slots Q (F0 m pc ls (.long y :: .long x :: rest)) :=
  W.lcmp E.1 E.2.1 hd0 (lv_if_eq E.1 E.2.1 hdg ht (fun h => kt (by rw [lg_cmp_eq, j_eq, hX, hY] at h; exact h)) (fun h => kf (by rw [lg_cmp_eq, j_eq, hX, hY] at h; exact h)))
theorem x_icmp_ne (E : CallFix p m c cc nL s args Ts own) {x y : Int32} {X Y : Int} (hX : x.toInt = X) (hY : y.toInt = Y) {off : Int} {tgt : Nat} (hdg : decode cc pc = .ok (.if_icmp .ne off, 3)) (ht : (pc : Int) + off = (tgt : Int)) (kt : ¬ X = Y → W p l e R s m args below meth c H locs cells slots Q (F0 m tgt ls rest)) (kf : X = Y → W p l e R s m args below meth c H locs cells slots Q (F0 m (pc + 3) ls rest)) : W p l e R s m args below meth c H locs cells slots Q (F0 m pc ls (.int y :: .int x :: rest)) :=
  lv_icmp_ne E.1 E.2.1 hdg ht (fun h => kt (by rw [i_eq, hX, hY] at h; exact h)) (fun h => kf (by rw [i_eq, hX, hY] at h; exact h))
theorem x_if_ne (E : CallFix p m c cc nL s args Ts own) {x : Int32} {X : Int} (hX : x.toInt = X) {off : Int} {tgt : Nat} (hdg : decode cc pc = .ok (.ifCond .ne off, 3)) (ht : (pc : Int) + off = (tgt : Int)) (kt : ¬ X = 0 → W p l e R s m args below meth c H locs cells slots Q (F0 m tgt ls rest)) (kf : X = 0 → W p l e R s m args below meth c H locs cells slots Q (F0 m (pc + 3) ls rest)) : W p l e R s m args below meth c H locs cells slots Q (F0 m pc ls (.int x :: rest)) :=
  lv_if_ne E.1 E.2.1 hdg ht (fun h => kt (by rw [i_eq, hX, i_z] at h; exact h)) (fun h => kf (by rw [i_eq, hX, i_z] at h; exact h))
theorem x_lc_ne (E : CallFix p m c cc nL s args Ts own) {x y : Int64} {X Y : Int} (hX : x.toInt = X) (hY : y.toInt = Y) {off : Int} {tgt : Nat} (hd0 : decode cc pc = .ok (.lcmp, 1)) (hdg : decode cc (pc + 1) = .ok (.ifCond .ne off, 3)) (ht : ((pc + 1 : Nat) : Int) + off = (tgt : Int)) (kt : ¬ X = Y → W p l e R s m args below meth c H locs cells slots Q (F0 m tgt ls rest)) (kf : X = Y → W p l e R s m args below meth c H locs cells slots Q (F0 m (pc + 4) ls rest)) : W p l e R s m args below meth c H locs cells slots Q (F0 m pc ls (.long y :: .long x :: rest)) :=
  W.lcmp E.1 E.2.1 hd0 (lv_if_ne E.1 E.2.1 hdg ht (fun h => kt (by rw [lg_cmp_eq, j_eq, hX, hY] at h; exact h)) (fun h => kf (by rw [lg_cmp_eq, j_eq, hX, hY] at h; exact h)))
theorem x_icmp_lt (E : CallFix p m c cc nL s args Ts own) {x y : Int32} {X Y : Int} (hX : x.toInt = X) (hY : y.toInt = Y) {off : Int} {tgt : Nat} (hdg : decode cc pc = .ok (.if_icmp .lt off, 3)) (ht : (pc : Int) + off = (tgt : Int)) (kt : X < Y → W p l e R s m args below meth c H locs cells slots Q (F0 m tgt ls rest)) (kf : Y ≤ X → W p l e R s m args below meth c H locs cells slots Q (F0 m (pc + 3) ls rest)) : W p l e R s m args below meth c H locs cells slots Q (F0 m pc ls (.int y :: .int x :: rest)) :=
  lv_icmp_lt E.1 E.2.1 hdg ht (fun h => kt (by rw [i_lt, hX, hY] at h; exact h)) (fun h => kf (by rw [i_lt, hX, hY] at h; omega))
theorem x_if_lt (E : CallFix p m c cc nL s args Ts own) {x : Int32} {X : Int} (hX : x.toInt = X) {off : Int} {tgt : Nat} (hdg : decode cc pc = .ok (.ifCond .lt off, 3)) (ht : (pc : Int) + off = (tgt : Int)) (kt : X < 0 → W p l e R s m args below meth c H locs cells slots Q (F0 m tgt ls rest)) (kf : 0 ≤ X → W p l e R s m args below meth c H locs cells slots Q (F0 m (pc + 3) ls rest)) : W p l e R s m args below meth c H locs cells slots Q (F0 m pc ls (.int x :: rest)) :=
  lv_if_lt E.1 E.2.1 hdg ht (fun h => kt (by rw [i_lt, hX, i_z] at h; exact h)) (fun h => kf (by rw [i_lt, hX, i_z] at h; omega))
theorem x_lc_lt (E : CallFix p m c cc nL s args Ts own) {x y : Int64} {X Y : Int} (hX : x.toInt = X) (hY : y.toInt = Y) {off : Int} {tgt : Nat} (hd0 : decode cc pc = .ok (.lcmp, 1)) (hdg : decode cc (pc + 1) = .ok (.ifCond .lt off, 3)) (ht : ((pc + 1 : Nat) : Int) + off = (tgt : Int)) (kt : X < Y → W p l e R s m args below meth c H locs cells slots Q (F0 m tgt ls rest)) (kf : Y ≤ X → W p l e R s m args below meth c H locs cells slots Q (F0 m (pc + 4) ls rest)) : W p l e R s m args below meth c H locs cells slots Q (F0 m pc ls (.long y :: .long x :: rest)) :=
  W.lcmp E.1 E.2.1 hd0 (lv_if_lt E.1 E.2.1 hdg ht (fun h => kt (by rw [lg_cmp_lt, j_lt, hX, hY] at h; exact h)) (fun h => kf (by rw [lg_cmp_lt, j_lt, hX, hY] at h; omega)))
theorem x_icmp_ge (E : CallFix p m c cc nL s args Ts own) {x y : Int32} {X Y : Int} (hX : x.toInt = X) (hY : y.toInt = Y) {off : Int} {tgt : Nat} (hdg : decode cc pc = .ok (.if_icmp .ge off, 3)) (ht : (pc : Int) + off = (tgt : Int)) (kt : Y ≤ X → W p l e R s m args below meth c H locs cells slots Q (F0 m tgt ls rest)) (kf : X < Y → W p l e R s m args below meth c H locs cells slots Q (F0 m (pc + 3) ls rest)) : W p l e R s m args below meth c H locs cells slots Q (F0 m pc ls (.int y :: .int x :: rest)) :=
  lv_icmp_ge E.1 E.2.1 hdg ht (fun h => kt (by rw [i_le, hX, hY] at h; exact h)) (fun h => kf (by rw [i_le, hX, hY] at h; omega))
theorem x_if_ge (E : CallFix p m c cc nL s args Ts own) {x : Int32} {X : Int} (hX : x.toInt = X) {off : Int} {tgt : Nat} (hdg : decode cc pc = .ok (.ifCond .ge off, 3)) (ht : (pc : Int) + off = (tgt : Int)) (kt : 0 ≤ X → W p l e R s m args below meth c H locs cells slots Q (F0 m tgt ls rest)) (kf : X < 0 → W p l e R s m args below meth c H locs cells slots Q (F0 m (pc + 3) ls rest)) : W p l e R s m args below meth c H locs cells slots Q (F0 m pc ls (.int x :: rest)) :=
  lv_if_ge E.1 E.2.1 hdg ht (fun h => kt (by rw [i_le, hX, i_z] at h; exact h)) (fun h => kf (by rw [i_le, hX, i_z] at h; omega))
theorem x_lc_ge (E : CallFix p m c cc nL s args Ts own) {x y : Int64} {X Y : Int} (hX : x.toInt = X) (hY : y.toInt = Y) {off : Int} {tgt : Nat} (hd0 : decode cc pc = .ok (.lcmp, 1)) (hdg : decode cc (pc + 1) = .ok (.ifCond .ge off, 3)) (ht : ((pc + 1 : Nat) : Int) + off = (tgt : Int)) (kt : Y ≤ X → W p l e R s m args below meth c H locs cells slots Q (F0 m tgt ls rest)) (kf : X < Y → W p l e R s m args below meth c H locs cells slots Q (F0 m (pc + 4) ls rest)) : W p l e R s m args below meth c H locs cells slots Q (F0 m pc ls (.long y :: .long x :: rest)) :=
  W.lcmp E.1 E.2.1 hd0 (lv_if_ge E.1 E.2.1 hdg ht (fun h => kt (by rw [lg_cmp_ge, j_le, hX, hY] at h; exact h)) (fun h => kf (by rw [lg_cmp_ge, j_le, hX, hY] at h; omega)))
theorem x_icmp_gt (E : CallFix p m c cc nL s args Ts own) {x y : Int32} {X Y : Int} (hX : x.toInt = X) (hY : y.toInt = Y) {off : Int} {tgt : Nat} (hdg : decode cc pc = .ok (.if_icmp .gt off, 3)) (ht : (pc : Int) + off = (tgt : Int)) (kt : Y < X → W p l e R s m args below meth c H locs cells slots Q (F0 m tgt ls rest)) (kf : X ≤ Y → W p l e R s m args below meth c H locs cells slots Q (F0 m (pc + 3) ls rest)) : W p l e R s m args below meth c H locs cells slots Q (F0 m pc ls (.int y :: .int x :: rest)) :=
  lv_icmp_gt E.1 E.2.1 hdg ht (fun h => kt (by rw [i_lt, hX, hY] at h; exact h)) (fun h => kf (by rw [i_lt, hX, hY] at h; omega))
theorem x_if_gt (E : CallFix p m c cc nL s args Ts own) {x : Int32} {X : Int} (hX : x.toInt = X) {off : Int} {tgt : Nat} (hdg : decode cc pc = .ok (.ifCond .gt off, 3)) (ht : (pc : Int) + off = (tgt : Int)) (kt : 0 < X → W p l e R s m args below meth c H locs cells slots Q (F0 m tgt ls rest)) (kf : X ≤ 0 → W p l e R s m args below meth c H locs cells slots Q (F0 m (pc + 3) ls rest)) : W p l e R s m args below meth c H locs cells slots Q (F0 m pc ls (.int x :: rest)) :=
  lv_if_gt E.1 E.2.1 hdg ht (fun h => kt (by rw [i_lt, hX, i_z] at h; exact h)) (fun h => kf (by rw [i_lt, hX, i_z] at h; omega))
theorem x_lc_gt (E : CallFix p m c cc nL s args Ts own) {x y : Int64} {X Y : Int} (hX : x.toInt = X) (hY : y.toInt = Y) {off : Int} {tgt : Nat} (hd0 : decode cc pc = .ok (.lcmp, 1)) (hdg : decode cc (pc + 1) = .ok (.ifCond .gt off, 3)) (ht : ((pc + 1 : Nat) : Int) + off = (tgt : Int)) (kt : Y < X → W p l e R s m args below meth c H locs cells slots Q (F0 m tgt ls rest)) (kf : X ≤ Y → W p l e R s m args below meth c H locs cells slots Q (F0 m (pc + 4) ls rest)) : W p l e R s m args below meth c H locs cells slots Q (F0 m pc ls (.long y :: .long x :: rest)) :=
  W.lcmp E.1 E.2.1 hd0 (lv_if_gt E.1 E.2.1 hdg ht (fun h => kt (by rw [lg_cmp_gt, j_lt, hX, hY] at h; exact h)) (fun h => kf (by rw [lg_cmp_gt, j_lt, hX, hY] at h; omega)))
theorem x_icmp_le (E : CallFix p m c cc nL s args Ts own) {x y : Int32} {X Y : Int} (hX : x.toInt = X) (hY : y.toInt = Y) {off : Int} {tgt : Nat} (hdg : decode cc pc = .ok (.if_icmp .le off, 3)) (ht : (pc : Int) + off = (tgt : Int)) (kt : X ≤ Y → W p l e R s m args below meth c H locs cells slots Q (F0 m tgt ls rest)) (kf : Y < X → W p l e R s m args below meth c H locs cells slots Q (F0 m (pc + 3) ls rest)) : W p l e R s m args below meth c H locs cells slots Q (F0 m pc ls (.int y :: .int x :: rest)) :=
  lv_icmp_le E.1 E.2.1 hdg ht (fun h => kt (by rw [i_le, hX, hY] at h; exact h)) (fun h => kf (by rw [i_le, hX, hY] at h; omega))
theorem x_if_le (E : CallFix p m c cc nL s args Ts own) {x : Int32} {X : Int} (hX : x.toInt = X) {off : Int} {tgt : Nat} (hdg : decode cc pc = .ok (.ifCond .le off, 3)) (ht : (pc : Int) + off = (tgt : Int)) (kt : X ≤ 0 → W p l e R s m args below meth c H locs cells slots Q (F0 m tgt ls rest)) (kf : 0 < X → W p l e R s m args below meth c H locs cells slots Q (F0 m (pc + 3) ls rest)) : W p l e R s m args below meth c H locs cells slots Q (F0 m pc ls (.int x :: rest)) :=
  lv_if_le E.1 E.2.1 hdg ht (fun h => kt (by rw [i_le, hX, i_z] at h; exact h)) (fun h => kf (by rw [i_le, hX, i_z] at h; omega))
theorem x_lc_le (E : CallFix p m c cc nL s args Ts own) {x y : Int64} {X Y : Int} (hX : x.toInt = X) (hY : y.toInt = Y) {off : Int} {tgt : Nat} (hd0 : decode cc pc = .ok (.lcmp, 1)) (hdg : decode cc (pc + 1) = .ok (.ifCond .le off, 3)) (ht : ((pc + 1 : Nat) : Int) + off = (tgt : Int)) (kt : X ≤ Y → W p l e R s m args below meth c H locs cells slots Q (F0 m tgt ls rest)) (kf : Y < X → W p l e R s m args below meth c H locs cells slots Q (F0 m (pc + 4) ls rest)) : W p l e R s m args below meth c H locs cells slots Q (F0 m pc ls (.long y :: .long x :: rest)) :=
  W.lcmp E.1 E.2.1 hd0 (lv_if_le E.1 E.2.1 hdg ht (fun h => kt (by rw [lg_cmp_le, j_le, hX, hY] at h; exact h)) (fun h => kf (by rw [lg_cmp_le, j_le, hX, hY] at h; omega)))
-- branches on a boolean that is told
theorem x_ifb_eq (E : CallFix p m c cc nL s args Ts own) {P : Prop} [Decidable P] {off : Int} {tgt : Nat} (hdg : decode cc pc = .ok (.ifCond .eq off, 3)) (ht : (pc : Int) + off = (tgt : Int)) (kt : ¬ P → W p l e R s m args below meth c H locs cells slots Q (F0 m tgt ls rest)) (kf : P → W p l e R s m args below meth c H locs cells slots Q (F0 m (pc + 3) ls rest)) : W p l e R s m args below meth c H locs cells slots Q (F0 m pc ls (.int (if P then 1 else 0) :: rest)) :=
  lv_if_eq E.1 E.2.1 hdg ht (fun h => kt (fun hp => by rw [if_pos hp] at h; exact absurd h (by decide))) (fun h => kf (Decidable.byContradiction (fun hp => h (if_neg hp))))
theorem x_ifb_ne (E : CallFix p m c cc nL s args Ts own) {P : Prop} [Decidable P] {off : Int} {tgt : Nat} (hdg : decode cc pc = .ok (.ifCond .ne off, 3)) (ht : (pc : Int) + off = (tgt : Int)) (kt : P → W p l e R s m args below meth c H locs cells slots Q (F0 m tgt ls rest)) (kf : ¬ P → W p l e R s m args below meth c H locs cells slots Q (F0 m (pc + 3) ls rest)) : W p l e R s m args below meth c H locs cells slots Q (F0 m pc ls (.int (if P then 1 else 0) :: rest)) :=
  lv_if_ne E.1 E.2.1 hdg ht (fun h => kt (Decidable.byContradiction (fun hp => h (if_neg hp)))) (fun h => kf (fun hp => by rw [if_pos hp] at h; exact absurd h (by decide)))
theorem x_tsw (E : CallFix p m c cc nL s args Ts own) {dflt lo hi : Int} {offs : Array Int} {len : Nat} {x : Int32} {X off : Int} {tgt : Nat} (hX : x.toInt = X) (hdg : decode cc pc = .ok (.tableswitch dflt lo hi offs, len)) (h1 : lo ≤ X) (h2 : X ≤ hi) (ho : offs[(X - lo).toNat]? = some off) (ht : (pc : Int) + off = (tgt : Int)) (k : W p l e R s m args below meth c H locs cells slots Q (F0 m tgt ls rest)) : W p l e R s m args below meth c H locs cells slots Q (F0 m pc ls (.int x :: rest)) :=
  lv_tableIn E.1 E.2.1 hdg (by rw [hX]; omega) (by rw [hX]; omega) (by rw [hX]; exact ho) ht k
theorem x_tswD (E : CallFix p m c cc nL s args Ts own) {dflt lo hi : Int} {offs : Array Int} {len : Nat} {x : Int32} {X : Int} {tgt : Nat} (hX : x.toInt = X) (hdg : decode cc pc = .ok (.tableswitch dflt lo hi offs, len)) (h : X < lo ∨ hi < X) (ht : (pc : Int) + dflt = (tgt : Int)) (k : W p l e R s m args below meth c H locs cells slots Q (F0 m tgt ls rest)) : W p l e R s m args below meth c H locs cells slots Q (F0 m pc ls (.int x :: rest)) :=
  lv_tableOut E.1 E.2.1 hdg (by rw [hX]; exact h) ht k
theorem x_narZ {P : Prop} [Decidable P] : narrow .boolean (.int (if P then 1 else 0)) = .int (if P then 1 else 0) := by
  by_cases h : P
  · rw [if_pos h]; rfl
  · rw [if_neg h]; rfl

theorem x_calliV (E : CallFix p m c cc nL s args Ts own) (hw : Wd G s A ws H locs) (hsz : ls.size = nL) {y : MethodName} {bytes : ByteArray} {maxL : Nat} {ret : Option FieldType} {wsy wsy' : List Cond} {rm : Room} {b : Addr} {As : List Value} {w0 : va_W} {S : Type} {post : Int32 → S → Prop} {w1 : S → va_W} (hM : CtI l y wsy rm G (.ref b :: As) w0 post w1) {C : String} {index : Nat} (n : Nat) (hG : GoodIn Ts (wsV own index C y wsy)) (hwy : wsy = Cond.code y bytes maxL ret :: wsy') (hrc : rm.cells = 0) (hrs : rm.slots = 0)
    (hd : y.cls = C ∧ y.cls ≠ "java/lang/invoke/MethodHandle" ∧ y.cls ≠ "java/lang/invoke/VarHandle" ∧ (parseMethodDescriptor y.desc).map (fun d => d.parameters.length) = some n) (hR : rm.frames + 1 ≤ R.frames ∧ 8 + (maxL + 11) + rm.locals ≤ R.locals) (hf : cells ≤ R.cells ∧ slots ≤ R.slots) (hn : As.length = n)
    (qr : Nat) {ci N : Nat} {fs : List Value} {T : u_T} (hci : vwCl[ci]? = some (C, T, N)) (hrecv : ws[qr]? = some (b, .inr (ci, fs))) (isC isR : List Nat) (hcn : va_nd isC = true) (hC : isC.map (fun i => ws[i]?) = w0.map some) (hRr : isR.map (fun i => ws[i]?) = (isR.filterMap (fun i => ws[i]?)).map some) (hnd : va_nd isR = true) (hdis : isR.all (fun i => !isC.contains i) = true)
    (isJ : List Nat) (w2 : S → va_W) (hJn : va_nd isJ = true) (hJ : ∀ u, isJ.map (fun i => (isR.filterMap (fun i => ws[i]?) ++ w1 u)[i]?) = (w2 u).map some) {st : List Value} (hstk : st = As.reverse ++ .ref b :: rest) (hst : (rest.map fun v => v.category).sum ≤ 8) (hdg : decode cc pc = .ok (.invokevirtual index, 3))
    (kk : ∀ (r : Int32) (u : S) (H1 : Heap) (locs1 : List Loc), post r u → Wd G s A (w2 u) H1 locs1 → W p l e R s m args below meth c H1 locs1 cells slots Q (F0 m (pc + 3) ls (.int r :: rest))) : W p l e R s m args below meth c H locs cells slots Q (F0 m pc ls st) := by
  subst hstk
  obtain ⟨hK, hP, hD, hS, hA, hN, hSK⟩ := id hw
  have hd1 : ∀ i ∈ isR, i ∉ isC := fun i hi h => by
    have h1 := List.all_eq_true.mp hdis i hi
    simp only [Bool.not_eq_true', List.contains_eq_mem, decide_eq_false_iff_not] at h1
    exact h1 h
  have hFc := va_free (wc := w0) hD hS hA isC hC
  have hDc : va_D A w0 := hD.sub isC hcn hC
  have hpre : ∀ U : State, U.heap = H → s.WarmedH U.vm → PreW G (.ref b :: As) w0 H.size (Value.ref b :: As).toArray U := fun U hU hW => by
    refine ⟨rfl, by rw [hU], va_K.moved hW.alike hK, ?_, ?_, hN.warm hW, ?_⟩
    · rw [hU]
      intro k q hq
      have h1 : (isC.map (fun i => ws[i]?))[k]? = some (some q) := by rw [hC, List.getElem?_map, hq]; rfl
      rw [List.getElem?_map] at h1
      cases hi : isC[k]? with
      | none => rw [hi] at h1; cases h1
      | some i => rw [hi] at h1; exact hP i q (Option.some.inj h1)
    · refine ⟨fun i j p q hp hq hpq => ?_, fun _ _ _ => trivial⟩
      exact hDc.1 i j p q hp hq hpq
    · rw [hU]
      exact hSK.go hW hS.2.1 hFc
  refine va_calli (B := BW G w0 H.size w1) (va_runV (As := As) (rest := rest) E (hM H.size) (cwV n E.2.2.2.2 hG hwy hrc hrs hd hR) ⟨PreW.blind, va_recv hK hP (ci := ci) (q0 := qr) hci hrecv, hpre⟩ rfl hn hsz rfl (lv_room hst) hdg hf) hS (fun q _ h => hFc q h) hFc (fun r u t H1 locs ht hvm hw2 hB hz1 hk1 hS1 => ?_)
  obtain ⟨hP1, hD1⟩ := hB
  rw [ht] at hP1
  obtain ⟨hP3, hD3⟩ := va_join (wr := isR.filterMap (fun i => ws[i]?)) (w1 := w1 u) hP hD isC isR hC hRr hnd hd1 hk1 hFc hP1 hD1
  have hw3 : Wd G s A (isR.filterMap (fun i => ws[i]?) ++ w1 u) H1 locs := hw.set hP3 hD3 hS1
  exact kk r u H1 locs hw2 (hw3.sub isJ hJn (hJ u))
theorem x_calliS (E : CallFix p m c cc nL s args Ts own) (hw : Wd G s A ws H locs) (hsz : ls.size = nL) {y : MethodName} {bytes : ByteArray} {maxL : Nat} {ret : Option FieldType} {wsy wsy' : List Cond} {rm : Room} {As : List Value} {w0 : va_W} {S : Type} {post : Int32 → S → Prop} {w1 : S → va_W} (hM : CtI l y wsy rm G As w0 post w1) {index : Nat} (n : Nat) (hG : GoodIn Ts (va_wsS own index y wsy)) (hwy : wsy = Cond.code y bytes maxL ret :: wsy') (hrc : rm.cells = 0) (hrs : rm.slots = 0)
    (hd : y.cls ≠ "java/lang/invoke/MethodHandle" ∧ y.cls ≠ "java/lang/invoke/VarHandle" ∧ (parseMethodDescriptor y.desc).map (fun d => d.parameters.length) = some n) (hR : rm.frames + 1 ≤ R.frames ∧ 8 + (maxL + 11) + rm.locals ≤ R.locals) (hf : cells ≤ R.cells ∧ slots ≤ R.slots) (hn : As.length = n)
    (isC isR : List Nat) (hcn : va_nd isC = true) (hC : isC.map (fun i => ws[i]?) = w0.map some) (hRr : isR.map (fun i => ws[i]?) = (isR.filterMap (fun i => ws[i]?)).map some) (hnd : va_nd isR = true) (hdis : isR.all (fun i => !isC.contains i) = true)
    (isJ : List Nat) (w2 : S → va_W) (hJn : va_nd isJ = true) (hJ : ∀ u, isJ.map (fun i => (isR.filterMap (fun i => ws[i]?) ++ w1 u)[i]?) = (w2 u).map some) {st : List Value} (hstk : st = As.reverse ++ rest) (hst : (rest.map fun v => v.category).sum ≤ 8) (hdg : decode cc pc = .ok (.invokestatic index, 3))
    (kk : ∀ (r : Int32) (u : S) (H1 : Heap) (locs1 : List Loc), post r u → Wd G s A (w2 u) H1 locs1 → W p l e R s m args below meth c H1 locs1 cells slots Q (F0 m (pc + 3) ls (.int r :: rest))) : W p l e R s m args below meth c H locs cells slots Q (F0 m pc ls st) := by
  subst hstk
  obtain ⟨hK, hP, hD, hS, hA, hN, hSK⟩ := id hw
  have hd1 : ∀ i ∈ isR, i ∉ isC := fun i hi h => by
    have h1 := List.all_eq_true.mp hdis i hi
    simp only [Bool.not_eq_true', List.contains_eq_mem, decide_eq_false_iff_not] at h1
    exact h1 h
  have hFc := va_free (wc := w0) hD hS hA isC hC
  have hDc : va_D A w0 := hD.sub isC hcn hC
  have hpre : ∀ U : State, U.heap = H → s.WarmedH U.vm → PreW G As w0 H.size (As).toArray U := fun U hU hW => by
    refine ⟨rfl, by rw [hU], va_K.moved hW.alike hK, ?_, ?_, hN.warm hW, ?_⟩
    · rw [hU]
      intro k q hq
      have h1 : (isC.map (fun i => ws[i]?))[k]? = some (some q) := by rw [hC, List.getElem?_map, hq]; rfl
      rw [List.getElem?_map] at h1
      cases hi : isC[k]? with
      | none => rw [hi] at h1; cases h1
      | some i => rw [hi] at h1; exact hP i q (Option.some.inj h1)
    · refine ⟨fun i j p q hp hq hpq => ?_, fun _ _ _ => trivial⟩
      exact hDc.1 i j p q hp hq hpq
    · rw [hU]
      exact hSK.go hW hS.2.1 hFc
  refine va_calli (B := BW G w0 H.size w1) (va_runS (As := As) (rest := rest) E (hM H.size) (va_cwS n E.2.2.2.2 hG hwy hrc hrs hd hR) ⟨PreW.blind, hpre⟩ rfl hn hsz rfl (lv_room hst) hdg hf) hS (fun q _ h => hFc q h) hFc (fun r u t H1 locs ht hvm hw2 hB hz1 hk1 hS1 => ?_)
  obtain ⟨hP1, hD1⟩ := hB
  rw [ht] at hP1
  obtain ⟨hP3, hD3⟩ := va_join (wr := isR.filterMap (fun i => ws[i]?)) (w1 := w1 u) hP hD isC isR hC hRr hnd hd1 hk1 hFc hP1 hD1
  have hw3 : Wd G s A (isR.filterMap (fun i => ws[i]?) ++ w1 u) H1 locs := hw.set hP3 hD3 hS1
  exact kk r u H1 locs hw2 (hw3.sub isJ hJn (hJ u))
theorem x_calllV (E : CallFix p m c cc nL s args Ts own) (hw : Wd G s A ws H locs) (hsz : ls.size = nL) {y : MethodName} {bytes : ByteArray} {maxL : Nat} {ret : Option FieldType} {wsy wsy' : List Cond} {rm : Room} {b : Addr} {As : List Value} {w0 : va_W} {S : Type} {post : Int64 → S → Prop} {w1 : S → va_W} (hM : CtL l y wsy rm G (.ref b :: As) w0 post w1) {C : String} {index : Nat} (n : Nat) (hG : GoodIn Ts (wsV own index C y wsy)) (hwy : wsy = Cond.code y bytes maxL ret :: wsy') (hrc : rm.cells = 0) (hrs : rm.slots = 0)
    (hd : y.cls = C ∧ y.cls ≠ "java/lang/invoke/MethodHandle" ∧ y.cls ≠ "java/lang/invoke/VarHandle" ∧ (parseMethodDescriptor y.desc).map (fun d => d.parameters.length) = some n) (hR : rm.frames + 1 ≤ R.frames ∧ 8 + (maxL + 11) + rm.locals ≤ R.locals) (hf : cells ≤ R.cells ∧ slots ≤ R.slots) (hn : As.length = n)
    (qr : Nat) {ci N : Nat} {fs : List Value} {T : u_T} (hci : vwCl[ci]? = some (C, T, N)) (hrecv : ws[qr]? = some (b, .inr (ci, fs))) (isC isR : List Nat) (hcn : va_nd isC = true) (hC : isC.map (fun i => ws[i]?) = w0.map some) (hRr : isR.map (fun i => ws[i]?) = (isR.filterMap (fun i => ws[i]?)).map some) (hnd : va_nd isR = true) (hdis : isR.all (fun i => !isC.contains i) = true)
    (isJ : List Nat) (w2 : S → va_W) (hJn : va_nd isJ = true) (hJ : ∀ u, isJ.map (fun i => (isR.filterMap (fun i => ws[i]?) ++ w1 u)[i]?) = (w2 u).map some) {st : List Value} (hstk : st = As.reverse ++ .ref b :: rest) (hst : (rest.map fun v => v.category).sum ≤ 8) (hdg : decode cc pc = .ok (.invokevirtual index, 3))
    (kk : ∀ (r : Int64) (u : S) (H1 : Heap) (locs1 : List Loc), post r u → Wd G s A (w2 u) H1 locs1 → W p l e R s m args below meth c H1 locs1 cells slots Q (F0 m (pc + 3) ls (.long r :: rest))) : W p l e R s m args below meth c H locs cells slots Q (F0 m pc ls st) := by
  subst hstk
  obtain ⟨hK, hP, hD, hS, hA, hN, hSK⟩ := id hw
  have hd1 : ∀ i ∈ isR, i ∉ isC := fun i hi h => by
    have h1 := List.all_eq_true.mp hdis i hi
    simp only [Bool.not_eq_true', List.contains_eq_mem, decide_eq_false_iff_not] at h1
    exact h1 h
  have hFc := va_free (wc := w0) hD hS hA isC hC
  have hDc : va_D A w0 := hD.sub isC hcn hC
  have hpre : ∀ U : State, U.heap = H → s.WarmedH U.vm → PreW G (.ref b :: As) w0 H.size (Value.ref b :: As).toArray U := fun U hU hW => by
    refine ⟨rfl, by rw [hU], va_K.moved hW.alike hK, ?_, ?_, hN.warm hW, ?_⟩
    · rw [hU]
      intro k q hq
      have h1 : (isC.map (fun i => ws[i]?))[k]? = some (some q) := by rw [hC, List.getElem?_map, hq]; rfl
      rw [List.getElem?_map] at h1
      cases hi : isC[k]? with
      | none => rw [hi] at h1; cases h1
      | some i => rw [hi] at h1; exact hP i q (Option.some.inj h1)
    · refine ⟨fun i j p q hp hq hpq => ?_, fun _ _ _ => trivial⟩
      exact hDc.1 i j p q hp hq hpq
    · rw [hU]
      exact hSK.go hW hS.2.1 hFc
  refine va_calll (B := BW G w0 H.size w1) (va_runV (As := As) (rest := rest) E (hM H.size) (cwV n E.2.2.2.2 hG hwy hrc hrs hd hR) ⟨PreW.blind, va_recv hK hP (ci := ci) (q0 := qr) hci hrecv, hpre⟩ rfl hn hsz rfl (lv_room hst) hdg hf) hS (fun q _ h => hFc q h) hFc (fun r u t H1 locs ht hvm hw2 hB hz1 hk1 hS1 => ?_)
  obtain ⟨hP1, hD1⟩ := hB
  rw [ht] at hP1
  obtain ⟨hP3, hD3⟩ := va_join (wr := isR.filterMap (fun i => ws[i]?)) (w1 := w1 u) hP hD isC isR hC hRr hnd hd1 hk1 hFc hP1 hD1
  have hw3 : Wd G s A (isR.filterMap (fun i => ws[i]?) ++ w1 u) H1 locs := hw.set hP3 hD3 hS1
  exact kk r u H1 locs hw2 (hw3.sub isJ hJn (hJ u))
theorem x_calllS (E : CallFix p m c cc nL s args Ts own) (hw : Wd G s A ws H locs) (hsz : ls.size = nL) {y : MethodName} {bytes : ByteArray} {maxL : Nat} {ret : Option FieldType} {wsy wsy' : List Cond} {rm : Room} {As : List Value} {w0 : va_W} {S : Type} {post : Int64 → S → Prop} {w1 : S → va_W} (hM : CtL l y wsy rm G As w0 post w1) {index : Nat} (n : Nat) (hG : GoodIn Ts (va_wsS own index y wsy)) (hwy : wsy = Cond.code y bytes maxL ret :: wsy') (hrc : rm.cells = 0) (hrs : rm.slots = 0)
    (hd : y.cls ≠ "java/lang/invoke/MethodHandle" ∧ y.cls ≠ "java/lang/invoke/VarHandle" ∧ (parseMethodDescriptor y.desc).map (fun d => d.parameters.length) = some n) (hR : rm.frames + 1 ≤ R.frames ∧ 8 + (maxL + 11) + rm.locals ≤ R.locals) (hf : cells ≤ R.cells ∧ slots ≤ R.slots) (hn : As.length = n)
    (isC isR : List Nat) (hcn : va_nd isC = true) (hC : isC.map (fun i => ws[i]?) = w0.map some) (hRr : isR.map (fun i => ws[i]?) = (isR.filterMap (fun i => ws[i]?)).map some) (hnd : va_nd isR = true) (hdis : isR.all (fun i => !isC.contains i) = true)
    (isJ : List Nat) (w2 : S → va_W) (hJn : va_nd isJ = true) (hJ : ∀ u, isJ.map (fun i => (isR.filterMap (fun i => ws[i]?) ++ w1 u)[i]?) = (w2 u).map some) {st : List Value} (hstk : st = As.reverse ++ rest) (hst : (rest.map fun v => v.category).sum ≤ 8) (hdg : decode cc pc = .ok (.invokestatic index, 3))
    (kk : ∀ (r : Int64) (u : S) (H1 : Heap) (locs1 : List Loc), post r u → Wd G s A (w2 u) H1 locs1 → W p l e R s m args below meth c H1 locs1 cells slots Q (F0 m (pc + 3) ls (.long r :: rest))) : W p l e R s m args below meth c H locs cells slots Q (F0 m pc ls st) := by
  subst hstk
  obtain ⟨hK, hP, hD, hS, hA, hN, hSK⟩ := id hw
  have hd1 : ∀ i ∈ isR, i ∉ isC := fun i hi h => by
    have h1 := List.all_eq_true.mp hdis i hi
    simp only [Bool.not_eq_true', List.contains_eq_mem, decide_eq_false_iff_not] at h1
    exact h1 h
  have hFc := va_free (wc := w0) hD hS hA isC hC
  have hDc : va_D A w0 := hD.sub isC hcn hC
  have hpre : ∀ U : State, U.heap = H → s.WarmedH U.vm → PreW G As w0 H.size (As).toArray U := fun U hU hW => by
    refine ⟨rfl, by rw [hU], va_K.moved hW.alike hK, ?_, ?_, hN.warm hW, ?_⟩
    · rw [hU]
      intro k q hq
      have h1 : (isC.map (fun i => ws[i]?))[k]? = some (some q) := by rw [hC, List.getElem?_map, hq]; rfl
      rw [List.getElem?_map] at h1
      cases hi : isC[k]? with
      | none => rw [hi] at h1; cases h1
      | some i => rw [hi] at h1; exact hP i q (Option.some.inj h1)
    · refine ⟨fun i j p q hp hq hpq => ?_, fun _ _ _ => trivial⟩
      exact hDc.1 i j p q hp hq hpq
    · rw [hU]
      exact hSK.go hW hS.2.1 hFc
  refine va_calll (B := BW G w0 H.size w1) (va_runS (As := As) (rest := rest) E (hM H.size) (va_cwS n E.2.2.2.2 hG hwy hrc hrs hd hR) ⟨PreW.blind, hpre⟩ rfl hn hsz rfl (lv_room hst) hdg hf) hS (fun q _ h => hFc q h) hFc (fun r u t H1 locs ht hvm hw2 hB hz1 hk1 hS1 => ?_)
  obtain ⟨hP1, hD1⟩ := hB
  rw [ht] at hP1
  obtain ⟨hP3, hD3⟩ := va_join (wr := isR.filterMap (fun i => ws[i]?)) (w1 := w1 u) hP hD isC isR hC hRr hnd hd1 hk1 hFc hP1 hD1
  have hw3 : Wd G s A (isR.filterMap (fun i => ws[i]?) ++ w1 u) H1 locs := hw.set hP3 hD3 hS1
  exact kk r u H1 locs hw2 (hw3.sub isJ hJn (hJ u))
theorem x_callvV (E : CallFix p m c cc nL s args Ts own) (hw : Wd G s A ws H locs) (hsz : ls.size = nL) {y : MethodName} {bytes : ByteArray} {maxL : Nat} {ret : Option FieldType} {wsy wsy' : List Cond} {rm : Room} {b : Addr} {As : List Value} {w0 : va_W} {S : Type} {post : S → Prop} {w1 : S → va_W} (hM : CtV l y wsy rm G (.ref b :: As) w0 post w1) {C : String} {index : Nat} (n : Nat) (hG : GoodIn Ts (wsV own index C y wsy)) (hwy : wsy = Cond.code y bytes maxL ret :: wsy') (hrc : rm.cells = 0) (hrs : rm.slots = 0)
    (hd : y.cls = C ∧ y.cls ≠ "java/lang/invoke/MethodHandle" ∧ y.cls ≠ "java/lang/invoke/VarHandle" ∧ (parseMethodDescriptor y.desc).map (fun d => d.parameters.length) = some n) (hR : rm.frames + 1 ≤ R.frames ∧ 8 + (maxL + 11) + rm.locals ≤ R.locals) (hf : cells ≤ R.cells ∧ slots ≤ R.slots) (hn : As.length = n)
    (qr : Nat) {ci N : Nat} {fs : List Value} {T : u_T} (hci : vwCl[ci]? = some (C, T, N)) (hrecv : ws[qr]? = some (b, .inr (ci, fs))) (isC isR : List Nat) (hcn : va_nd isC = true) (hC : isC.map (fun i => ws[i]?) = w0.map some) (hRr : isR.map (fun i => ws[i]?) = (isR.filterMap (fun i => ws[i]?)).map some) (hnd : va_nd isR = true) (hdis : isR.all (fun i => !isC.contains i) = true)
    (isJ : List Nat) (w2 : S → va_W) (hJn : va_nd isJ = true) (hJ : ∀ u, isJ.map (fun i => (isR.filterMap (fun i => ws[i]?) ++ w1 u)[i]?) = (w2 u).map some) {st : List Value} (hstk : st = As.reverse ++ .ref b :: rest) (hst : (rest.map fun v => v.category).sum ≤ 8) (hdg : decode cc pc = .ok (.invokevirtual index, 3))
    (kk : ∀ (u : S) (H1 : Heap) (locs1 : List Loc), post u → Wd G s A (w2 u) H1 locs1 → W p l e R s m args below meth c H1 locs1 cells slots Q (F0 m (pc + 3) ls rest)) : W p l e R s m args below meth c H locs cells slots Q (F0 m pc ls st) := by
  subst hstk
  obtain ⟨hK, hP, hD, hS, hA, hN, hSK⟩ := id hw
  have hd1 : ∀ i ∈ isR, i ∉ isC := fun i hi h => by
    have h1 := List.all_eq_true.mp hdis i hi
    simp only [Bool.not_eq_true', List.contains_eq_mem, decide_eq_false_iff_not] at h1
    exact h1 h
  have hFc := va_free (wc := w0) hD hS hA isC hC
  have hDc : va_D A w0 := hD.sub isC hcn hC
  have hpre : ∀ U : State, U.heap = H → s.WarmedH U.vm → PreW G (.ref b :: As) w0 H.size (Value.ref b :: As).toArray U := fun U hU hW => by
    refine ⟨rfl, by rw [hU], va_K.moved hW.alike hK, ?_, ?_, hN.warm hW, ?_⟩
    · rw [hU]
      intro k q hq
      have h1 : (isC.map (fun i => ws[i]?))[k]? = some (some q) := by rw [hC, List.getElem?_map, hq]; rfl
      rw [List.getElem?_map] at h1
      cases hi : isC[k]? with
      | none => rw [hi] at h1; cases h1
      | some i => rw [hi] at h1; exact hP i q (Option.some.inj h1)
    · refine ⟨fun i j p q hp hq hpq => ?_, fun _ _ _ => trivial⟩
      exact hDc.1 i j p q hp hq hpq
    · rw [hU]
      exact hSK.go hW hS.2.1 hFc
  refine va_callv (B := BW G w0 H.size w1) (va_runV (As := As) (rest := rest) E (hM H.size) (cwV n E.2.2.2.2 hG hwy hrc hrs hd hR) ⟨PreW.blind, va_recv hK hP (ci := ci) (q0 := qr) hci hrecv, hpre⟩ rfl hn hsz rfl (lv_room hst) hdg hf) hS (fun q _ h => hFc q h) hFc (fun u t H1 locs ht hvm hw2 hB hz1 hk1 hS1 => ?_)
  obtain ⟨hP1, hD1⟩ := hB
  rw [ht] at hP1
  obtain ⟨hP3, hD3⟩ := va_join (wr := isR.filterMap (fun i => ws[i]?)) (w1 := w1 u) hP hD isC isR hC hRr hnd hd1 hk1 hFc hP1 hD1
  have hw3 : Wd G s A (isR.filterMap (fun i => ws[i]?) ++ w1 u) H1 locs := hw.set hP3 hD3 hS1
  exact kk u H1 locs hw2 (hw3.sub isJ hJn (hJ u))
theorem x_callvS (E : CallFix p m c cc nL s args Ts own) (hw : Wd G s A ws H locs) (hsz : ls.size = nL) {y : MethodName} {bytes : ByteArray} {maxL : Nat} {ret : Option FieldType} {wsy wsy' : List Cond} {rm : Room} {As : List Value} {w0 : va_W} {S : Type} {post : S → Prop} {w1 : S → va_W} (hM : CtV l y wsy rm G As w0 post w1) {index : Nat} (n : Nat) (hG : GoodIn Ts (va_wsS own index y wsy)) (hwy : wsy = Cond.code y bytes maxL ret :: wsy') (hrc : rm.cells = 0) (hrs : rm.slots = 0)
    (hd : y.cls ≠ "java/lang/invoke/MethodHandle" ∧ y.cls ≠ "java/lang/invoke/VarHandle" ∧ (parseMethodDescriptor y.desc).map (fun d => d.parameters.length) = some n) (hR : rm.frames + 1 ≤ R.frames ∧ 8 + (maxL + 11) + rm.locals ≤ R.locals) (hf : cells ≤ R.cells ∧ slots ≤ R.slots) (hn : As.length = n)
    (isC isR : List Nat) (hcn : va_nd isC = true) (hC : isC.map (fun i => ws[i]?) = w0.map some) (hRr : isR.map (fun i => ws[i]?) = (isR.filterMap (fun i => ws[i]?)).map some) (hnd : va_nd isR = true) (hdis : isR.all (fun i => !isC.contains i) = true)
    (isJ : List Nat) (w2 : S → va_W) (hJn : va_nd isJ = true) (hJ : ∀ u, isJ.map (fun i => (isR.filterMap (fun i => ws[i]?) ++ w1 u)[i]?) = (w2 u).map some) {st : List Value} (hstk : st = As.reverse ++ rest) (hst : (rest.map fun v => v.category).sum ≤ 8) (hdg : decode cc pc = .ok (.invokestatic index, 3))
    (kk : ∀ (u : S) (H1 : Heap) (locs1 : List Loc), post u → Wd G s A (w2 u) H1 locs1 → W p l e R s m args below meth c H1 locs1 cells slots Q (F0 m (pc + 3) ls rest)) : W p l e R s m args below meth c H locs cells slots Q (F0 m pc ls st) := by
  subst hstk
  obtain ⟨hK, hP, hD, hS, hA, hN, hSK⟩ := id hw
  have hd1 : ∀ i ∈ isR, i ∉ isC := fun i hi h => by
    have h1 := List.all_eq_true.mp hdis i hi
    simp only [Bool.not_eq_true', List.contains_eq_mem, decide_eq_false_iff_not] at h1
    exact h1 h
  have hFc := va_free (wc := w0) hD hS hA isC hC
  have hDc : va_D A w0 := hD.sub isC hcn hC
  have hpre : ∀ U : State, U.heap = H → s.WarmedH U.vm → PreW G As w0 H.size (As).toArray U := fun U hU hW => by
    refine ⟨rfl, by rw [hU], va_K.moved hW.alike hK, ?_, ?_, hN.warm hW, ?_⟩
    · rw [hU]
      intro k q hq
      have h1 : (isC.map (fun i => ws[i]?))[k]? = some (some q) := by rw [hC, List.getElem?_map, hq]; rfl
      rw [List.getElem?_map] at h1
      cases hi : isC[k]? with
      | none => rw [hi] at h1; cases h1
      | some i => rw [hi] at h1; exact hP i q (Option.some.inj h1)
    · refine ⟨fun i j p q hp hq hpq => ?_, fun _ _ _ => trivial⟩
      exact hDc.1 i j p q hp hq hpq
    · rw [hU]
      exact hSK.go hW hS.2.1 hFc
  refine va_callv (B := BW G w0 H.size w1) (va_runS (As := As) (rest := rest) E (hM H.size) (va_cwS n E.2.2.2.2 hG hwy hrc hrs hd hR) ⟨PreW.blind, hpre⟩ rfl hn hsz rfl (lv_room hst) hdg hf) hS (fun q _ h => hFc q h) hFc (fun u t H1 locs ht hvm hw2 hB hz1 hk1 hS1 => ?_)
  obtain ⟨hP1, hD1⟩ := hB
  rw [ht] at hP1
  obtain ⟨hP3, hD3⟩ := va_join (wr := isR.filterMap (fun i => ws[i]?)) (w1 := w1 u) hP hD isC isR hC hRr hnd hd1 hk1 hFc hP1 hD1
  have hw3 : Wd G s A (isR.filterMap (fun i => ws[i]?) ++ w1 u) H1 locs := hw.set hP3 hD3 hS1
  exact kk u H1 locs hw2 (hw3.sub isJ hJn (hJ u))
/-- contracts whose answer and world are told by terms -/
abbrev CfI (l : Launch) (y : MethodName) (ws : List Cond) (rm : Room) (G : XG) (as : List Value) (w0 : va_W) (r0 : Int32) (w1 : va_W) : Prop := CtI l y ws rm G as w0 (S := Unit) (fun r _ => r = r0) (fun _ => w1)
abbrev CfL (l : Launch) (y : MethodName) (ws : List Cond) (rm : Room) (G : XG) (as : List Value) (w0 : va_W) (r0 : Int64) (w1 : va_W) : Prop := CtL l y ws rm G as w0 (S := Unit) (fun r _ => r = r0) (fun _ => w1)
abbrev CfV (l : Launch) (y : MethodName) (ws : List Cond) (rm : Room) (G : XG) (as : List Value) (w0 : va_W) (w1 : va_W) : Prop := CtV l y ws rm G as w0 (S := Unit) (fun _ => True) (fun _ => w1)
theorem x_cfVi (E : CallFix p m c cc nL s args Ts own) (hw : Wd G s A ws H locs) (hsz : ls.size = nL) {y : MethodName} {bytes : ByteArray} {maxL : Nat} {ret : Option FieldType} {wsy wsy' : List Cond} {rm : Room} {b : Addr} {As : List Value} {w0 : va_W} {r0 : Int32} {w1 : va_W} (hM : CfI l y wsy rm G (.ref b :: As) w0 r0 w1) {C : String} {index : Nat} (n : Nat) (hG : GoodIn Ts (wsV own index C y wsy)) (hwy : wsy = Cond.code y bytes maxL ret :: wsy') (hrc : rm.cells = 0) (hrs : rm.slots = 0)
    (hd : y.cls = C ∧ y.cls ≠ "java/lang/invoke/MethodHandle" ∧ y.cls ≠ "java/lang/invoke/VarHandle" ∧ (parseMethodDescriptor y.desc).map (fun d => d.parameters.length) = some n) (hR : rm.frames + 1 ≤ R.frames ∧ 8 + (maxL + 11) + rm.locals ≤ R.locals) (hf : cells ≤ R.cells ∧ slots ≤ R.slots) (hn : As.length = n)
    (qr : Nat) {ci N : Nat} {fs : List Value} {T : u_T} (hci : vwCl[ci]? = some (C, T, N)) (hrecv : ws[qr]? = some (b, .inr (ci, fs))) (isC isR : List Nat) (hcn : va_nd isC = true) (hC : isC.map (fun i => ws[i]?) = w0.map some) (hRr : isR.map (fun i => ws[i]?) = (isR.filterMap (fun i => ws[i]?)).map some) (hnd : va_nd isR = true) (hdis : isR.all (fun i => !isC.contains i) = true)
    (isJ : List Nat) (w2 : va_W) (hJn : va_nd isJ = true) (hJ : isJ.map (fun i => (isR.filterMap (fun i => ws[i]?) ++ w1)[i]?) = w2.map some) {st : List Value} (hstk : st = As.reverse ++ .ref b :: rest) (hst : (rest.map fun v => v.category).sum ≤ 8) (hdg : decode cc pc = .ok (.invokevirtual index, 3))
    (kk : ∀ (H1 : Heap) (locs1 : List Loc), Wd G s A w2 H1 locs1 → W p l e R s m args below meth c H1 locs1 cells slots Q (F0 m (pc + 3) ls (.int r0 :: rest))) : W p l e R s m args below meth c H locs cells slots Q (F0 m pc ls st) :=
  x_calliV E hw hsz hM n hG hwy hrc hrs hd hR hf hn qr hci hrecv isC isR hcn hC hRr hnd hdis isJ (fun _ => w2) hJn (fun _ => hJ) hstk hst hdg (fun r u H1 locs1 hp hw2 => hp ▸ kk H1 locs1 hw2)
theorem x_cfSi (E : CallFix p m c cc nL s args Ts own) (hw : Wd G s A ws H locs) (hsz : ls.size = nL) {y : MethodName} {bytes : ByteArray} {maxL : Nat} {ret : Option FieldType} {wsy wsy' : List Cond} {rm : Room} {As : List Value} {w0 : va_W} {r0 : Int32} {w1 : va_W} (hM : CfI l y wsy rm G As w0 r0 w1) {index : Nat} (n : Nat) (hG : GoodIn Ts (va_wsS own index y wsy)) (hwy : wsy = Cond.code y bytes maxL ret :: wsy') (hrc : rm.cells = 0) (hrs : rm.slots = 0)
    (hd : y.cls ≠ "java/lang/invoke/MethodHandle" ∧ y.cls ≠ "java/lang/invoke/VarHandle" ∧ (parseMethodDescriptor y.desc).map (fun d => d.parameters.length) = some n) (hR : rm.frames + 1 ≤ R.frames ∧ 8 + (maxL + 11) + rm.locals ≤ R.locals) (hf : cells ≤ R.cells ∧ slots ≤ R.slots) (hn : As.length = n)
    (isC isR : List Nat) (hcn : va_nd isC = true) (hC : isC.map (fun i => ws[i]?) = w0.map some) (hRr : isR.map (fun i => ws[i]?) = (isR.filterMap (fun i => ws[i]?)).map some) (hnd : va_nd isR = true) (hdis : isR.all (fun i => !isC.contains i) = true)
    (isJ : List Nat) (w2 : va_W) (hJn : va_nd isJ = true) (hJ : isJ.map (fun i => (isR.filterMap (fun i => ws[i]?) ++ w1)[i]?) = w2.map some) {st : List Value} (hstk : st = As.reverse ++ rest) (hst : (rest.map fun v => v.category).sum ≤ 8) (hdg : decode cc pc = .ok (.invokestatic index, 3))
    (kk : ∀ (H1 : Heap) (locs1 : List Loc), Wd G s A w2 H1 locs1 → W p l e R s m args below meth c H1 locs1 cells slots Q (F0 m (pc + 3) ls (.int r0 :: rest))) : W p l e R s m args below meth c H locs cells slots Q (F0 m pc ls st) :=
  x_calliS E hw hsz hM n hG hwy hrc hrs hd hR hf hn isC isR hcn hC hRr hnd hdis isJ (fun _ => w2) hJn (fun _ => hJ) hstk hst hdg (fun r u H1 locs1 hp hw2 => hp ▸ kk H1 locs1 hw2)
theorem x_cfVl (E : CallFix p m c cc nL s args Ts own) (hw : Wd G s A ws H locs) (hsz : ls.size = nL) {y : MethodName} {bytes : ByteArray} {maxL : Nat} {ret : Option FieldType} {wsy wsy' : List Cond} {rm : Room} {b : Addr} {As : List Value} {w0 : va_W} {r0 : Int64} {w1 : va_W} (hM : CfL l y wsy rm G (.ref b :: As) w0 r0 w1) {C : String} {index : Nat} (n : Nat) (hG : GoodIn Ts (wsV own index C y wsy)) (hwy : wsy = Cond.code y bytes maxL ret :: wsy') (hrc : rm.cells = 0) (hrs : rm.slots = 0)
    (hd : y.cls = C ∧ y.cls ≠ "java/lang/invoke/MethodHandle" ∧ y.cls ≠ "java/lang/invoke/VarHandle" ∧ (parseMethodDescriptor y.desc).map (fun d => d.parameters.length) = some n) (hR : rm.frames + 1 ≤ R.frames ∧ 8 + (maxL + 11) + rm.locals ≤ R.locals) (hf : cells ≤ R.cells ∧ slots ≤ R.slots) (hn : As.length = n)
    (qr : Nat) {ci N : Nat} {fs : List Value} {T : u_T} (hci : vwCl[ci]? = some (C, T, N)) (hrecv : ws[qr]? = some (b, .inr (ci, fs))) (isC isR : List Nat) (hcn : va_nd isC = true) (hC : isC.map (fun i => ws[i]?) = w0.map some) (hRr : isR.map (fun i => ws[i]?) = (isR.filterMap (fun i => ws[i]?)).map some) (hnd : va_nd isR = true) (hdis : isR.all (fun i => !isC.contains i) = true)
    (isJ : List Nat) (w2 : va_W) (hJn : va_nd isJ = true) (hJ : isJ.map (fun i => (isR.filterMap (fun i => ws[i]?) ++ w1)[i]?) = w2.map some) {st : List Value} (hstk : st = As.reverse ++ .ref b :: rest) (hst : (rest.map fun v => v.category).sum ≤ 8) (hdg : decode cc pc = .ok (.invokevirtual index, 3))
    (kk : ∀ (H1 : Heap) (locs1 : List Loc), Wd G s A w2 H1 locs1 → W p l e R s m args below meth c H1 locs1 cells slots Q (F0 m (pc + 3) ls (.long r0 :: rest))) : W p l e R s m args below meth c H locs cells slots Q (F0 m pc ls st) :=
  x_calllV E hw hsz hM n hG hwy hrc hrs hd hR hf hn qr hci hrecv isC isR hcn hC hRr hnd hdis isJ (fun _ => w2) hJn (fun _ => hJ) hstk hst hdg (fun r u H1 locs1 hp hw2 => hp ▸ kk H1 locs1 hw2)
theorem x_cfSl (E : CallFix p m c cc nL s args Ts own) (hw : Wd G s A ws H locs) (hsz : ls.size = nL) {y : MethodName} {bytes : ByteArray} {maxL : Nat} {ret : Option FieldType} {wsy wsy' : List Cond} {rm : Room} {As : List Value} {w0 : va_W} {r0 : Int64} {w1 : va_W} (hM : CfL l y wsy rm G As w0 r0 w1) {index : Nat} (n : Nat) (hG : GoodIn Ts (va_wsS own index y wsy)) (hwy : wsy = Cond.code y bytes maxL ret :: wsy') (hrc : rm.cells = 0) (hrs : rm.slots = 0)
    (hd : y.cls ≠ "java/lang/invoke/MethodHandle" ∧ y.cls ≠ "java/lang/invoke/VarHandle" ∧ (parseMethodDescriptor y.desc).map (fun d => d.parameters.length) = some n) (hR : rm.frames + 1 ≤ R.frames ∧ 8 + (maxL + 11) + rm.locals ≤ R.locals) (hf : cells ≤ R.cells ∧ slots ≤ R.slots) (hn : As.length = n)
    (isC isR : List Nat) (hcn : va_nd isC = true) (hC : isC.map (fun i => ws[i]?) = w0.map some) (hRr : isR.map (fun i => ws[i]?) = (isR.filterMap (fun i => ws[i]?)).map some) (hnd : va_nd isR = true) (hdis : isR.all (fun i => !isC.contains i) = true)
    (isJ : List Nat) (w2 : va_W) (hJn : va_nd isJ = true) (hJ : isJ.map (fun i => (isR.filterMap (fun i => ws[i]?) ++ w1)[i]?) = w2.map some) {st : List Value} (hstk : st = As.reverse ++ rest) (hst : (rest.map fun v => v.category).sum ≤ 8) (hdg : decode cc pc = .ok (.invokestatic index, 3))
    (kk : ∀ (H1 : Heap) (locs1 : List Loc), Wd G s A w2 H1 locs1 → W p l e R s m args below meth c H1 locs1 cells slots Q (F0 m (pc + 3) ls (.long r0 :: rest))) : W p l e R s m args below meth c H locs cells slots Q (F0 m pc ls st) :=
  x_calllS E hw hsz hM n hG hwy hrc hrs hd hR hf hn isC isR hcn hC hRr hnd hdis isJ (fun _ => w2) hJn (fun _ => hJ) hstk hst hdg (fun r u H1 locs1 hp hw2 => hp ▸ kk H1 locs1 hw2)
theorem x_cfVv (E : CallFix p m c cc nL s args Ts own) (hw : Wd G s A ws H locs) (hsz : ls.size = nL) {y : MethodName} {bytes : ByteArray} {maxL : Nat} {ret : Option FieldType} {wsy wsy' : List Cond} {rm : Room} {b : Addr} {As : List Value} {w0 : va_W} {w1 : va_W} (hM : CfV l y wsy rm G (.ref b :: As) w0 w1) {C : String} {index : Nat} (n : Nat) (hG : GoodIn Ts (wsV own index C y wsy)) (hwy : wsy = Cond.code y bytes maxL ret :: wsy') (hrc : rm.cells = 0) (hrs : rm.slots = 0)
    (hd : y.cls = C ∧ y.cls ≠ "java/lang/invoke/MethodHandle" ∧ y.cls ≠ "java/lang/invoke/VarHandle" ∧ (parseMethodDescriptor y.desc).map (fun d => d.parameters.length) = some n) (hR : rm.frames + 1 ≤ R.frames ∧ 8 + (maxL + 11) + rm.locals ≤ R.locals) (hf : cells ≤ R.cells ∧ slots ≤ R.slots) (hn : As.length = n)
    (qr : Nat) {ci N : Nat} {fs : List Value} {T : u_T} (hci : vwCl[ci]? = some (C, T, N)) (hrecv : ws[qr]? = some (b, .inr (ci, fs))) (isC isR : List Nat) (hcn : va_nd isC = true) (hC : isC.map (fun i => ws[i]?) = w0.map some) (hRr : isR.map (fun i => ws[i]?) = (isR.filterMap (fun i => ws[i]?)).map some) (hnd : va_nd isR = true) (hdis : isR.all (fun i => !isC.contains i) = true)
    (isJ : List Nat) (w2 : va_W) (hJn : va_nd isJ = true) (hJ : isJ.map (fun i => (isR.filterMap (fun i => ws[i]?) ++ w1)[i]?) = w2.map some) {st : List Value} (hstk : st = As.reverse ++ .ref b :: rest) (hst : (rest.map fun v => v.category).sum ≤ 8) (hdg : decode cc pc = .ok (.invokevirtual index, 3))
    (kk : ∀ (H1 : Heap) (locs1 : List Loc), Wd G s A w2 H1 locs1 → W p l e R s m args below meth c H1 locs1 cells slots Q (F0 m (pc + 3) ls rest)) : W p l e R s m args below meth c H locs cells slots Q (F0 m pc ls st) :=
  x_callvV E hw hsz hM n hG hwy hrc hrs hd hR hf hn qr hci hrecv isC isR hcn hC hRr hnd hdis isJ (fun _ => w2) hJn (fun _ => hJ) hstk hst hdg (fun u H1 locs1 hp hw2 => kk H1 locs1 hw2)
theorem x_cfSv (E : CallFix p m c cc nL s args Ts own) (hw : Wd G s A ws H locs) (hsz : ls.size = nL) {y : MethodName} {bytes : ByteArray} {maxL : Nat} {ret : Option FieldType} {wsy wsy' : List Cond} {rm : Room} {As : List Value} {w0 : va_W} {w1 : va_W} (hM : CfV l y wsy rm G As w0 w1) {index : Nat} (n : Nat) (hG : GoodIn Ts (va_wsS own index y wsy)) (hwy : wsy = Cond.code y bytes maxL ret :: wsy') (hrc : rm.cells = 0) (hrs : rm.slots = 0)
    (hd : y.cls ≠ "java/lang/invoke/MethodHandle" ∧ y.cls ≠ "java/lang/invoke/VarHandle" ∧ (parseMethodDescriptor y.desc).map (fun d => d.parameters.length) = some n) (hR : rm.frames + 1 ≤ R.frames ∧ 8 + (maxL + 11) + rm.locals ≤ R.locals) (hf : cells ≤ R.cells ∧ slots ≤ R.slots) (hn : As.length = n)
    (isC isR : List Nat) (hcn : va_nd isC = true) (hC : isC.map (fun i => ws[i]?) = w0.map some) (hRr : isR.map (fun i => ws[i]?) = (isR.filterMap (fun i => ws[i]?)).map some) (hnd : va_nd isR = true) (hdis : isR.all (fun i => !isC.contains i) = true)
    (isJ : List Nat) (w2 : va_W) (hJn : va_nd isJ = true) (hJ : isJ.map (fun i => (isR.filterMap (fun i => ws[i]?) ++ w1)[i]?) = w2.map some) {st : List Value} (hstk : st = As.reverse ++ rest) (hst : (rest.map fun v => v.category).sum ≤ 8) (hdg : decode cc pc = .ok (.invokestatic index, 3))
    (kk : ∀ (H1 : Heap) (locs1 : List Loc), Wd G s A w2 H1 locs1 → W p l e R s m args below meth c H1 locs1 cells slots Q (F0 m (pc + 3) ls rest)) : W p l e R s m args below meth c H locs cells slots Q (F0 m pc ls st) :=
  x_callvS E hw hsz hM n hG hwy hrc hrs hd hR hf hn isC isR hcn hC hRr hnd hdis isJ (fun _ => w2) hJn (fun _ => hJ) hstk hst hdg (fun u H1 locs1 hp hw2 => kk H1 locs1 hw2)
end XR
