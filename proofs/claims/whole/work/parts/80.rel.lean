/-! what both sides hold, seen from the law -/
theorem ty_lt {v : Int64} : ∀ (k : Nat) (g : Nat → Nat) (z : Nat), (∀ q, g q < 256) → ∀ q, tyR v k g z q < 256 := by
  intro k
  induction k with
  | zero => intro g z h; exact h
  | succ k ih =>
    intro g z h
    refine ih _ _ (fun q => ?_)
    by_cases e : q = z
    · rw [e, va_up_self]; exact by8_lt v k
    · rw [va_up_ne _ _ e]; exact h q
theorem up_le1 {g : Nat → Nat} {k j : Nat} (h : ∀ q, g q ≤ 1) (hj : j ≤ 1) : ∀ q, va_up g k j q ≤ 1 := fun q => by
  by_cases e : q = k
  · rw [e, va_up_self]; exact hj
  · rw [va_up_ne _ _ e]; exact h q
theorem up_lt63 {g : Nat → Nat} {k j : Nat} (h : ∀ q, g q < 63) (hj : j < 63) : ∀ q, va_up g k j q < 63 := fun q => by
  by_cases e : q = k
  · rw [e, va_up_self]; exact hj
  · rw [va_up_ne _ _ e]; exact h q
theorem ag0 (g h : Nat → Nat) : AgN g h 0 := fun q hq => absurd hq (Nat.not_lt_zero _)
theorem cp_P {P : Nat → Nat → Prop} {g h : Nat → Nat} {k : Nat} (hg : ∀ q, q < k → P q (g q)) (hh : ∀ q, P q (h q)) : ∀ q, P q (cpN g h k q) := fun q => by
  unfold cpN
  split
  · rename_i e; exact hg q e
  · exact hh q
theorem ag_cp {a b g h : Nat → Nat} {k k2 : Nat} (hab : AgN a b k) (hk : k ≤ k2) : AgN (cpN a g k) (cpN b h k2) k := fun q hq => by
  unfold cpN
  rw [if_pos hq, if_pos (by omega)]
  exact hab q hq
def ImR (gi : Nat → Nat) (b n nl ns : Nat) (gw go gh gl gs : Nat → Nat) : Prop :=
  (BdW gw ∧ BdW go ∧ BdH gh ∧ (∀ q, gl q ≤ 1) ∧ (∀ q, gs q < 63)) ∧
  ((n = 0 ∧ gi b = 0) ∨ ((3 ≤ n ∧ n ≤ 23 ∧ nl ≤ 12 ∧ ns ≤ 8) ∧ (gi b = 1 ∧ gi (b + 1) = n ∧ gi (b + 2) = nl ∧ gi (b + 3) = ns) ∧
    (AgN gw (fun j => gi (b + 24 + 3 * j)) n ∧ AgN go (fun j => gi (b + 25 + 3 * j)) n ∧ AgN gh (fun j => gi (b + 26 + 3 * j)) n ∧ AgN gl (fun j => gi (b + 4 + j)) nl ∧ AgN gs (fun j => gi (b + 16 + j)) ns) ∧
    (∀ j, j < 23 → gi (b + 24 + 3 * j) ≤ 66060288 ∧ gi (b + 25 + 3 * j) ≤ 66060288 ∧ gi (b + 26 + 3 * j) ≤ j * 1048576 ∧ gi (b + 26 + 3 * j) ≤ 24117248) ∧ (∀ j, j < 12 → gi (b + 4 + j) ≤ 1) ∧ (∀ j, j < 8 → gi (b + 16 + j) < 63)))
section IM
variable {gi gw go gh gl gs gw2 go2 gh2 gl2 gs2 iw io ih il is : Nat → Nat} {b b2 n nl ns m ml ms : Nat}
theorem imR_same (h : ImR gi b m ml ms iw io ih il is) {gj : Nat → Nat} (hb : ∀ q, b ≤ q → q < b + 93 → gj q = gi q) : ImR gj b m ml ms iw io ih il is := by
  refine ⟨h.1, ?_⟩
  rcases h.2 with ⟨h1, h2⟩ | ⟨h1, ⟨a1, a2, a3, a4⟩, ⟨b1, b2, b3, b4, b5⟩, c1, c2, c3⟩
  · exact Or.inl ⟨h1, by rw [hb b (by omega) (by omega)]; exact h2⟩
  · refine Or.inr ⟨h1, ⟨by rw [hb _ (by omega) (by omega)]; exact a1, by rw [hb _ (by omega) (by omega)]; exact a2, by rw [hb _ (by omega) (by omega)]; exact a3, by rw [hb _ (by omega) (by omega)]; exact a4⟩, ⟨fun q hq => ?_, fun q hq => ?_, fun q hq => ?_, fun q hq => ?_, fun q hq => ?_⟩, fun j hj => ?_, fun j hj => ?_, fun j hj => ?_⟩
    · show iw q = gj _; rw [hb _ (by omega) (by omega)]; exact b1 q hq
    · show io q = gj _; rw [hb _ (by omega) (by omega)]; exact b2 q hq
    · show ih q = gj _; rw [hb _ (by omega) (by omega)]; exact b3 q hq
    · show il q = gj _; rw [hb _ (by omega) (by omega)]; exact b4 q hq
    · show is q = gj _; rw [hb _ (by omega) (by omega)]; exact b5 q hq
    · rw [hb _ (by omega) (by omega), hb _ (by omega) (by omega), hb _ (by omega) (by omega)]; exact c1 j hj
    · rw [hb _ (by omega) (by omega)]; exact c2 j hj
    · rw [hb _ (by omega) (by omega)]; exact c3 j hj
theorem imR_out (h : ImR gi b m ml ms iw io ih il is) (hb : b + 93 ≤ b2 ∨ b2 + 93 ≤ b) : ImR (keepF gi b2 n nl ns gl gs gw go gh) b m ml ms iw io ih il is :=
  imR_same h (fun q h1 h2 => keep_out (by omega))
theorem imR_in (h : ImR gi b m ml ms iw io ih il is) (hn3 : 3 ≤ n) (hn : n ≤ 23) (hnl : nl ≤ 12) (hns : ns ≤ 8) (hW : BdW gw) (hO : BdW go) (hH : BdH gh) (hL : ∀ q, gl q ≤ 1) (hS : ∀ q, gs q < 63) (hW2 : BdW gw2) (hO2 : BdW go2) (hH2 : BdH gh2) (hL2 : ∀ q, gl2 q ≤ 1) (hS2 : ∀ q, gs2 q < 63)
    (aW : AgN gw gw2 n) (aO : AgN go go2 n) (aH : AgN gh gh2 n) (aL : AgN gl gl2 nl) (aS : AgN gs gs2 ns) : ImR (keepF gi b n nl ns gl2 gs2 gw2 go2 gh2) b n nl ns (cpN gw iw n) (cpN go io n) (cpN gh ih n) (cpN gl il nl) (cpN gs is ns) := by
  obtain ⟨⟨i1, i2, i3, i4, i5⟩, -⟩ := h
  obtain ⟨k0, k1, k2, k3⟩ := keep_hd (gi := gi) (b := b) (n := n) (nl := nl) (ns := ns) (gl := gl2) (gs := gs2) (gw := gw2) (go := go2) (gh := gh2)
  have hc : ∀ j, j < 23 → _ := fun j hj => keep_c (gi := gi) (b := b) (n := n) (nl := nl) (ns := ns) (gl := gl2) (gs := gs2) (gw := gw2) (go := go2) (gh := gh2) (j := j) hj
  refine ⟨⟨cp_P (P := fun _ v => v ≤ 66060288) (fun q _ => hW q) i1, cp_P (P := fun _ v => v ≤ 66060288) (fun q _ => hO q) i2, cp_P (P := fun q v => v ≤ q * 1048576 ∧ v ≤ 24117248) (fun q _ => hH q) i3, cp_P (P := fun _ v => v ≤ 1) (fun q _ => hL q) i4, cp_P (P := fun _ v => v < 63) (fun q _ => hS q) i5⟩, Or.inr ⟨⟨hn3, hn, hnl, hns⟩, ⟨k0, k1, k2, k3⟩, ⟨fun q hq => ?_, fun q hq => ?_, fun q hq => ?_, fun q hq => ?_, fun q hq => ?_⟩, fun j hj => ?_, fun j hj => ?_, fun j hj => ?_⟩⟩
  · show cpN gw iw n q = keepF gi b n nl ns gl2 gs2 gw2 go2 gh2 _; rw [(hc q (by omega)).1, cpN, if_pos hq]; exact aW q hq
  · show cpN go io n q = keepF gi b n nl ns gl2 gs2 gw2 go2 gh2 _; rw [(hc q (by omega)).2.1, cpN, if_pos hq]; exact aO q hq
  · show cpN gh ih n q = keepF gi b n nl ns gl2 gs2 gw2 go2 gh2 _; rw [(hc q (by omega)).2.2, cpN, if_pos hq]; exact aH q hq
  · show cpN gl il nl q = keepF gi b n nl ns gl2 gs2 gw2 go2 gh2 _; rw [keep_gl (by omega), cpN, if_pos hq]; exact aL q hq
  · show cpN gs is ns q = keepF gi b n nl ns gl2 gs2 gw2 go2 gh2 _; rw [keep_gs (by omega), cpN, if_pos hq]; exact aS q hq
  · rw [(hc j hj).1, (hc j hj).2.1, (hc j hj).2.2]; exact ⟨hW2 j, hO2 j, (hH2 j).1, (hH2 j).2⟩
  · rw [keep_gl hj]; exact hL2 j
  · rw [keep_gs hj]; exact hS2 j
end IM
theorem x_sld {p : Program} {l : Launch} {e : Env} {R : Room} {s : State} {m : MethodId} {args : Array Value} {below : List Frame} {meth : Method} {c : Code} {H : Heap} {locs : List Loc} {Q : State → Prop} {cc : ByteArray} {pc nL : Nat} {ls : Array Slot} {rest : List Value} {Ts : List Cond} {own : String} {G : XG} {A : Nat → Prop} {ws : va_W} {cells slots : Nat} (E : CallFix p m c cc nL s args Ts own) (hw : Wd G s A ws H locs) {b L : Nat} {xs : Nat → Int32} (hX : va_X b L xs s s.heap) (hbl : b < s.heap.size) (hbA : ¬ A b) {j : Nat} (hj : j < L) (hL : L ≤ 2048) {v : Int32} (hv : xs j = v) (hdg : decode cc pc = .ok (.iaload, 1))
    (kk : W p l e R s m args below meth c H locs cells slots Q (F0 m (pc + 1) ls (.int v :: rest))) : W p l e R s m args below meth c H locs cells slots Q (F0 m pc ls (.int (nI j) :: .ref b :: rest)) := by
  subst hv
  refine va_sld E.1 E.2.1 hX hbl hbA hw.2.2.2.1 (vp_in_nI hj (by omega)) hdg ?_
  rw [nI_clamp (by omega)]
  exact kk
