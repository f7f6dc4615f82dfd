/-! the reference's reading: what holds at each word -/
def RM (gb : Nat → Nat) (N z : Nat) (t : Nat → Nat) (nf : Nat) (fa : Nat → Nat) (it : Nat) : Prop :=
  ∃ (f : Nat) (t2 ff : Nat → Nat), (N + 1 ≤ f + z ∧ z ≤ N ∧ nf ≤ 20 ∧ it ≤ z) ∧ (∀ j, t j ≤ 100) ∧ (3 ≤ pvT t ∧ pvT t ≤ 63) ∧ (∀ j, j < 4 → t j = t2 j) ∧ (∀ j, j < 2 * nf → fa j = ff j) ∧ rW gb N f z t2 nf ff it = finR gb N
theorem rm_b {gb : Nat → Nat} {N z : Nat} {t : Nat → Nat} {nf : Nat} {fa : Nat → Nat} {it : Nat} (h : RM gb N z t nf fa it) : z ≤ N ∧ nf ≤ 20 ∧ it ≤ z ∧ (∀ j, t j ≤ 100) ∧ 3 ≤ pvT t ∧ pvT t ≤ 63 := by
  obtain ⟨f, t2, ff, a, b, c, -⟩ := h
  exact ⟨a.2.1, a.2.2.1, a.2.2.2, b, c.1, c.2⟩
theorem pvT_eq {t t2 : Nat → Nat} (h : ∀ j, j < 4 → t j = t2 j) : pvT t2 = pvT t := by unfold pvT; rw [h 0 (by decide)]
theorem rm_init {gb : Nat → Nat} {N : Nat} {t fa : Nat → Nat} (hN : N ≤ 200) (ht : ∀ j, t j ≤ 100) (h0 : ∀ j, j < 4 → t j = 0) : RM gb N 0 t 0 fa 0 :=
  ⟨201, fun _ => 0, fun _ => 0, ⟨by omega, by omega, by omega, by omega⟩, ht, by unfold pvT; rw [h0 0 (by decide), if_pos rfl]; exact ⟨by decide, by decide⟩, h0, fun j hj => absurd hj (by omega), rfl⟩
section RMs
variable {gb : Nat → Nat} {N z : Nat} {t : Nat → Nat} {nf : Nat} {fa : Nat → Nat} {it : Nat}
theorem rm_end (h : RM gb N z t nf fa it) (hk : kdM gb N (sk gb N z) = 0) : ∃ t2 ff : Nat → Nat, finR gb N = .inr (t2, nf, ff, it) ∧ (∀ j, j < 4 → t j = t2 j) ∧ ∀ j, j < 2 * nf → fa j = ff j := by
  obtain ⟨f, t2, ff, a, -, -, c, d, e⟩ := h
  obtain ⟨f2, rfl⟩ : ∃ f2, f = f2 + 1 := ⟨f - 1, by omega⟩
  rw [rW_succ, if_pos (tk7.mp hk)] at e
  exact ⟨t2, ff, e.symm, c, d⟩
theorem rm_w {P : Prop} (h : RM gb N z t nf fa it) (hk : ¬ kdM gb N (sk gb N z) = 0) (hP : ∀ (f : Nat) (t2 ff : Nat → Nat), (N + 1 ≤ f + 1 + z ∧ z ≤ N ∧ nf ≤ 20 ∧ it ≤ z) → (∀ j, j < 4 → t j = t2 j) → (∀ j, j < 2 * nf → fa j = ff j) → (if wOk (tk gb N (sk gb N z)) nf t2 then rN gb N (rW gb N f) (tk gb N (sk gb N z)) (te gb N (sk gb N z)) t2 nf ff it else .inl (sk gb N z)) = finR gb N → P) : P := by
  obtain ⟨f, t2, ff, a, -, -, c, d, e⟩ := h
  obtain ⟨f2, rfl⟩ : ∃ f2, f = f2 + 1 := ⟨f - 1, by omega⟩
  rw [rW_succ, if_neg (fun h => hk (tk7.mpr h))] at e
  exact hP f2 t2 ff a c d e
theorem rm_no (h : RM gb N z t nf fa it) (hk : ¬ kdM gb N (sk gb N z) = 0) (hw : ¬ wOk (tk gb N (sk gb N z)) nf t) : finR gb N = .inl (sk gb N z) :=
  rm_w h hk fun f t2 ff a c d e => by
    rw [if_neg] at e
    · exact e.symm
    · rintro (w | w)
      · exact hw (Or.inl w)
      · exact hw (Or.inr ⟨w.1, w.2.1, (c _ w.1).trans w.2.2.1, fun k0 => (c 1 (by decide)).trans (w.2.2.2 k0)⟩)
theorem rm_n {P : Prop} (h : RM gb N z t nf fa it) (hk : kdM gb N (sk gb N z) = 1) (hw : wOk (tk gb N (sk gb N z)) nf t) (hP : ∀ (f : Nat) (t2 ff : Nat → Nat), (N + 1 ≤ f + 1 + z ∧ z ≤ N ∧ nf ≤ 20 ∧ it ≤ z) → (∀ j, j < 4 → t j = t2 j) → (∀ j, j < 2 * nf → fa j = ff j) → rN gb N (rW gb N f) (tk gb N (sk gb N z)) (atM gb N (sk gb N z)) t2 nf ff it = finR gb N → P) : P :=
  rm_w h (by omega) fun f t2 ff a c d e => by
    rw [if_pos, ← (tkW hk).1] at e
    · exact hP f t2 ff a c d e
    · rcases hw with w | w
      · exact Or.inl w
      · exact Or.inr ⟨w.1, w.2.1, (c _ w.1).symm.trans w.2.2.1, fun k0 => (c 1 (by decide)).symm.trans (w.2.2.2 k0)⟩
variable {k : Nat}
theorem rm_t_no (h : RM gb N z t nf fa it) (hk : kdM gb N (sk gb N z) = 1) (hw : wOk (tk gb N (sk gb N z)) nf t) (hkk : tk gb N (sk gb N z) = k) (hk4 : k < 4)
    (hno : ¬ (tk gb N (sk gb N (atM gb N (sk gb N z))) = 5 ∧ okT k (nv gb N (sk gb N (atM gb N (sk gb N z)))) t)) : finR gb N = .inl (sk gb N (atM gb N (sk gb N z))) :=
  rm_n h hk hw fun f t2 ff a c d e => by
    rw [hkk, rN, if_neg (by omega), if_neg] at e
    · exact e.symm
    · unfold okT at hno ⊢; rw [pvT_eq c]; exact hno
theorem rm_t {P : Prop} (hgb : ∀ q, gb q < 256) (h : RM gb N z t nf fa it) (hk : kdM gb N (sk gb N z) = 1) (hw : wOk (tk gb N (sk gb N z)) nf t) (hkk : tk gb N (sk gb N z) = k) (hk4 : k < 4)
    (hok : tk gb N (sk gb N (atM gb N (sk gb N z))) = 5 ∧ okT k (nv gb N (sk gb N (atM gb N (sk gb N z)))) t) (hP : ∀ (f : Nat) (t2 ff : Nat → Nat), (N + 1 ≤ f + 1 + z ∧ z ≤ N ∧ nf ≤ 20 ∧ it ≤ z) → (∀ j, j < 4 → t j = t2 j) → (∀ j, j < 2 * nf → fa j = ff j) → rS gb N (rW gb N f) (atM gb N (sk gb N (atM gb N (sk gb N z)))) (va_up t2 k (nv gb N (sk gb N (atM gb N (sk gb N z))) + 1)) nf ff it = finR gb N → P) : P :=
  rm_n h hk hw fun f t2 ff a c d e => by
    rw [hkk, rN, if_neg (by omega), if_pos, ← (tk5v hgb hok.1).2.1] at e
    · exact hP f t2 ff a c d e
    · unfold okT at hok ⊢; rw [pvT_eq c]; exact hok
theorem rm_t_ns (hgb : ∀ q, gb q < 256) (h : RM gb N z t nf fa it) (hk : kdM gb N (sk gb N z) = 1) (hw : wOk (tk gb N (sk gb N z)) nf t) (hkk : tk gb N (sk gb N z) = k) (hk4 : k < 4)
    (hok : tk gb N (sk gb N (atM gb N (sk gb N z))) = 5 ∧ okT k (nv gb N (sk gb N (atM gb N (sk gb N z)))) t) (hs : ¬ tk gb N (sk gb N (atM gb N (sk gb N (atM gb N (sk gb N z))))) = 6) : finR gb N = .inl (sk gb N (atM gb N (sk gb N (atM gb N (sk gb N z))))) :=
  rm_t hgb h hk hw hkk hk4 hok fun f t2 ff a c d e => by
    unfold rS at e; rw [if_neg hs] at e; exact e.symm
theorem at_gt6 {p : Nat} (h : tk gb N p = 6) : p + 1 ≤ atM gb N p ∧ p < N := by
  rw [tk6a h]
  refine ⟨te_gt _ _ _, ?_⟩
  rcases Nat.lt_or_ge p N with a | a
  · exact a
  · have := (tk_end (gb := gb)).mpr a; omega
theorem at_ge (gb : Nat → Nat) (N p : Nat) : p ≤ atM gb N p := by
  unfold atM lr dr
  have h1 := (lrL_ge gb N (N - p) p).1
  have h2 := (drL_ge gb N (N - p) p).1
  repeat' split
  all_goals omega
theorem rm_t_ok (hgb : ∀ q, gb q < 256) (h : RM gb N z t nf fa it) (hk : kdM gb N (sk gb N z) = 1) (hw : wOk (tk gb N (sk gb N z)) nf t) (hkk : tk gb N (sk gb N z) = k) (hk4 : k < 4)
    (hok : tk gb N (sk gb N (atM gb N (sk gb N z))) = 5 ∧ okT k (nv gb N (sk gb N (atM gb N (sk gb N z)))) t) (hs : tk gb N (sk gb N (atM gb N (sk gb N (atM gb N (sk gb N z))))) = 6) :
    RM gb N (atM gb N (sk gb N (atM gb N (sk gb N (atM gb N (sk gb N z)))))) (va_up t k (nv gb N (sk gb N (atM gb N (sk gb N z))) + 1)) nf fa (it + 1) := by
  obtain ⟨-, -, -, hb, hp3, hp63⟩ := rm_b h
  refine rm_t hgb h hk hw hkk hk4 hok fun f t2 ff a c d e => ?_
  have hv := (tk5v hgb hok.1).2.2
  have hok2 := hok.2
  unfold rS at e; rw [if_pos hs, ← tk6a hs] at e
  have g1 := sk_ge gb N z
  have g2 := at_ge gb N (sk gb N z)
  have g3 := sk_ge gb N (atM gb N (sk gb N z))
  have g4 := at_ge gb N (sk gb N (atM gb N (sk gb N z)))
  have g5 := sk_ge gb N (atM gb N (sk gb N (atM gb N (sk gb N z))))
  have g6 := at_gt6 hs
  have g7 := atM_le (gb := gb) (Nat.le_of_lt g6.2)
  refine ⟨f, _, ff, ⟨by omega, by omega, by omega, by omega⟩, fun j => ?_, ?_, fun j hj => ?_, d, e⟩
  · by_cases e1 : j = k
    · rw [e1, va_up_self]; omega
    · rw [va_up_ne _ _ e1]; exact hb j
  · by_cases e0 : k = 0
    · subst e0
      rw [pvT_up0]
      unfold okT at hok2
      omega
    · rw [pvT_up _ _ e0]; exact ⟨hp3, hp63⟩
  · by_cases e1 : j = k
    · rw [e1, va_up_self, va_up_self]
    · rw [va_up_ne _ _ e1, va_up_ne _ _ e1]; exact c j hj
theorem rm_f_no1 (h : RM gb N z t nf fa it) (hk : kdM gb N (sk gb N z) = 1) (hnf : nf < 20) (hkk : tk gb N (sk gb N z) = 4)
    (hno : ¬ (tk gb N (sk gb N (atM gb N (sk gb N z))) = 5 ∧ nv gb N (sk gb N (atM gb N (sk gb N z))) < nf + 3)) : finR gb N = .inl (sk gb N (atM gb N (sk gb N z))) :=
  rm_n h hk (Or.inl ⟨hkk, hnf⟩) fun f t2 ff a c d e => by
    rw [hkk, rN, if_pos rfl, if_neg hno] at e
    exact e.symm
theorem rm_f {P : Prop} (hgb : ∀ q, gb q < 256) (h : RM gb N z t nf fa it) (hk : kdM gb N (sk gb N z) = 1) (hnf : nf < 20) (hkk : tk gb N (sk gb N z) = 4)
    (hok : tk gb N (sk gb N (atM gb N (sk gb N z))) = 5 ∧ nv gb N (sk gb N (atM gb N (sk gb N z))) < nf + 3) (hP : ∀ (f : Nat) (t2 ff : Nat → Nat), (N + 1 ≤ f + 1 + z ∧ z ≤ N ∧ nf ≤ 20 ∧ it ≤ z) → (∀ j, j < 4 → t j = t2 j) → (∀ j, j < 2 * nf → fa j = ff j) → r2 gb N (rW gb N f) (nv gb N (sk gb N (atM gb N (sk gb N z)))) (atM gb N (sk gb N (atM gb N (sk gb N z)))) t2 nf ff it = finR gb N → P) : P :=
  rm_n h hk (Or.inl ⟨hkk, hnf⟩) fun f t2 ff a c d e => by
    rw [hkk, rN, if_pos rfl, if_pos hok, ← (tk5v hgb hok.1).2.1] at e
    exact hP f t2 ff a c d e
theorem rm_f_no2 (hgb : ∀ q, gb q < 256) (h : RM gb N z t nf fa it) (hk : kdM gb N (sk gb N z) = 1) (hnf : nf < 20) (hkk : tk gb N (sk gb N z) = 4)
    (hok : tk gb N (sk gb N (atM gb N (sk gb N z))) = 5 ∧ nv gb N (sk gb N (atM gb N (sk gb N z))) < nf + 3)
    (hno : ¬ (tk gb N (sk gb N (atM gb N (sk gb N (atM gb N (sk gb N z))))) = 5 ∧ nv gb N (sk gb N (atM gb N (sk gb N (atM gb N (sk gb N z))))) < nf + 3 ∧ nv gb N (sk gb N (atM gb N (sk gb N (atM gb N (sk gb N z))))) ≠ nv gb N (sk gb N (atM gb N (sk gb N z))))) : finR gb N = .inl (sk gb N (atM gb N (sk gb N (atM gb N (sk gb N z))))) :=
  rm_f hgb h hk hnf hkk hok fun f t2 ff a c d e => by
    unfold r2 at e; rw [if_neg hno] at e; exact e.symm
theorem rm_g {P : Prop} (hgb : ∀ q, gb q < 256) (h : RM gb N z t nf fa it) (hk : kdM gb N (sk gb N z) = 1) (hnf : nf < 20) (hkk : tk gb N (sk gb N z) = 4)
    (hok : tk gb N (sk gb N (atM gb N (sk gb N z))) = 5 ∧ nv gb N (sk gb N (atM gb N (sk gb N z))) < nf + 3)
    (hok2 : tk gb N (sk gb N (atM gb N (sk gb N (atM gb N (sk gb N z))))) = 5 ∧ nv gb N (sk gb N (atM gb N (sk gb N (atM gb N (sk gb N z))))) < nf + 3 ∧ nv gb N (sk gb N (atM gb N (sk gb N (atM gb N (sk gb N z))))) ≠ nv gb N (sk gb N (atM gb N (sk gb N z))))
    (hP : ∀ (f : Nat) (t2 ff : Nat → Nat), (N + 1 ≤ f + 1 + z ∧ z ≤ N ∧ nf ≤ 20 ∧ it ≤ z) → (∀ j, j < 4 → t j = t2 j) → (∀ j, j < 2 * nf → fa j = ff j) → rS gb N (rW gb N f) (atM gb N (sk gb N (atM gb N (sk gb N (atM gb N (sk gb N z)))))) t2 (nf + 1) (va_up (va_up ff (2 * nf) (nv gb N (sk gb N (atM gb N (sk gb N z))))) (2 * nf + 1) (nv gb N (sk gb N (atM gb N (sk gb N (atM gb N (sk gb N z))))))) it = finR gb N → P) : P :=
  rm_f hgb h hk hnf hkk hok fun f t2 ff a c d e => by
    unfold r2 at e; rw [if_pos hok2, ← (tk5v hgb hok2.1).2.1] at e; exact hP f t2 ff a c d e
theorem rm_f_ns (hgb : ∀ q, gb q < 256) (h : RM gb N z t nf fa it) (hk : kdM gb N (sk gb N z) = 1) (hnf : nf < 20) (hkk : tk gb N (sk gb N z) = 4)
    (hok : tk gb N (sk gb N (atM gb N (sk gb N z))) = 5 ∧ nv gb N (sk gb N (atM gb N (sk gb N z))) < nf + 3)
    (hok2 : tk gb N (sk gb N (atM gb N (sk gb N (atM gb N (sk gb N z))))) = 5 ∧ nv gb N (sk gb N (atM gb N (sk gb N (atM gb N (sk gb N z))))) < nf + 3 ∧ nv gb N (sk gb N (atM gb N (sk gb N (atM gb N (sk gb N z))))) ≠ nv gb N (sk gb N (atM gb N (sk gb N z))))
    (hs : ¬ tk gb N (sk gb N (atM gb N (sk gb N (atM gb N (sk gb N (atM gb N (sk gb N z))))))) = 6) : finR gb N = .inl (sk gb N (atM gb N (sk gb N (atM gb N (sk gb N (atM gb N (sk gb N z))))))) :=
  rm_g hgb h hk hnf hkk hok hok2 fun f t2 ff a c d e => by
    unfold rS at e; rw [if_neg hs] at e; exact e.symm
theorem rm_f_ok (hgb : ∀ q, gb q < 256) (h : RM gb N z t nf fa it) (hk : kdM gb N (sk gb N z) = 1) (hnf : nf < 20) (hkk : tk gb N (sk gb N z) = 4)
    (hok : tk gb N (sk gb N (atM gb N (sk gb N z))) = 5 ∧ nv gb N (sk gb N (atM gb N (sk gb N z))) < nf + 3)
    (hok2 : tk gb N (sk gb N (atM gb N (sk gb N (atM gb N (sk gb N z))))) = 5 ∧ nv gb N (sk gb N (atM gb N (sk gb N (atM gb N (sk gb N z))))) < nf + 3 ∧ nv gb N (sk gb N (atM gb N (sk gb N (atM gb N (sk gb N z))))) ≠ nv gb N (sk gb N (atM gb N (sk gb N z))))
    (hs : tk gb N (sk gb N (atM gb N (sk gb N (atM gb N (sk gb N (atM gb N (sk gb N z))))))) = 6) :
    RM gb N (atM gb N (sk gb N (atM gb N (sk gb N (atM gb N (sk gb N (atM gb N (sk gb N z)))))))) t (nf + 1) (va_up (va_up fa (2 * nf) (nv gb N (sk gb N (atM gb N (sk gb N z))))) (2 * nf + 1) (nv gb N (sk gb N (atM gb N (sk gb N (atM gb N (sk gb N z))))))) (it + 1) := by
  obtain ⟨-, -, -, hb, hp3, hp63⟩ := rm_b h
  refine rm_g hgb h hk hnf hkk hok hok2 fun f t2 ff a c d e => ?_
  unfold rS at e; rw [if_pos hs, ← tk6a hs] at e
  have g1 := sk_ge gb N z
  have g2 := at_ge gb N (sk gb N z)
  have g3 := sk_ge gb N (atM gb N (sk gb N z))
  have g4 := at_ge gb N (sk gb N (atM gb N (sk gb N z)))
  have g5 := sk_ge gb N (atM gb N (sk gb N (atM gb N (sk gb N z))))
  have g5a := at_ge gb N (sk gb N (atM gb N (sk gb N (atM gb N (sk gb N z)))))
  have g5b := sk_ge gb N (atM gb N (sk gb N (atM gb N (sk gb N (atM gb N (sk gb N z))))))
  have g6 := at_gt6 hs
  have g7 := atM_le (gb := gb) (Nat.le_of_lt g6.2)
  refine ⟨f, t2, _, ⟨by omega, by omega, by omega, by omega⟩, hb, ⟨hp3, hp63⟩, c, fun j hj => ?_, e⟩
  by_cases e1 : j = 2 * nf + 1
  · rw [e1, va_up_self, va_up_self]
  · rw [va_up_ne _ _ e1, va_up_ne _ _ e1]
    by_cases e2 : j = 2 * nf
    · rw [e2, va_up_self, va_up_self]
    · rw [va_up_ne _ _ e2, va_up_ne _ _ e2]; exact d j (by omega)
end RMs
/-- what is so when all of a text has been taken -/
def TaP (gb : Nat → Nat) (N : Nat) (r : Int32) (q8 nf : Nat) (t fa : Nat → Nat) : Prop :=
  (∃ (t2 ff : Nat → Nat) (it : Nat), finR gb N = .inr (t2, nf, ff, it) ∧ r = nI it ∧ it ≤ 200 ∧ (∀ j, j < 4 → t j = t2 j) ∧ ∀ j, j < 2 * nf → fa j = ff j) ∨ (finR gb N = .inl q8 ∧ r = -1 ∧ q8 ≤ 200)
/-- told parts, none told yet -/
def tC (t : Nat → Nat) : Nat → (Nat → Nat)
  | 0 => t
  | k + 1 => va_up (tC t k) k 0
theorem tC_le {t : Nat → Nat} (h : ∀ j, t j ≤ 100) : ∀ k j, tC t k j ≤ 100 := by
  intro k
  induction k with
  | zero => exact h
  | succ k ih =>
    intro j
    rw [tC]
    by_cases e : j = k
    · rw [e, va_up_self]; omega
    · rw [va_up_ne _ _ e]; exact ih j
theorem tC_0 {t : Nat → Nat} : ∀ k j, j < k → tC t k j = 0 := by
  intro k
  induction k with
  | zero => intro j h; exact absurd h (Nat.not_lt_zero _)
  | succ k ih =>
    intro j h
    rw [tC]
    by_cases e : j = k
    · rw [e, va_up_self]
    · rw [va_up_ne _ _ e]; exact ih j (by omega)
theorem va_le {t : Nat → Nat} {k v : Nat} (h : ∀ j, t j ≤ 100) (hv : v ≤ 100) : ∀ j, va_up t k v j ≤ 100 := fun j => by
  by_cases e : j = k
  · rw [e, va_up_self]; exact hv
  · rw [va_up_ne _ _ e]; exact h j
