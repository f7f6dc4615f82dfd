/-! what is told is as it may be; folds of a text -/
def GoodR (t : Nat → Nat) (nf : Nat) (ff : Nat → Nat) : Prop := (3 ≤ pvT t ∧ pvT t ≤ 63 ∧ pvT t % 2 = 1 ∧ 1 ≤ pv1 t ∧ pv1 t < pvT t ∧ t 2 - 1 ≤ 99 ∧ t 3 - 1 ≤ 9 ∧ nf ≤ 20) ∧ ∀ j, j < nf → ff (2 * j) < j + 3 ∧ ff (2 * j + 1) < j + 3
theorem rS_good {gb : Nat → Nat} {N : Nat} {K : Kon} {z nf it : Nat} {t ff : Nat → Nat} {t' ff' : Nat → Nat} {nf' it' : Nat} (hK : ∀ z it, K z t nf ff it = .inr (t', nf', ff', it') → GoodR t' nf' ff') (h : rS gb N K z t nf ff it = .inr (t', nf', ff', it')) : GoodR t' nf' ff' := by
  unfold rS at h
  split at h
  · exact hK _ _ h
  · cases h
theorem rW_good {gb : Nat → Nat} {N : Nat} : ∀ (f z : Nat) (t : Nat → Nat) (nf : Nat) (ff : Nat → Nat) (it : Nat) (t' ff' : Nat → Nat) (nf' it' : Nat), GoodR t nf ff → rW gb N f z t nf ff it = .inr (t', nf', ff', it') → GoodR t' nf' ff' := by
  intro f
  induction f with
  | zero => intro z t nf ff it t' ff' nf' it' _ h; cases h
  | succ f ih =>
    intro z t nf ff it t' ff' nf' it' hG h
    rw [rW_succ] at h
    split at h
    · cases h; exact hG
    · split at h
      · rename_i hw
        generalize tk gb N (sk gb N z) = k at h hw
        unfold rN at h
        split at h
        · split at h
          · rename_i hk4 hn
            generalize nv gb N (sk gb N (te gb N (sk gb N z))) = v at h hn
            unfold r2 at h
            split at h
            · rename_i h5
              refine rS_good (fun z it h => ih z t (nf + 1) _ it t' ff' nf' it' ?_ h) h
              rcases hw with hw | hw
              · obtain ⟨hg, hf⟩ := hG
                refine ⟨by omega, fun j hj => ?_⟩
                by_cases e : j = nf
                · subst e
                  rw [va_up_ne _ _ (show 2 * j ≠ 2 * j + 1 by omega), va_up_self, va_up_self]
                  omega
                · rw [va_up_ne _ _ (show 2 * j ≠ 2 * nf + 1 by omega), va_up_ne _ _ (show 2 * j ≠ 2 * nf by omega), va_up_ne _ _ (show 2 * j + 1 ≠ 2 * nf + 1 by omega), va_up_ne _ _ (show 2 * j + 1 ≠ 2 * nf by omega)]
                  exact hf j (by omega)
              · omega
            · cases h
          · cases h
        · split at h
          · rename_i hk4 hn
            generalize nv gb N (sk gb N (te gb N (sk gb N z))) = v at h hn
            refine rS_good (fun z it h => ih z _ nf ff it t' ff' nf' it' ?_ h) h
            rcases hw with hw | hw
            · omega
            · obtain ⟨hg, hf⟩ := hG
              refine ⟨?_, hf⟩
              rcases hn.2 with a | a | a | a
              · obtain ⟨rfl, a⟩ := a
                have h1 := hw.2.2.2 rfl
                rw [pvT_up0, pv1_up _ _ (by decide)]
                have hp1 : pv1 t = 1 := by unfold pv1; rw [if_pos h1]
                rw [hp1]
                simp only [va_up]
                refine ⟨by omega, by omega, by omega, by omega, by omega, ?_, ?_, by omega⟩
                · simp; omega
                · simp; omega
              · obtain ⟨rfl, a⟩ := a
                rw [pvT_up _ _ (by decide), pv1_up1]
                simp only [va_up]
                refine ⟨by omega, by omega, by omega, by omega, by omega, ?_, ?_, by omega⟩
                · simp; omega
                · simp; omega
              · obtain ⟨rfl, a⟩ := a
                rw [pvT_up _ _ (by decide), pv1_up _ _ (by decide)]
                simp only [va_up]
                refine ⟨by omega, by omega, by omega, by omega, by omega, ?_, ?_, by omega⟩
                · simp; omega
                · simp; omega
              · obtain ⟨rfl, a⟩ := a
                rw [pvT_up _ _ (by decide), pv1_up _ _ (by decide)]
                simp only [va_up]
                refine ⟨by omega, by omega, by omega, by omega, by omega, ?_, ?_, by omega⟩
                · simp; omega
                · simp; omega
          · cases h
      · cases h
theorem finR_good {gb : Nat → Nat} {N : Nat} {t ff : Nat → Nat} {nf it : Nat} (h : finR gb N = .inr (t, nf, ff, it)) : GoodR t nf ff :=
  rW_good 201 0 _ 0 _ 0 t ff nf it ⟨⟨by decide, by decide, by decide, by decide, by decide, by decide, by decide, by decide⟩, fun j hj => absurd hj (Nat.not_lt_zero _)⟩ h
def fdW (ff : Nat → Nat) (g : Nat → Nat) : Nat → (Nat → Nat)
  | 0 => g
  | k + 1 => mid (fdW ff g k) (3 + k) (ff (2 * k)) (ff (2 * k + 1))
def fdH (ff : Nat → Nat) (g : Nat → Nat) : Nat → (Nat → Nat)
  | 0 => g
  | k + 1 => midH (fdH ff g k) (3 + k) (ff (2 * k)) (ff (2 * k + 1))
/-- how much may stand where -/
def BdW (g : Nat → Nat) : Prop := ∀ q, g q ≤ 66060288
def BdH (g : Nat → Nat) : Prop := ∀ q, g q ≤ q * 1048576 ∧ g q ≤ 24117248
theorem BdW.lt {g : Nat → Nat} (h : BdW g) : ∀ q, g q < 1073741824 := fun q => Nat.lt_of_le_of_lt (h q) (by decide)
theorem BdH.lt {g : Nat → Nat} (h : BdH g) : ∀ q, g q < 1073741824 := fun q => Nat.lt_of_le_of_lt (h q).2 (by decide)
theorem bw_mid {g : Nat → Nat} (n i j : Nat) (h : BdW g) : BdW (mid g n i j) := fun q => by
  unfold mid
  by_cases e : q = n
  · rw [e, va_up_self]; have := h i; have := h j; omega
  · rw [va_up_ne _ _ e]; exact h q
theorem bh_mid {g : Nat → Nat} {n i j : Nat} (hn : n ≤ 22) (hi : i < n) (hj : j < n) (h : BdH g) : BdH (midH g n i j) := fun q => by
  unfold midH
  by_cases e : q = n
  · rw [e, va_up_self]; have := h i; have := h j
    have h1 : i * 1048576 ≤ (n - 1) * 1048576 := Nat.mul_le_mul_right _ (by omega)
    have h2 : j * 1048576 ≤ (n - 1) * 1048576 := Nat.mul_le_mul_right _ (by omega)
    omega
  · rw [va_up_ne _ _ e]; exact h q
theorem bw_beg {g : Nat → Nat} {P p : Nat} (hP : P ≤ 63) (hp : p ≤ 63) (h : BdW g) : BdW (begW P p g) := fun q => by
  unfold begW
  by_cases e2 : q = 2
  · rw [e2, va_up_self]; omega
  · rw [va_up_ne _ _ e2]
    by_cases e1 : q = 1
    · rw [e1, va_up_self]; omega
    · rw [va_up_ne _ _ e1]
      by_cases e0 : q = 0
      · rw [e0, va_up_self]; omega
      · rw [va_up_ne _ _ e0]; exact h q
theorem bw_begO {g : Nat → Nat} (h : BdW g) : BdW (begO g) := fun q => by
  unfold begO
  by_cases e2 : q = 2
  · rw [e2, va_up_self]; omega
  · rw [va_up_ne _ _ e2]
    by_cases e1 : q = 1
    · rw [e1, va_up_self]; omega
    · rw [va_up_ne _ _ e1]
      by_cases e0 : q = 0
      · rw [e0, va_up_self]; omega
      · rw [va_up_ne _ _ e0]; exact h q
theorem bh_beg {g : Nat → Nat} (h : BdH g) : BdH (begH g) := fun q => by
  unfold begH
  by_cases e2 : q = 2
  · rw [e2, va_up_self]; omega
  · rw [va_up_ne _ _ e2]
    by_cases e1 : q = 1
    · rw [e1, va_up_self]; omega
    · rw [va_up_ne _ _ e1]
      by_cases e0 : q = 0
      · rw [e0, va_up_self]; omega
      · rw [va_up_ne _ _ e0]; exact h q
theorem bw_fd {ff g : Nat → Nat} (h : BdW g) : ∀ k, BdW (fdW ff g k) := by
  intro k
  induction k with
  | zero => exact h
  | succ k ih => exact bw_mid _ _ _ ih
theorem bh_fd {ff g : Nat → Nat} {nf : Nat} (hn : nf ≤ 20) (hf : ∀ j, j < nf → ff (2 * j) < j + 3 ∧ ff (2 * j + 1) < j + 3) (h : BdH g) : ∀ k, k ≤ nf → BdH (fdH ff g k) := by
  intro k
  induction k with
  | zero => intro _; exact h
  | succ k ih =>
    intro hk
    have h1 := hf k (by omega)
    exact bh_mid (by omega) (by omega) (by omega) (ih (by omega))
theorem nq_le {gb : Nat → Nat} {N p q : Nat} (hq : q ≤ 100) : nq gb N p q ≤ 100 := by
  unfold nq
  split
  · exact hq
  · split
    · exact nmL_le gb N _ _ _ (by omega)
    · exact hq
/-- what is so when a text has been read -/
def RdP (gb : Nat → Nat) (N : Nat) (r : Int32) (q1 q2 q3 q4 q7 q8 n1 n2 : Nat) (g1 g2 : Nat → Nat) : Prop :=
  (∃ t ff : Nat → Nat, finR gb N = .inr (t, n2, ff, q7) ∧ r = -9 ∧ q1 = pvT t ∧ q2 = pv1 t ∧ q3 = t 2 - 1 ∧ q4 = t 3 - 1 ∧ n1 = n2 ∧ ∀ j, j < n2 → g1 j = ff (2 * j) ∧ g2 j = ff (2 * j + 1)) ∨ (finR gb N = .inl q8 ∧ r = nI q8 ∧ q8 ≤ 200)
