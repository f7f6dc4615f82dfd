theorem lr_out {gb : Nat → Nat} {N i : Nat} : ¬ (lr gb N i < N ∧ 97 ≤ gb (lr gb N i) ∧ gb (lr gb N i) ≤ 122) := by
  have h : ∀ f i, N - i ≤ f → ¬ (lrL gb N f i < N ∧ 97 ≤ gb (lrL gb N f i) ∧ gb (lrL gb N f i) ≤ 122) := by
    intro f
    induction f with
    | zero => intro i hi h; simp only [lrL] at h; omega
    | succ f ih =>
      intro i hi
      rw [lrL]
      split
      · exact ih (i + 1) (by omega)
      · rename_i h; exact h
  exact h _ i (Nat.le_refl _)
/-- what a word's number tells -/
theorem w32_code {gb : Nat → Nat} {p : Nat} : ∀ k C, (∀ j, j < k → 97 ≤ gb (p + j) ∧ gb (p + j) ≤ 122) → w32 gb p k = C → k ≤ 6 → ∀ j, j < k → gb (p + j) = C / 32 ^ (k - 1 - j) % 32 + 96 := by
  intro k
  induction k with
  | zero => intro C _ _ _ j hj; exact absurd hj (Nat.not_lt_zero _)
  | succ k ih =>
    intro C h e hk j hj
    have h1 := w32_peel h e
    rcases Nat.lt_or_eq_of_le (Nat.le_of_lt_succ hj) with h2 | h2
    · have h3 := ih (C / 32) (fun j hj => h j (by omega)) h1.2 (by omega) j h2
      rw [h3, Nat.div_div_eq_div_mul, show k + 1 - 1 - j = (k - 1 - j) + 1 by omega, Nat.pow_succ, Nat.mul_comm]
    · subst h2; rw [show j + 1 - 1 - j = 0 by omega, Nat.pow_zero, Nat.div_one]; exact h1.1
def wCd (i : Nat) : Nat := [20597040, 525908, 15558, 263474, 212356].getD i 0
theorem wC_lt : ∀ i, i < 5 → 3 ≤ lnS i ∧ lnS i ≤ 5 ∧ 32 ^ (lnS i - 1) ≤ wCd i ∧ wCd i < 32 ^ lnS i ∧ ∀ j, j < lnS i → (chI i j).toInt = ((wCd i / 32 ^ (lnS i - 1 - j) % 32 + 96 : Nat) : Int) := by decide +kernel
theorem w32_low {gb : Nat → Nat} {p : Nat} (k : Nat) (h : ∀ j, j < k + 1 → 97 ≤ gb (p + j) ∧ gb (p + j) ≤ 122) : 32 ^ k ≤ w32 gb p (k + 1) := by
  induction k with
  | zero => have := h 0 (by omega); rw [w32_step, w32, Nat.pow_zero]; omega
  | succ k ih =>
    have h1 := ih (fun j hj => h j (by omega))
    have h2 := h (k + 1) (by omega)
    rw [w32_step, Nat.pow_succ]; omega
theorem w32_eq {gb : Nat → Nat} {p i : Nat} (hi : i < 5) : ∀ k, k ≤ lnS i → eqL i gb p k = true → w32 gb p k = wCd i / 32 ^ (lnS i - k) := by
  intro k hk h
  rw [eqL_4] at h
  have hc := (wC_lt i hi).2.2.2.2
  have hlt := (wC_lt i hi).2.2.2.1
  induction k with
  | zero => rw [w32, Nat.sub_zero, Nat.div_eq_of_lt hlt]
  | succ k ih =>
    have h1 := ih (by omega) (fun j hj => h j (by omega))
    have h2 := h k (by omega)
    rw [hc k (by omega)] at h2
    rw [w32_step, h1]
    have e : wCd i / 32 ^ (lnS i - k) = wCd i / 32 ^ (lnS i - (k + 1)) / 32 := by
      rw [Nat.div_div_eq_div_mul, ← Nat.pow_succ, show (lnS i - (k + 1)).succ = lnS i - k by omega]
    rw [show lnS i - 1 - k = lnS i - (k + 1) by omega] at h2
    rw [e]
    omega
/-- a word is constant i exactly where its number is that constant's -/
theorem w32_is {gb : Nat → Nat} {p L i : Nat} (hi : i < 5) (hL : L ≤ 6) (hl : ∀ j, j < L → 97 ≤ gb (p + j) ∧ gb (p + j) ≤ 122) : w32 gb p L = wCd i ↔ (lnS i = L ∧ eqL i gb p (lnS i) = true) := by
  obtain ⟨h3, h5, hlo, hhi, hc⟩ := wC_lt i hi
  constructor
  · intro h
    have e : L = lnS i := by
      rcases Nat.lt_trichotomy L (lnS i) with a | a | a
      · exfalso
        have h1 := (w32_pos L hl).2
        have h2 : 32 ^ L ≤ 32 ^ (lnS i - 1) := Nat.pow_le_pow_right (by decide) (by omega)
        omega
      · exact a
      · exfalso
        obtain ⟨k, rfl⟩ : ∃ k, L = k + 1 := ⟨L - 1, by omega⟩
        have h1 := w32_low k hl
        have h2 : 32 ^ lnS i ≤ 32 ^ k := Nat.pow_le_pow_right (by decide) (by omega)
        omega
    subst e
    refine ⟨rfl, eqL_4 _ |>.mpr fun k hk => ?_⟩
    rw [hc k hk, w32_code _ _ hl h hL k hk]
  · rintro ⟨rfl, h⟩
    rw [w32_eq hi _ (Nat.le_refl _) h, Nat.sub_self, Nat.pow_zero, Nat.div_one]
theorem lr_pos {gb : Nat → Nat} {N p : Nat} (h : p < N ∧ 97 ≤ gb p ∧ gb p ≤ 122) : p + 1 ≤ lr gb N p := by rw [lr_step h]; exact (lrL_ge gb N _ _).1
theorem lr_let {gb : Nat → Nat} {N p : Nat} : ∀ j, j < lr gb N p - p → 97 ≤ gb (p + j) ∧ gb (p + j) ≤ 122 := fun j hj => (lrL_letter (gb := gb) (N := N) (N - p) p (p + j) (by omega) (by unfold lr at hj; omega)).2
theorem tk_word {gb : Nat → Nat} {N p : Nat} (h : p < N ∧ 97 ≤ gb p ∧ gb p ≤ 122) : tk gb N p = wdC gb p (lr gb N p) ∧ te gb N p = lr gb N p := by
  rw [lr_step h]; unfold tk te
  rw [if_neg (by omega), if_neg (by omega), if_pos h.2, if_neg (by omega), if_pos h.2]
  exact ⟨rfl, rfl⟩
theorem vl_word {gb : Nat → Nat} {N p : Nat} (h : p < N ∧ 97 ≤ gb p ∧ gb p ≤ 122) (i : Nat) (hi : i < 5) : (vlM gb N p).toInt = (wCd i : Int) ↔ (lnS i = lr gb N p - p ∧ eqL i gb p (lnS i) = true) := by
  have hlt := (wC_lt i hi)
  have hP : wCd i < 33554432 := Nat.lt_of_lt_of_le hlt.2.2.2.1 (show 32 ^ lnS i ≤ 32 ^ 5 from Nat.pow_le_pow_right (by decide) hlt.2.1)
  unfold vlM
  rw [if_neg (by omega), if_pos h.2]
  by_cases hL : lr gb N p - p ≤ 6
  · have hw := (w32_pos (lr gb N p - p) (lr_let (N := N))).2
    have hw2 : w32 gb p (lr gb N p - p) < 1073741824 := Nat.lt_of_lt_of_le hw (show 32 ^ (lr gb N p - p) ≤ 32 ^ 6 from Nat.pow_le_pow_right (by decide) hL)
    rw [if_pos hL, lN_toI (by omega), Int.ofNat_inj]
    exact w32_is hi hL lr_let
  · rw [if_neg hL, show ((-1 : Int64)).toInt = -1 by decide]
    constructor
    · intro e; omega
    · intro e; omega
/-- words: which token, by the reference's value -/
theorem tkW {gb : Nat → Nat} {N p : Nat} (h : kdM gb N p = 1) : atM gb N p = te gb N p ∧
    (((vlM gb N p).toInt = 20597040 ∧ tk gb N p = 0) ∨ ((vlM gb N p).toInt = 525908 ∧ tk gb N p = 1) ∨ ((vlM gb N p).toInt = 15558 ∧ tk gb N p = 2) ∨ ((vlM gb N p).toInt = 263474 ∧ tk gb N p = 3) ∨ ((vlM gb N p).toInt = 212356 ∧ tk gb N p = 4) ∨
     ((vlM gb N p).toInt ≠ 20597040 ∧ (vlM gb N p).toInt ≠ 525908 ∧ (vlM gb N p).toInt ≠ 15558 ∧ (vlM gb N p).toInt ≠ 263474 ∧ (vlM gb N p).toInt ≠ 212356 ∧ tk gb N p = 8)) := by
  have hk := kd1 h
  have h1 := tk_word hk
  refine ⟨by rw [h1.2]; unfold atM; rw [if_neg (by omega), if_pos hk.2], ?_⟩
  rw [h1.1]
  have a0 := vl_word hk 0 (by decide)
  have a1 := vl_word hk 1 (by decide)
  have a2 := vl_word hk 2 (by decide)
  have a3 := vl_word hk 3 (by decide)
  have a4 := vl_word hk 4 (by decide)
  rw [show (wCd 0 : Int) = 20597040 by decide] at a0
  rw [show (wCd 1 : Int) = 525908 by decide] at a1
  rw [show (wCd 2 : Int) = 15558 by decide] at a2
  rw [show (wCd 3 : Int) = 263474 by decide] at a3
  rw [show (wCd 4 : Int) = 212356 by decide] at a4
  generalize (vlM gb N p).toInt = v at a0 a1 a2 a3 a4 ⊢
  unfold wdC
  by_cases c0 : lnS 0 = lr gb N p - p ∧ eqL 0 gb p (lnS 0) = true
  · rw [if_pos c0]; exact Or.inl ⟨a0.mpr c0, rfl⟩
  rw [if_neg c0]; rw [← a0] at c0
  by_cases c1 : lnS 1 = lr gb N p - p ∧ eqL 1 gb p (lnS 1) = true
  · rw [if_pos c1]; exact Or.inr (Or.inl ⟨a1.mpr c1, rfl⟩)
  rw [if_neg c1]; rw [← a1] at c1
  by_cases c2 : lnS 2 = lr gb N p - p ∧ eqL 2 gb p (lnS 2) = true
  · rw [if_pos c2]; exact Or.inr (Or.inr (Or.inl ⟨a2.mpr c2, rfl⟩))
  rw [if_neg c2]; rw [← a2] at c2
  by_cases c3 : lnS 3 = lr gb N p - p ∧ eqL 3 gb p (lnS 3) = true
  · rw [if_pos c3]; exact Or.inr (Or.inr (Or.inr (Or.inl ⟨a3.mpr c3, rfl⟩)))
  rw [if_neg c3]; rw [← a3] at c3
  by_cases c4 : lnS 4 = lr gb N p - p ∧ eqL 4 gb p (lnS 4) = true
  · rw [if_pos c4]; exact Or.inr (Or.inr (Or.inr (Or.inr (Or.inl ⟨a4.mpr c4, rfl⟩))))
  rw [if_neg c4]; rw [← a4] at c4
  exact Or.inr (Or.inr (Or.inr (Or.inr (Or.inr ⟨c0, c1, c2, c3, c4, rfl⟩))))
