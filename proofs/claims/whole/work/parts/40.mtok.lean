/-! the reference's tokens -/
def w32 (gb : Nat → Nat) (p : Nat) : Nat → Nat
  | 0 => 0
  | k + 1 => 32 * w32 gb p k + gb (p + k) - 96
def nmM (gb : Nat → Nat) (N p : Nat) : Nat → Nat → Nat → Nat
  | 0, _, v => v
  | f + 1, i, v => if i < N ∧ 48 ≤ gb i ∧ gb i ≤ 57 then nmM gb N p f (i + 1) (if i - p < 2 then 10 * v + gb i - 48 else 1000) else v
theorem nmM_yes {gb : Nat → Nat} {N p i v : Nat} (h : i < N ∧ 48 ≤ gb i ∧ gb i ≤ 57) : nmM gb N p (N - i) i v = nmM gb N p (N - (i + 1)) (i + 1) (if i - p < 2 then 10 * v + gb i - 48 else 1000) := by
  obtain ⟨f, hf⟩ : ∃ f, N - i = f + 1 := ⟨N - i - 1, by omega⟩
  rw [hf, show N - (i + 1) = f by omega, nmM, if_pos h]
theorem nmM_no {gb : Nat → Nat} {N p i v : Nat} (h : ¬ (i < N ∧ 48 ≤ gb i ∧ gb i ≤ 57)) : nmM gb N p (N - i) i v = v := by
  cases hf : N - i with
  | zero => rfl
  | succ f => rw [nmM, if_neg h]
def nvM (gb : Nat → Nat) (N p : Nat) : Nat := nmM gb N p (N - p) p 0
def kdM (gb : Nat → Nat) (N p : Nat) : Nat := if N ≤ p then 0 else if 97 ≤ gb p ∧ gb p ≤ 122 then 1 else if 48 ≤ gb p ∧ gb p ≤ 57 then (if gb p = 48 ∧ 1 < dr gb N p - p then 4 else 2) else if gb p = 59 then 3 else 4
def vlM (gb : Nat → Nat) (N p : Nat) : Int64 := if N ≤ p then 0 else if 97 ≤ gb p ∧ gb p ≤ 122 then (if lr gb N p - p ≤ 6 then lN (w32 gb p (lr gb N p - p)) else -1) else if 48 ≤ gb p ∧ gb p ≤ 57 then lN (nvM gb N p) else 0
def atM (gb : Nat → Nat) (N p : Nat) : Nat := if N ≤ p then p else if 97 ≤ gb p ∧ gb p ≤ 122 then lr gb N p else if 48 ≤ gb p ∧ gb p ≤ 57 then dr gb N p else if gb p = 59 then p + 1 else p
theorem lr_step {gb : Nat → Nat} {N p : Nat} (h : p < N ∧ 97 ≤ gb p ∧ gb p ≤ 122) : lr gb N p = lr gb N (p + 1) := lrL_yes h
theorem dr_step {gb : Nat → Nat} {N p : Nat} (h : p < N ∧ 48 ≤ gb p ∧ gb p ≤ 57) : dr gb N p = dr gb N (p + 1) := drL_yes h
theorem drL_digit {gb : Nat → Nat} {N : Nat} : ∀ f i j, i ≤ j → j < drL gb N f i → j < N ∧ 48 ≤ gb j ∧ gb j ≤ 57 := by
  intro f
  induction f with
  | zero => intro i j h1 h2; exact absurd h2 (by simp only [drL]; omega)
  | succ f ih =>
    intro i j h1 h2
    rw [drL] at h2
    split at h2
    · rename_i h
      rcases Nat.lt_or_eq_of_le h1 with h3 | h3
      · exact ih (i + 1) j h3 h2
      · subst h3; exact h
    · omega
theorem lrL_letter {gb : Nat → Nat} {N : Nat} : ∀ f i j, i ≤ j → j < lrL gb N f i → j < N ∧ 97 ≤ gb j ∧ gb j ≤ 122 := by
  intro f
  induction f with
  | zero => intro i j h1 h2; exact absurd h2 (by simp only [lrL]; omega)
  | succ f ih =>
    intro i j h1 h2
    rw [lrL] at h2
    split at h2
    · rename_i h
      rcases Nat.lt_or_eq_of_le h1 with h3 | h3
      · exact ih (i + 1) j h3 h2
      · subst h3; exact h
    · omega
theorem dr_out {gb : Nat → Nat} {N i : Nat} : ¬ (dr gb N i < N ∧ 48 ≤ gb (dr gb N i) ∧ gb (dr gb N i) ≤ 57) := by
  have h : ∀ f i, N - i ≤ f → ¬ (drL gb N f i < N ∧ 48 ≤ gb (drL gb N f i) ∧ gb (drL gb N f i) ≤ 57) := by
    intro f
    induction f with
    | zero => intro i hi h; simp only [drL] at h; omega
    | succ f ih =>
      intro i hi
      rw [drL]
      split
      · exact ih (i + 1) (by omega)
      · rename_i h; exact h
  exact h _ i (Nat.le_refl _)
/-- a number of both: what it is where it has one figure, two, more -/
theorem num_1 {gb : Nat → Nat} {N p : Nat} (h : p < N ∧ 48 ≤ gb p ∧ gb p ≤ 57) (he : dr gb N p = p + 1) : nvM gb N p = gb p - 48 ∧ nv gb N p = gb p - 48 := by
  have ho := dr_out (gb := gb) (N := N) (i := p)
  rw [he] at ho
  refine ⟨?_, ?_⟩
  · unfold nvM; rw [nmM_yes h, nmM_no ho]; simp
  · unfold nv; rw [nmL_no ho]
theorem num_2 {gb : Nat → Nat} {N p : Nat} (h : p < N ∧ 48 ≤ gb p ∧ gb p ≤ 57) (he : dr gb N p = p + 2) : nvM gb N p = 10 * (gb p - 48) + gb (p + 1) - 48 ∧ nv gb N p = 10 * (gb p - 48) + gb (p + 1) - 48 := by
  have ho := dr_out (gb := gb) (N := N) (i := p)
  have h1 := drL_digit (gb := gb) (N := N) (N - p) p (p + 1) (by omega) (by unfold dr at he; omega)
  rw [he] at ho
  refine ⟨?_, ?_⟩
  · unfold nvM; rw [nmM_yes h, nmM_yes h1, nmM_no ho, if_pos (by omega), if_pos (by omega)]; omega
  · unfold nv; rw [nmL_yes h1, nmL_no ho]; unfold mn; split <;> omega
theorem nmM_1000 {gb : Nat → Nat} {N p : Nat} : ∀ f i, p + 2 ≤ i → nmM gb N p f i 1000 = 1000 := by
  intro f
  induction f with
  | zero => intro i _; rfl
  | succ f ih =>
    intro i hi
    rw [nmM]
    split
    · rw [if_neg (by omega)]; exact ih _ (by omega)
    · rfl
theorem nmL_100 {gb : Nat → Nat} {N : Nat} : ∀ f i, nmL gb N f i 100 = 100 := by
  intro f
  induction f with
  | zero => intro i; rfl
  | succ f ih =>
    intro i
    rw [nmL]
    split
    · rw [show mn (100 * 10 + gb i - 48) 100 = 100 by unfold mn; split <;> omega]; exact ih _
    · rfl
theorem num_3 {gb : Nat → Nat} {N p : Nat} (h : p < N ∧ 48 ≤ gb p ∧ gb p ≤ 57) (he : p + 3 ≤ dr gb N p) : nvM gb N p = 1000 ∧ (gb p ≠ 48 → nv gb N p = 100) := by
  have h1 := drL_digit (gb := gb) (N := N) (N - p) p (p + 1) (by omega) (by unfold dr at he; omega)
  have h2 := drL_digit (gb := gb) (N := N) (N - p) p (p + 1 + 1) (by omega) (by unfold dr at he; omega)
  refine ⟨?_, fun h0 => ?_⟩
  · unfold nvM; rw [nmM_yes h, nmM_yes h1, nmM_yes h2, if_neg (show ¬ p + 1 + 1 - p < 2 by omega)]; exact nmM_1000 _ _ (by omega)
  · unfold nv
    rw [nmL_yes h1, nmL_yes h2]
    have e : mn (mn ((gb p - 48) * 10 + gb (p + 1) - 48) 100 * 10 + gb (p + 1 + 1) - 48) 100 = 100 := by
      unfold mn
      repeat' split
      all_goals omega
    rw [e]
    exact nmL_100 _ _
/-- a number as both take it -/
theorem tk5 {gb : Nat → Nat} {N p lo hi : Nat} (hh : hi ≤ 99) (hgb : ∀ q, gb q < 256) : (kdM gb N p = 2 ∧ (lo : Int) ≤ (vlM gb N p).toInt ∧ (vlM gb N p).toInt ≤ (hi : Int)) ↔ (tk gb N p = 5 ∧ lo ≤ nv gb N p ∧ nv gb N p ≤ hi) := by
  unfold kdM vlM tk
  have hw := wdC_le gb p (lr gb N (p + 1))
  by_cases hN : N ≤ p
  · simp only [if_pos hN]; omega
  · simp only [if_neg hN]
    by_cases hl : 97 ≤ gb p ∧ gb p ≤ 122
    · simp only [if_pos hl, if_neg (show ¬ gb p = 59 by omega)]; omega
    · simp only [if_neg hl]
      by_cases hd : 48 ≤ gb p ∧ gb p ≤ 57
      · simp only [if_pos hd, if_neg (show ¬ gb p = 59 by omega)]
        have hp : p < N ∧ 48 ≤ gb p ∧ gb p ≤ 57 := ⟨by omega, hd⟩
        have hdr := dr_step hp
        have hge := (drL_ge gb N (N - (p + 1)) (p + 1)).1
        have hge2 : p + 1 ≤ dr gb N p := by rw [hdr]; exact hge
        unfold nbC
        rw [← hdr]
        rcases (show dr gb N p = p + 1 ∨ dr gb N p = p + 2 ∨ p + 3 ≤ dr gb N p by omega) with e | e | e
        · obtain ⟨a1, a2⟩ := num_1 hp e
          rw [a1, a2, e, lN_toI (by omega), if_neg (by omega), if_neg (by omega)]
          omega
        · obtain ⟨a1, a2⟩ := num_2 hp e
          have := hgb (p + 1)
          have h1 := drL_digit (gb := gb) (N := N) (N - p) p (p + 1) (by omega) (by unfold dr at e; omega)
          rw [a1, a2, e, lN_toI (by omega)]
          by_cases h0 : gb p = 48
          · rw [if_pos (by omega), if_pos (by omega)]; omega
          · rw [if_neg (by omega), if_neg (by omega)]; omega
        · obtain ⟨a1, a2⟩ := num_3 hp e
          rw [a1, lN_toI (by omega)]
          by_cases h0 : gb p = 48
          · rw [if_pos (by omega), if_pos (by omega)]; omega
          · rw [a2 h0, if_neg (by omega), if_pos (by omega)]; omega
      · simp only [if_neg hd]
        by_cases h59 : gb p = 59
        · simp only [if_pos h59]; omega
        · simp only [if_neg h59]; omega
theorem tk5v {gb : Nat → Nat} {N p : Nat} (hgb : ∀ q, gb q < 256) (h : tk gb N p = 5) : vlM gb N p = lN (nv gb N p) ∧ atM gb N p = te gb N p ∧ nv gb N p ≤ 99 := by
  have hn := (tk_num (q := 0) h).2.1
  have h2 := (tk5 (lo := 0) (hi := 99) (Nat.le_refl _) hgb).mpr ⟨h, Nat.zero_le _, hn⟩
  have hk := h2.1
  unfold kdM at hk
  by_cases hN : N ≤ p
  · rw [if_pos hN] at hk; omega
  · rw [if_neg hN] at hk
    by_cases hl : 97 ≤ gb p ∧ gb p ≤ 122
    · rw [if_pos hl] at hk; omega
    · rw [if_neg hl] at hk
      by_cases hd : 48 ≤ gb p ∧ gb p ≤ 57
      · have hp : p < N ∧ 48 ≤ gb p ∧ gb p ≤ 57 := ⟨by omega, hd⟩
        have hdr := dr_step hp
        have hv : vlM gb N p = lN (nvM gb N p) := by unfold vlM; rw [if_neg hN, if_neg hl, if_pos hd]
        refine ⟨?_, ?_, hn⟩
        · rw [hv] at h2 ⊢
          have hge := (drL_ge gb N (N - (p + 1)) (p + 1)).1
          have hge2 : p + 1 ≤ dr gb N p := by rw [hdr]; exact hge
          rcases (show dr gb N p = p + 1 ∨ dr gb N p = p + 2 ∨ p + 3 ≤ dr gb N p by omega) with e | e | e
          · obtain ⟨a1, a2⟩ := num_1 hp e; rw [a1, a2]
          · obtain ⟨a1, a2⟩ := num_2 hp e; rw [a1, a2]
          · obtain ⟨a1, -⟩ := num_3 hp e; rw [a1, lN_toI (by omega)] at h2; omega
        · unfold atM te; rw [if_neg hN, if_neg hl, if_pos hd, if_neg hN, if_neg hl, if_pos hd, hdr]
      · rw [if_neg hd] at hk; split at hk <;> omega
theorem tk6 {gb : Nat → Nat} {N p : Nat} : kdM gb N p = 3 ↔ tk gb N p = 6 := by
  unfold kdM tk
  have hw := wdC_le gb p (lr gb N (p + 1))
  have hb := nbC_le gb N p
  by_cases hN : N ≤ p
  · rw [if_pos hN, if_pos hN]; omega
  · rw [if_neg hN, if_neg hN]
    by_cases hl : 97 ≤ gb p ∧ gb p ≤ 122
    · rw [if_pos hl, if_neg (by omega), if_pos hl]; omega
    · rw [if_neg hl]
      by_cases hd : 48 ≤ gb p ∧ gb p ≤ 57
      · rw [if_pos hd, if_neg (show ¬ gb p = 59 by omega), if_neg hl, if_pos hd]; split <;> omega
      · rw [if_neg hd]
        by_cases h59 : gb p = 59
        · rw [if_pos h59, if_pos h59]; omega
        · rw [if_neg h59, if_neg h59, if_neg hl, if_neg hd]; omega
theorem tk6a {gb : Nat → Nat} {N p : Nat} (h : tk gb N p = 6) : atM gb N p = te gb N p := by
  have hk := tk6.mpr h
  unfold kdM at hk
  by_cases hN : N ≤ p
  · rw [if_pos hN] at hk; omega
  · rw [if_neg hN] at hk
    by_cases hl : 97 ≤ gb p ∧ gb p ≤ 122
    · rw [if_pos hl] at hk; omega
    · rw [if_neg hl] at hk
      by_cases hd : 48 ≤ gb p ∧ gb p ≤ 57
      · rw [if_pos hd] at hk; split at hk <;> omega
      · rw [if_neg hd] at hk
        have h59 : gb p = 59 := by
          rcases Nat.decEq (gb p) 59 with e | e
          · rw [if_neg e] at hk; omega
          · exact e
        unfold atM te; rw [if_neg hN, if_neg hl, if_neg hd, if_pos h59, if_neg hN, if_neg hl, if_neg hd]
theorem tk7 {gb : Nat → Nat} {N p : Nat} : kdM gb N p = 0 ↔ tk gb N p = 7 := by
  rw [tk_end]
  unfold kdM
  by_cases hN : N ≤ p
  · rw [if_pos hN]; exact ⟨fun _ => hN, fun _ => rfl⟩
  · rw [if_neg hN]
    refine ⟨fun h => ?_, fun h => absurd h hN⟩
    repeat' split at h
    all_goals omega
/-- words -/
theorem kd1 {gb : Nat → Nat} {N p : Nat} (h : kdM gb N p = 1) : p < N ∧ 97 ≤ gb p ∧ gb p ≤ 122 := by
  unfold kdM at h
  by_cases hN : N ≤ p
  · rw [if_pos hN] at h; omega
  · rw [if_neg hN] at h
    by_cases hl : 97 ≤ gb p ∧ gb p ≤ 122
    · exact ⟨by omega, hl⟩
    · rw [if_neg hl] at h; repeat' split at h
      all_goals omega
theorem kd1n {gb : Nat → Nat} {N p : Nat} (h : ¬ kdM gb N p = 1) : 5 ≤ tk gb N p := by
  unfold kdM at h
  unfold tk
  have hb := nbC_le gb N p
  by_cases hN : N ≤ p
  · rw [if_pos hN]; omega
  · rw [if_neg hN] at h ⊢
    by_cases hl : 97 ≤ gb p ∧ gb p ≤ 122
    · rw [if_pos hl] at h; omega
    · rw [if_neg hl]; repeat' split
      all_goals omega
theorem w32_step (gb : Nat → Nat) (p k : Nat) : w32 gb p (k + 1) = 32 * w32 gb p k + gb (p + k) - 96 := rfl
theorem w32_pos {gb : Nat → Nat} {p : Nat} : ∀ k, (∀ j, j < k → 97 ≤ gb (p + j) ∧ gb (p + j) ≤ 122) → (0 < k → 0 < w32 gb p k) ∧ w32 gb p k < 32 ^ k := by
  intro k
  induction k with
  | zero => intro _; exact ⟨fun h => absurd h (Nat.lt_irrefl 0), Nat.one_pos⟩
  | succ k ih =>
    intro h
    have h1 := ih (fun j hj => h j (by omega))
    have h2 := h k (by omega)
    rw [w32_step, Nat.pow_succ]
    exact ⟨fun _ => by omega, by omega⟩
theorem w32_peel {gb : Nat → Nat} {p k C : Nat} (h : ∀ j, j < k + 1 → 97 ≤ gb (p + j) ∧ gb (p + j) ≤ 122) (e : w32 gb p (k + 1) = C) : gb (p + k) = C % 32 + 96 ∧ w32 gb p k = C / 32 := by
  have h2 := h k (by omega)
  rw [w32_step] at e
  omega
theorem eqL_4 {i : Nat} {gb : Nat → Nat} {p : Nat} (n : Nat) : eqL i gb p n = true ↔ ∀ k, k < n → (chI i k).toInt = (gb (p + k) : Int) := by
  induction n with
  | zero => exact ⟨fun _ k hk => absurd hk (Nat.not_lt_zero _), fun _ => rfl⟩
  | succ n ih =>
    rw [eqL, Bool.and_eq_true, decide_eq_true_eq, ih]
    constructor
    · intro h k hk
      rcases Nat.lt_or_eq_of_le (Nat.le_of_lt_succ hk) with h1 | h1
      · exact h.1 k h1
      · subst h1; exact h.2
    · intro h; exact ⟨fun k hk => h k (by omega), h n (by omega)⟩
