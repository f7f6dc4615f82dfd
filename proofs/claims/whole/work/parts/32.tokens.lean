/-! tokens of a text, and what a text tells -/
def skL (gb : Nat → Nat) (N : Nat) : Nat → Nat → Nat
  | 0, i => i
  | f + 1, i => if i < N ∧ gb i = 32 then skL gb N f (i + 1) else i
def sk (gb : Nat → Nat) (N i : Nat) : Nat := skL gb N (N - i) i
theorem skL_yes {gb : Nat → Nat} {N i : Nat} (h : i < N) (h2 : gb i = 32) : skL gb N (N - i) i = skL gb N (N - (i + 1)) (i + 1) := by
  obtain ⟨f, hf⟩ : ∃ f, N - i = f + 1 := ⟨N - i - 1, by omega⟩
  rw [hf, show N - (i + 1) = f by omega, skL, if_pos ⟨h, h2⟩]
theorem skL_no {gb : Nat → Nat} {N i : Nat} (h : ¬ (i < N ∧ gb i = 32)) : skL gb N (N - i) i = i := by
  cases hf : N - i with
  | zero => rfl
  | succ f => rw [skL, if_neg h]
theorem skL_ge (gb : Nat → Nat) (N : Nat) : ∀ f i, i ≤ skL gb N f i := by
  intro f
  induction f with
  | zero => intro i; exact Nat.le_refl _
  | succ f ih =>
    intro i
    rw [skL]
    split
    · exact Nat.le_trans (Nat.le_succ i) (ih (i + 1))
    · exact Nat.le_refl _
theorem skL_le (gb : Nat → Nat) (N : Nat) : ∀ f i, i ≤ N → skL gb N f i ≤ N := by
  intro f
  induction f with
  | zero => intro i h; exact h
  | succ f ih =>
    intro i h
    rw [skL]
    split
    · exact ih (i + 1) (by omega)
    · exact h
theorem sk_ge (gb : Nat → Nat) (N i : Nat) : i ≤ sk gb N i := skL_ge gb N _ i
theorem sk_le (gb : Nat → Nat) {N i : Nat} (h : i ≤ N) : sk gb N i ≤ N := skL_le gb N _ i h
/-- where a run of letters, of figures ends -/
def lrL (gb : Nat → Nat) (N : Nat) : Nat → Nat → Nat
  | 0, i => i
  | f + 1, i => if i < N ∧ 97 ≤ gb i ∧ gb i ≤ 122 then lrL gb N f (i + 1) else i
def lr (gb : Nat → Nat) (N i : Nat) : Nat := lrL gb N (N - i) i
def drL (gb : Nat → Nat) (N : Nat) : Nat → Nat → Nat
  | 0, i => i
  | f + 1, i => if i < N ∧ 48 ≤ gb i ∧ gb i ≤ 57 then drL gb N f (i + 1) else i
def dr (gb : Nat → Nat) (N i : Nat) : Nat := drL gb N (N - i) i
theorem lrL_yes {gb : Nat → Nat} {N i : Nat} (h : i < N ∧ 97 ≤ gb i ∧ gb i ≤ 122) : lrL gb N (N - i) i = lrL gb N (N - (i + 1)) (i + 1) := by
  obtain ⟨f, hf⟩ : ∃ f, N - i = f + 1 := ⟨N - i - 1, by omega⟩
  rw [hf, show N - (i + 1) = f by omega, lrL, if_pos h]
theorem lrL_no {gb : Nat → Nat} {N i : Nat} (h : ¬ (i < N ∧ 97 ≤ gb i ∧ gb i ≤ 122)) : lrL gb N (N - i) i = i := by
  cases hf : N - i with
  | zero => rfl
  | succ f => rw [lrL, if_neg h]
theorem drL_yes {gb : Nat → Nat} {N i : Nat} (h : i < N ∧ 48 ≤ gb i ∧ gb i ≤ 57) : drL gb N (N - i) i = drL gb N (N - (i + 1)) (i + 1) := by
  obtain ⟨f, hf⟩ : ∃ f, N - i = f + 1 := ⟨N - i - 1, by omega⟩
  rw [hf, show N - (i + 1) = f by omega, drL, if_pos h]
theorem drL_no {gb : Nat → Nat} {N i : Nat} (h : ¬ (i < N ∧ 48 ≤ gb i ∧ gb i ≤ 57)) : drL gb N (N - i) i = i := by
  cases hf : N - i with
  | zero => rfl
  | succ f => rw [drL, if_neg h]
theorem lrL_ge (gb : Nat → Nat) (N : Nat) : ∀ f i, i ≤ lrL gb N f i ∧ (i ≤ N → lrL gb N f i ≤ N) := by
  intro f
  induction f with
  | zero => intro i; exact ⟨Nat.le_refl _, id⟩
  | succ f ih =>
    intro i
    rw [lrL]
    split
    · have h := ih (i + 1); exact ⟨by omega, fun _ => h.2 (by omega)⟩
    · exact ⟨Nat.le_refl _, id⟩
theorem drL_ge (gb : Nat → Nat) (N : Nat) : ∀ f i, i ≤ drL gb N f i ∧ (i ≤ N → drL gb N f i ≤ N) := by
  intro f
  induction f with
  | zero => intro i; exact ⟨Nat.le_refl _, id⟩
  | succ f ih =>
    intro i
    rw [drL]
    split
    · have h := ih (i + 1); exact ⟨by omega, fun _ => h.2 (by omega)⟩
    · exact ⟨Nat.le_refl _, id⟩
/-- a number, 100 where it is more than 99 -/
def mn (a b : Nat) : Nat := if b < a then b else a
def nmL (gb : Nat → Nat) (N : Nat) : Nat → Nat → Nat → Nat
  | 0, _, v => v
  | f + 1, i, v => if i < N ∧ 48 ≤ gb i ∧ gb i ≤ 57 then nmL gb N f (i + 1) (mn (v * 10 + gb i - 48) 100) else v
def nv (gb : Nat → Nat) (N p : Nat) : Nat := nmL gb N (N - (p + 1)) (p + 1) (gb p - 48)
theorem nmL_yes {gb : Nat → Nat} {N i v : Nat} (h : i < N ∧ 48 ≤ gb i ∧ gb i ≤ 57) : nmL gb N (N - i) i v = nmL gb N (N - (i + 1)) (i + 1) (mn (v * 10 + gb i - 48) 100) := by
  obtain ⟨f, hf⟩ : ∃ f, N - i = f + 1 := ⟨N - i - 1, by omega⟩
  rw [hf, show N - (i + 1) = f by omega, nmL, if_pos h]
theorem nmL_no {gb : Nat → Nat} {N i v : Nat} (h : ¬ (i < N ∧ 48 ≤ gb i ∧ gb i ≤ 57)) : nmL gb N (N - i) i v = v := by
  cases hf : N - i with
  | zero => rfl
  | succ f => rw [nmL, if_neg h]
theorem mn_le (a b : Nat) : mn a b ≤ b := by unfold mn; split <;> omega
theorem nmL_le (gb : Nat → Nat) (N : Nat) : ∀ f i v, v ≤ 100 → nmL gb N f i v ≤ 100 := by
  intro f
  induction f with
  | zero => intro i v h; exact h
  | succ f ih =>
    intro i v h
    rw [nmL]
    split
    · exact ih _ _ (mn_le _ _)
    · exact h
/-- tokens: 0 .. 4 the words, 5 a number, 6 the stop, 7 the end, 8 none -/
def wdC (gb : Nat → Nat) (p e : Nat) : Nat :=
  if lnS 0 = e - p ∧ eqL 0 gb p (lnS 0) = true then 0 else if lnS 1 = e - p ∧ eqL 1 gb p (lnS 1) = true then 1 else if lnS 2 = e - p ∧ eqL 2 gb p (lnS 2) = true then 2
  else if lnS 3 = e - p ∧ eqL 3 gb p (lnS 3) = true then 3 else if lnS 4 = e - p ∧ eqL 4 gb p (lnS 4) = true then 4 else 8
def nbC (gb : Nat → Nat) (N p : Nat) : Nat := if 99 < nv gb N p ∨ (gb p = 48 ∧ 1 < dr gb N (p + 1) - p) then 8 else 5
def tk (gb : Nat → Nat) (N p : Nat) : Nat :=
  if N ≤ p then 7 else if gb p = 59 then 6 else if 97 ≤ gb p ∧ gb p ≤ 122 then wdC gb p (lr gb N (p + 1)) else if 48 ≤ gb p ∧ gb p ≤ 57 then nbC gb N p else 8
def te (gb : Nat → Nat) (N p : Nat) : Nat :=
  if N ≤ p then p + 1 else if 97 ≤ gb p ∧ gb p ≤ 122 then lr gb N (p + 1) else if 48 ≤ gb p ∧ gb p ≤ 57 then dr gb N (p + 1) else p + 1
def nq (gb : Nat → Nat) (N p q : Nat) : Nat := if N ≤ p then q else if 48 ≤ gb p ∧ gb p ≤ 57 then nv gb N p else q
theorem wdC_le (gb : Nat → Nat) (p e : Nat) : wdC gb p e ≤ 8 ∧ wdC gb p e ≠ 5 ∧ wdC gb p e ≠ 6 ∧ wdC gb p e ≠ 7 := by
  unfold wdC
  repeat' split
  all_goals omega
theorem nbC_le (gb : Nat → Nat) (N p : Nat) : nbC gb N p = 8 ∨ nbC gb N p = 5 := by
  unfold nbC
  split <;> omega
theorem te_gt (gb : Nat → Nat) (N p : Nat) : p + 1 ≤ te gb N p := by
  unfold te lr dr
  have h1 := (lrL_ge gb N (N - (p + 1)) (p + 1)).1
  have h2 := (drL_ge gb N (N - (p + 1)) (p + 1)).1
  repeat' split
  all_goals omega
theorem te_le {gb : Nat → Nat} {N p : Nat} (h : p < N) : te gb N p ≤ N := by
  unfold te lr dr
  have h1 := (lrL_ge gb N (N - (p + 1)) (p + 1)).2 h
  have h2 := (drL_ge gb N (N - (p + 1)) (p + 1)).2 h
  repeat' split
  all_goals omega
theorem tk_end {gb : Nat → Nat} {N p : Nat} : tk gb N p = 7 ↔ N ≤ p := by
  unfold tk
  constructor
  · intro h
    by_cases hN : N ≤ p
    · exact hN
    · rw [if_neg hN] at h
      have h1 := wdC_le gb p (lr gb N (p + 1))
      have h2 := nbC_le gb N p
      repeat' split at h
      all_goals omega
  · intro h; rw [if_pos h]
theorem tk_le (gb : Nat → Nat) (N p : Nat) : tk gb N p ≤ 8 := by
  unfold tk
  have h1 := wdC_le gb p (lr gb N (p + 1))
  have h2 := nbC_le gb N p
  repeat' split
  all_goals omega
/-- a number's value where the token is one -/
theorem tk_num {gb : Nat → Nat} {N p q : Nat} (h : tk gb N p = 5) : nq gb N p q = nv gb N p ∧ nv gb N p ≤ 99 ∧ p < N := by
  unfold tk at h
  have h1 := wdC_le gb p (lr gb N (p + 1))
  by_cases hN : N ≤ p
  · rw [if_pos hN] at h; omega
  · rw [if_neg hN] at h
    by_cases h59 : gb p = 59
    · rw [if_pos h59] at h; omega
    · rw [if_neg h59] at h
      by_cases hl : 97 ≤ gb p ∧ gb p ≤ 122
      · rw [if_pos hl] at h; omega
      · rw [if_neg hl] at h
        by_cases hd : 48 ≤ gb p ∧ gb p ≤ 57
        · rw [if_pos hd] at h
          unfold nq
          rw [if_neg hN, if_pos hd]
          unfold nbC at h
          split at h
          · omega
          · exact ⟨rfl, by omega, by omega⟩
        · rw [if_neg hd] at h; omega
/-- what a text tells: the fault's place, or what is told (a value and 1, 0: not told), how many folds, which, how many items -/
abbrev Res : Type := Nat ⊕ ((Nat → Nat) × Nat × (Nat → Nat) × Nat)
abbrev Kon : Type := Nat → (Nat → Nat) → Nat → (Nat → Nat) → Nat → Res
def pvT (t : Nat → Nat) : Nat := if t 0 = 0 then 5 else t 0 - 1
def pv1 (t : Nat → Nat) : Nat := if t 1 = 0 then 1 else t 1 - 1
def rS (gb : Nat → Nat) (N : Nat) (K : Kon) : Kon := fun z t nf ff it => if tk gb N (sk gb N z) = 6 then K (te gb N (sk gb N z)) t nf ff (it + 1) else .inl (sk gb N z)
def r2 (gb : Nat → Nat) (N : Nat) (K : Kon) (i : Nat) : Kon := fun z t nf ff it => if tk gb N (sk gb N z) = 5 ∧ nv gb N (sk gb N z) < nf + 3 ∧ nv gb N (sk gb N z) ≠ i then rS gb N K (te gb N (sk gb N z)) t (nf + 1) (va_up (va_up ff (2 * nf) i) (2 * nf + 1) (nv gb N (sk gb N z))) it else .inl (sk gb N z)
abbrev okT (k v : Nat) (t : Nat → Nat) : Prop := (k = 0 ∧ 3 ≤ v ∧ v ≤ 63 ∧ v % 2 = 1) ∨ (k = 1 ∧ 1 ≤ v ∧ v < pvT t) ∨ (k = 2 ∧ v ≤ 99) ∨ (k = 3 ∧ v ≤ 9)
def rN (gb : Nat → Nat) (N : Nat) (K : Kon) (k : Nat) : Kon := fun z t nf ff it =>
  if k = 4 then (if tk gb N (sk gb N z) = 5 ∧ nv gb N (sk gb N z) < nf + 3 then r2 gb N K (nv gb N (sk gb N z)) (te gb N (sk gb N z)) t nf ff it else .inl (sk gb N z))
  else (if tk gb N (sk gb N z) = 5 ∧ okT k (nv gb N (sk gb N z)) t then rS gb N K (te gb N (sk gb N z)) (va_up t k (nv gb N (sk gb N z) + 1)) nf ff it else .inl (sk gb N z))
abbrev wOk (k nf : Nat) (t : Nat → Nat) : Prop := (k = 4 ∧ nf < 20) ∨ (k < 4 ∧ nf = 0 ∧ t k = 0 ∧ (k = 0 → t 1 = 0))
def rW (gb : Nat → Nat) (N : Nat) : Nat → Kon
  | 0 => fun _ _ _ _ _ => .inl 0
  | f + 1 => fun z t nf ff it => if tk gb N (sk gb N z) = 7 then .inr (t, nf, ff, it) else
      (if wOk (tk gb N (sk gb N z)) nf t then rN gb N (rW gb N f) (tk gb N (sk gb N z)) (te gb N (sk gb N z)) t nf ff it else .inl (sk gb N z))
theorem x_min {a b : Nat} (ha : a < 2147483648) (hb : b < 2147483648) : (if nI b < nI a then nI b else nI a) = nI (mn a b) := by
  unfold mn
  by_cases h : b < a
  · rw [if_pos h, if_pos (by rw [i_lt, nI_toI ha, nI_toI hb]; omega)]
  · rw [if_neg h, if_neg (by rw [i_lt, nI_toI ha, nI_toI hb]; omega)]
theorem x_shl1 {k : Nat} (h : k < 31) : nI 1 <<< (nI k &&& 31) = nI (2 ^ k) := by
  have h1 : ∀ k, k < 31 → nI 1 <<< (nI k &&& 31) = nI (2 ^ k) := by decide +kernel
  exact h1 k h
