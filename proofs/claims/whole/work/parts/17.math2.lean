/-! more that the two programs count -/
theorem e63 : (2 : Nat) ^ 63 = 9223372036854775808 := by decide +kernel
theorem p2lt {x : Nat} (hx : x < 63) : 2 ^ x < 9223372036854775808 := by
  rw [← e63]
  exact Nat.pow_lt_pow_right (by decide) hx
theorem orr63 {c x : Nat} (hc : c < 9223372036854775808) (hx : x < 9223372036854775808) : c ||| x < 9223372036854775808 := by
  rw [← e63] at hc hx ⊢
  exact Nat.or_lt_two_pow hc hx
theorem or63 {c x : Nat} (hc : c < 9223372036854775808) (hx : x < 63) : c ||| 2 ^ x < 9223372036854775808 := orr63 hc (p2lt hx)
/-- the first letter that is wrong -/
def wlL (gl : Nat → Nat) (P : Nat) : Nat → Nat → Nat → Int32
  | 0, _, _ => -9
  | f + 1, i, x => if gl i = x % 2 then wlL gl P f (i + 1) (gz P x) else nI i
def wlF (gl : Nat → Nat) (nl P j : Nat) : Int32 := wlL gl P nl 0 j
theorem wlL_no {gl : Nat → Nat} {P N i x : Nat} (hi : i < N) (h : ¬ gl i = x % 2) : wlL gl P (N - i) i x = nI i := by
  obtain ⟨f, hf⟩ : ∃ f, N - i = f + 1 := ⟨N - i - 1, by omega⟩
  rw [hf, wlL, if_neg h]
theorem wlL_yes {gl : Nat → Nat} {P N i x : Nat} (hi : i < N) (h : gl i = x % 2) : wlL gl P (N - i) i x = wlL gl P (N - (i + 1)) (i + 1) (gz P x) := by
  obtain ⟨f, hf⟩ : ∃ f, N - i = f + 1 := ⟨N - i - 1, by omega⟩
  rw [hf, show N - (i + 1) = f by omega, wlL, if_pos h]
/-- for which strips letters are meant, as the class goes through them -/
def xmJ (gl : Nat → Nat) (nl P : Nat) : Nat → Nat → (Nat × Int32 × Int32) → (Nat × Int32 × Int32)
  | 0, _, t => t
  | f + 1, j, t => xmJ gl nl P f (j + 1) (if wlF gl nl P j = -9 then (t.1 + 1, if t.1 = 0 then nI P else t.2.1, if t.1 = 0 then nI j else t.2.2) else t)
def xmP (gl : Nat → Nat) (nl : Nat) : Nat → Nat → (Nat × Int32 × Int32) → (Nat × Int32 × Int32)
  | 0, _, t => t
  | f + 1, P, t => xmP gl nl f (P + 2) (xmJ gl nl P (P - 1) 1 t)
theorem xmJ_step {gl : Nat → Nat} {nl P j : Nat} {t : Nat × Int32 × Int32} (h : j < P) : xmJ gl nl P (P - j) j t = xmJ gl nl P (P - (j + 1)) (j + 1) (if wlF gl nl P j = -9 then (t.1 + 1, if t.1 = 0 then nI P else t.2.1, if t.1 = 0 then nI j else t.2.2) else t) := by
  obtain ⟨f, hf⟩ : ∃ f, P - j = f + 1 := ⟨P - j - 1, by omega⟩
  rw [hf, show P - (j + 1) = f by omega, xmJ]
def meantF (t : Nat × Int32 × Int32) (a : Int) : Int32 := if 0 ≤ a ∧ a ≤ 2 then (if a = 0 then nI t.1 else if a = 1 then t.2.1 else t.2.2) else -1
/-- in how many ways from a guess -/
def wfL (P S : Nat) : Nat → Nat → Nat → Nat → Nat
  | 0, _, _, w => w
  | f + 1, d, x, w => wfL P S f (d ||| 2 ^ x) (gz P x) (if d ||| 2 ^ x = S then w + 1 else w)
def wf (P S g : Nat) : Nat := wfL P S 21 0 g 0
theorem wfL_step {P S d x w k : Nat} (h : k < 21) : wfL P S (21 - k) d x w = wfL P S (21 - (k + 1)) (d ||| 2 ^ x) (gz P x) (if d ||| 2 ^ x = S then w + 1 else w) := by
  obtain ⟨f, hf⟩ : ∃ f, 21 - k = f + 1 := ⟨20 - k, by omega⟩
  rw [hf, show 21 - (k + 1) = f by omega, wfL]
theorem wfL_le (P S : Nat) : ∀ f d x w, wfL P S f d x w ≤ w + f := by
  intro f
  induction f with
  | zero => intro d x w; exact Nat.le_refl _
  | succ f ih =>
    intro d x w
    rw [wfL]
    refine Nat.le_trans (ih _ _ _) ?_
    split <;> omega
theorem wf_le (P S g : Nat) : wf P S g ≤ 21 := by have h := wfL_le P S 21 0 g 0; unfold wf; omega
def frX (P S : Nat) : Nat → Nat → (Nat × Int32) → (Nat × Int32)
  | 0, _, t => t
  | f + 1, g, t => frX P S f (g + 1) (t.1 + wf P S g, if 0 < wf P S g ∧ t.2 = -9 then nI g else t.2)
theorem frX_step {P S g : Nat} {t : Nat × Int32} (h : g < P) : frX P S (P - g) g t = frX P S (P - (g + 1)) (g + 1) (t.1 + wf P S g, if 0 < wf P S g ∧ t.2 = -9 then nI g else t.2) := by
  obtain ⟨f, hf⟩ : ∃ f, P - g = f + 1 := ⟨P - g - 1, by omega⟩
  rw [hf, show P - (g + 1) = f by omega, frX]
def fromF (t : Nat × Int32) (a : Int) : Int32 := if 0 ≤ a ∧ a ≤ 1 then (if a = 0 then nI t.1 else t.2) else -1
/-- the parts that were seen, as a set -/
def ssN (gs : Nat → Nat) : Nat → Nat
  | 0 => 0
  | k + 1 => ssN gs k ||| 2 ^ gs k
theorem ssN_lt {gs : Nat → Nat} (h : ∀ q, gs q < 63) : ∀ k, ssN gs k < 9223372036854775808 := by
  intro k
  induction k with
  | zero => exact Nat.lt_of_lt_of_le Nat.zero_lt_one (Nat.le_of_ble_eq_true rfl)
  | succ k ih => exact or63 ih (h k)
/-- rings and starts -/
def rgL (P : Nat) : Nat → Nat → Nat → Nat
  | 0, r, _ => r
  | f + 1, r, x => rgL P f (r ||| 2 ^ x) (gz P x)
theorem rgL_step {P r x k : Nat} (h : k < 63) : rgL P (63 - k) r x = rgL P (63 - (k + 1)) (r ||| 2 ^ x) (gz P x) := by
  obtain ⟨f, hf⟩ : ∃ f, 63 - k = f + 1 := ⟨62 - k, by omega⟩
  rw [hf, show 63 - (k + 1) = f by omega, rgL]
theorem rgL_lt {P : Nat} (hP : P ≤ 63) : ∀ f r x, r < 9223372036854775808 → x < P → rgL P f r x < 9223372036854775808 := by
  intro f
  induction f with
  | zero => intro r x hr _; exact hr
  | succ f ih => intro r x hr hx; exact ih _ _ (or63 hr (by omega)) (gz_lt hx)
def stL (P : Nat) : Nat → Nat → Nat → Nat → Nat
  | 0, _, _, n => n
  | f + 1, j, d, n => if d &&& 2 ^ j = 0 then stL P f (j + 1) (d ||| rgL P 63 0 j) (n + 1) else stL P f (j + 1) d n
theorem stL_yes {P j d n : Nat} (h : j < P) (hd : d &&& 2 ^ j = 0) : stL P (P - j) j d n = stL P (P - (j + 1)) (j + 1) (d ||| rgL P 63 0 j) (n + 1) := by
  obtain ⟨f, hf⟩ : ∃ f, P - j = f + 1 := ⟨P - j - 1, by omega⟩
  rw [hf, show P - (j + 1) = f by omega, stL, if_pos hd]
theorem stL_no {P j d n : Nat} (h : j < P) (hd : ¬ d &&& 2 ^ j = 0) : stL P (P - j) j d n = stL P (P - (j + 1)) (j + 1) d n := by
  obtain ⟨f, hf⟩ : ∃ f, P - j = f + 1 := ⟨P - j - 1, by omega⟩
  rw [hf, show P - (j + 1) = f by omega, stL, if_neg hd]
def startsX (P : Nat) : Nat := stL P (P - 1) 1 0 0
def comesX (P pt : Nat) (a : Int) : Int32 := if a = 0 then nI (faX P pt) else if a = 1 then nI (startsX P) else -1
/-- where one is who folds as the letters say -/
def gotR (gl : Nat → Nat) (P : Nat) : Nat → Nat → Nat → Nat
  | 0, _, x => x
  | f + 1, i, x => gotR gl P f (i + 1) ((x + gl i * (P * 1048576)) / 2)
theorem gotR_step {gl : Nat → Nat} {P N i x : Nat} (h : i < N) : gotR gl P (N - i) i x = gotR gl P (N - (i + 1)) (i + 1) ((x + gl i * (P * 1048576)) / 2) := by
  obtain ⟨f, hf⟩ : ∃ f, N - i = f + 1 := ⟨N - i - 1, by omega⟩
  rw [hf, show N - (i + 1) = f by omega, gotR]
def gotF (gl : Nat → Nat) (nl P pt : Nat) (a : Int) : Int64 := if 0 ≤ a ∧ a ≤ 1 then (if a = 0 then lN (gotR gl P nl 0 (pt * 1048576) / Nat.gcd (gotR gl P nl 0 (pt * 1048576)) (P * 1048576)) else lN (P * 1048576 / Nat.gcd (gotR gl P nl 0 (pt * 1048576)) (P * 1048576))) else -1
/-- creases at no part; parts with a crease, as a set -/
def wsN (gw : Nat → Nat) : Nat → Nat
  | 0 => 0
  | k + 1 => wsN gw k + (if gw (k + 2) % 1048576 = 0 then 0 else 1)
def metX (gw : Nat → Nat) (P : Nat) : Nat → Nat
  | 0 => 0
  | k + 1 => if gw (k + 2) % 1048576 = 0 ∧ 1 ≤ gw (k + 2) / 1048576 ∧ gw (k + 2) / 1048576 < P then metX gw P k ||| 2 ^ (gw (k + 2) / 1048576) else metX gw P k
theorem metX_lt {gw : Nat → Nat} {P : Nat} (hP : P ≤ 63) : ∀ k, metX gw P k < 9223372036854775808 := by
  intro k
  induction k with
  | zero => exact Nat.lt_of_lt_of_le Nat.zero_lt_one (Nat.le_of_ble_eq_true rfl)
  | succ k ih =>
    rw [metX]
    split
    · exact or63 ih (by omega)
    · exact ih
def wastedX (gw : Nat → Nat) (P n : Nat) (a : Int) : Int32 := if a = 0 then nI (wsN gw (n - 2)) else if a = 1 then nI (P - 1) - nI (ct (metX gw P (n - 2)) 64) else -1
theorem i_m9 {x : Int32} (h : x.toInt = -9) : x = -9 := (i_eq _ _).mpr (h.trans (by decide))
theorem i_n9 {x : Int32} (h : ¬ x.toInt = -9) : ¬ x = -9 := fun e => h (by rw [e]; decide)
