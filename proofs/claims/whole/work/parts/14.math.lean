/-! what the two programs count, as numbers -/
theorem ifT {α : Sort _} {c : Prop} [Decidable c] (h : c) {x y z : α} (e : z = x) : z = if c then x else y := by rw [if_pos h]; exact e
theorem ifF {α : Sort _} {c : Prop} [Decidable c] (h : ¬ c) {x y z : α} (e : z = y) : z = if c then x else y := by rw [if_neg h]; exact e
/-- the part that comes from a part by the rule -/
def gz (P j : Nat) : Nat := (if j % 2 = 0 then j else j + P) / 2
theorem gz_even {P j : Nat} (h : j % 2 = 0) : j / 2 = gz P j := by unfold gz; rw [if_pos h]
theorem gz_odd {P j : Nat} (h : j % 2 ≠ 0) : (j + P) / 2 = gz P j := by unfold gz; rw [if_neg h]
theorem gz_lt {P j : Nat} (h : j < P) : gz P j < P := by unfold gz; split <;> omega
theorem gz_pos {P j : Nat} (hP : 1 ≤ P) (h : 1 ≤ j) : 1 ≤ gz P j := by unfold gz; split <;> omega
/-- folds till one comes round, told as the class counts them -/
def faL (P j : Nat) : Nat → Nat → Nat → Nat
  | 0, _, k => k
  | f + 1, x, k => if x = j then k else faL P j f (gz P x) (k + 1)
def faX (P j : Nat) : Nat := faL P j 62 (gz P j) 1
theorem faL_hit {P j k : Nat} (f : Nat) : faL P j f j k = k := by cases f <;> simp [faL]
theorem faL_step {P j x k : Nat} (hk : k < 63) (h : ¬ x = j) : faL P j (63 - k) x k = faL P j (63 - (k + 1)) (gz P x) (k + 1) := by
  obtain ⟨f, hf⟩ : ∃ f, 63 - k = f + 1 := ⟨62 - k, by omega⟩
  rw [hf, show 63 - (k + 1) = f by omega, faL, if_neg h]
/-- the fewest folds to a part -/
def ffL (P j : Nat) : Nat → Nat → Nat → Int32
  | 0, _, _ => -9
  | f + 1, x, k => if x = j then nI k else ffL P j f (gz P x) (k + 1)
theorem ffL_hit {P j k : Nat} (f : Nat) : ffL P j (f + 1) j k = nI k := by simp [ffL]
theorem ffL_step {P j x k N : Nat} (hk : k < N) (h : ¬ x = j) : ffL P j (N - k) x k = ffL P j (N - (k + 1)) (gz P x) (k + 1) := by
  obtain ⟨f, hf⟩ : ∃ f, N - k = f + 1 := ⟨N - k - 1, by omega⟩
  rw [hf, show N - (k + 1) = f by omega, ffL, if_neg h]
/-- near -/
def nrL (o t : Nat) : Nat → Nat → Int32
  | 0, _ => -9
  | f + 1, k => if o * 1000 ≤ t * 2 ^ k then nI k else nrL o t f (k + 1)
theorem nrL_hit {o t k : Nat} (hk : k < 41) (h : o * 1000 ≤ t * 2 ^ k) : nrL o t (41 - k) k = nI k := by
  obtain ⟨f, hf⟩ : ∃ f, 41 - k = f + 1 := ⟨40 - k, by omega⟩
  rw [hf, nrL, if_pos h]
theorem nrL_step {o t k : Nat} (hk : k < 41) (h : ¬ o * 1000 ≤ t * 2 ^ k) : nrL o t (41 - k) k = nrL o t (41 - (k + 1)) (k + 1) := by
  obtain ⟨f, hf⟩ : ∃ f, 41 - k = f + 1 := ⟨40 - k, by omega⟩
  rw [hf, show 41 - (k + 1) = f by omega, nrL, if_neg h]
theorem pw40 {t k : Nat} (ht : t < 100000) (hk : k ≤ 40) : t * 2 ^ k < 4611686018427387904 := by
  have h1 : 2 ^ k ≤ 2 ^ 40 := Nat.pow_le_pow_right (by decide) hk
  have h2 : t * 2 ^ k ≤ 100000 * 2 ^ 40 := Nat.mul_le_mul (by omega) h1
  have h3 : (100000 * 2 ^ 40 : Nat) < 4611686018427387904 := by decide
  omega
def saysF (P : Nat) (z : Int) : Int32 := if 1 ≤ z ∧ z < (P : Int) then nI (z.toNat % 2) else -1
def roundF (P : Nat) (z : Int) : Int32 := if 1 ≤ z ∧ z < (P : Int) then nI (faX P z.toNat) else -1
def fewestX (P pt : Nat) (z : Int) : Int32 := if 1 ≤ z ∧ z < (P : Int) then ffL P z.toNat 63 pt 0 else -1
def nearF (o : Nat) (z : Int) : Int32 := if 0 ≤ z ∧ z ≤ 99999 then nrL o z.toNat 41 0 else -1
def toldF (a b c d : Nat) (z : Int) : Int32 := if z = 0 then nI a else if z = 1 then nI b else if z = 2 then nI c else if z = 3 then nI d else -1
theorem tNat (n : Nat) : ((n : Int)).toNat = n := Int.toNat_natCast n
/-- Euclid's steps: what stands at step k -/
theorem eu_step {x y k : Nat} (hy : 0 < y) (ho : k = 0 ∨ y < x) (h : x * y * 2 ^ k < 2 ^ 100) (h0 : k = 0 → x * y < 2 ^ 90) : y * (x % y) * 2 ^ (k + 1) < 2 ^ 100 := by
  have hm : x % y < y := Nat.mod_lt _ hy
  rcases ho with rfl | ho
  · have h1 : x % y ≤ x := Nat.mod_le _ _
    have h2 : y * (x % y) ≤ y * x := Nat.mul_le_mul_left _ h1
    have h3 := h0 rfl
    rw [Nat.mul_comm] at h2
    have h4 : (2 : Nat) ^ 90 = 1237940039285380274899124224 := by decide
    have h5 : (2 : Nat) ^ 100 = 1267650600228229401496703205376 := by decide
    have h6 : (2 : Nat) ^ (0 + 1) = 2 := by decide
    rw [h6, h5]
    rw [h4] at h3
    rw [Nat.mul_comm y x] at h2
    rw [Nat.mul_comm (x % y) y] at h2
    omega
  · have h1 : 2 * (x % y) ≤ x := by
      have hd := Nat.div_add_mod x y
      have h2 : 1 ≤ x / y := (Nat.le_div_iff_mul_le hy).mpr (by omega)
      have h3 : y * 1 ≤ y * (x / y) := Nat.mul_le_mul_left _ h2
      omega
    have h2 : y * (2 * (x % y)) ≤ y * x := Nat.mul_le_mul_left _ h1
    have h3 : y * (x % y) * 2 ^ (k + 1) = y * (2 * (x % y)) * 2 ^ k := by
      rw [Nat.pow_succ, Nat.mul_comm (2 ^ k) 2, ← Nat.mul_assoc, Nat.mul_assoc y (x % y) 2, Nat.mul_comm (x % y) 2]
    rw [h3]
    refine Nat.lt_of_le_of_lt (Nat.mul_le_mul_right _ h2) ?_
    rw [Nat.mul_comm y x]
    exact h
theorem eu_end {x y : Nat} (ho : y < x) (h : x * y * 2 ^ 100 < 2 ^ 100) : y = 0 := by
  rcases Nat.eq_zero_or_pos y with h0 | h0
  · exact h0
  · have h1 : 1 ≤ x * y := Nat.mul_pos (by omega) h0
    have h2 : 1 * 2 ^ 100 ≤ x * y * 2 ^ 100 := Nat.mul_le_mul_right _ h1
    omega
theorem eu_gcd (x y : Nat) : Nat.gcd y (x % y) = Nat.gcd x y := by rw [Nat.gcd_comm x y, Nat.gcd_rec y x, Nat.gcd_comm]
theorem eu_end2 {x y k : Nat} (hk : k = 100) (ho : k = 0 ∨ y < x) (h : x * y * 2 ^ k < 2 ^ 100) : y = 0 := by
  subst hk
  exact eu_end (ho.resolve_left (by decide)) h
theorem x_sumlt {a b : Nat} (ha : a < 1073741824) (hb : b < 1073741824) : a + b < 9223372036854775808 := by omega
/-- the part at which a crease is meant, or 0; told as a long, none as -9 -/
def pz (w : Nat) : Nat := if w % 1048576 = 0 then w / 1048576 else 0
def ptJ (w : Nat) : Int64 := if w % 1048576 = 0 then lN (w / 1048576) else -9
theorem pz_y {w : Nat} (h : w % 1048576 = 0) : w / 1048576 = pz w := by rw [pz, if_pos h]
theorem pz_n {w : Nat} (h : ¬ w % 1048576 = 0) : 0 = pz w := by rw [pz, if_neg h]
def creaseF (n P : Nat) (gw go gh : Nat → Nat) (k a : Int) : Int64 :=
  if (0 ≤ k ∧ k < (n : Int)) ∧ 0 ≤ a ∧ a ≤ 6 then
    (if a = 0 then lN (gw k.toNat / Nat.gcd (gw k.toNat) (P * 1048576)) else if a = 1 then lN (P * 1048576 / Nat.gcd (gw k.toNat) (P * 1048576))
     else if a = 2 then lN (go k.toNat / Nat.gcd (go k.toNat) 1048576) else if a = 3 then lN (1048576 / Nat.gcd (go k.toNat) 1048576)
     else if a = 4 then lN (gh k.toNat / Nat.gcd (gh k.toNat) 1048576) else if a = 5 then lN (1048576 / Nat.gcd (gh k.toNat) 1048576) else ptJ (gw k.toNat)) else -1
def countF (n nl ns nb : Nat) (a : Int) : Int32 := if a = 0 then nI n else if a = 1 then nI nl else if a = 2 then nI ns else if a = 3 then nI nb else -1
/-- a byte of a long, and what typing lays down -/
def by8 (v : Int64) (k : Nat) : Nat := ((v >>> ((nI (8 * k)).toInt64 &&& 63)) &&& lN 255).toBitVec.toNat
theorem lN_tn (x : Int64) : lN x.toBitVec.toNat = x := wb_inj (by rw [wb_tb]; simp)
theorem by8_ok (v : Int64) (k : Nat) : (v >>> ((nI (8 * k)).toInt64 &&& 63)) &&& lN 255 = lN (by8 v k) := (lN_tn _).symm
theorem by8_lt (v : Int64) (k : Nat) : by8 v k < 256 := by
  unfold by8
  rw [Int64.toBitVec_and, BitVec.toNat_and]
  have h : (lN 255).toBitVec.toNat = 255 := wb_tn (by decide)
  rw [h]
  exact Nat.lt_of_le_of_lt Nat.and_le_right (by decide)
def tyR (v : Int64) : Nat → (Nat → Nat) → Nat → (Nat → Nat)
  | 0, g, _ => g
  | k + 1, g, z => tyR v k (va_up g z (by8 v k)) (z + 1)
theorem x_m1 {n : Nat} (h : n < 2147483648) : (nI n + (-1)).toInt = ((n : Nat) : Int) - 1 := by
  have h1 : (-1 : Int32).toInt = -1 := by decide
  have h2 : (nI n).toInt = (n : Int) := nI_toI h
  have h3 : (nI n + (-1)).toInt = (nI n).toInt + (-1 : Int32).toInt := by
    rw [Int32.toInt_add]
    rw [h1, h2, Int.bmod_def]
    split <;> omega
  omega
theorem x_subm1 (n : Nat) : nI n - nI 1 = nI n + (-1) := by
  have h : nI 1 = (1 : Int32) := rfl
  rw [h, Int32.sub_eq_add_neg]
theorem x_decm1 (n : Nat) : nI n + Int32.ofInt (-1) = nI n + (-1) := rfl
