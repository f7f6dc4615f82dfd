/-! Long.bitCount counts the bits -/
def ct (m : Nat) : Nat → Nat
  | 0 => 0
  | k + 1 => ct m k + (if m.testBit k then 1 else 0)
def M5 : Nat → Nat | 0 => 0 | k + 1 => 85 + 256 * M5 k
def M3 : Nat → Nat | 0 => 0 | k + 1 => 51 + 256 * M3 k
def MF : Nat → Nat | 0 => 0 | k + 1 => 15 + 256 * MF k
theorem and_dig {a b c d : Nat} (ha : a < 256) (hc : c < 256) : (a + 256 * b) &&& (c + 256 * d) = (a &&& c) + 256 * (b &&& d) := by
  have hac : a &&& c < 256 := Nat.lt_of_le_of_lt Nat.and_le_left ha
  apply Nat.eq_of_testBit_eq
  intro i
  rw [Nat.testBit_and]
  have e : ∀ x y : Nat, x < 256 → (x + 256 * y).testBit i = if i < 8 then x.testBit i else y.testBit (i - 8) := fun x y hx => by
    rw [Nat.add_comm, show 256 = 2 ^ 8 from rfl, Nat.testBit_two_pow_mul_add _ hx]
  rw [e _ _ ha, e _ _ hc, e _ _ hac]
  by_cases h : i < 8
  · simp [h]
  · simp [h]
/-- the three first steps at a byte -/
def p8 (b : Nat) : Nat := (let x := b - ((b / 2) &&& 85); let y := (x &&& 51) + ((x / 4) &&& 51); (y % 16) + y / 16)
def sA (k m : Nat) : Nat := m - ((m / 2) &&& M5 k)
def sB (k m : Nat) : Nat := (m &&& M3 k) + ((m / 4) &&& M3 k)
def sC (k m : Nat) : Nat := (m + m / 16) &&& MF k
def aA (b : Nat) : Nat := b - ((b / 2) &&& 85)
def aB (x : Nat) : Nat := (x &&& 51) + ((x / 4) &&& 51)
theorem and_mod {x y k : Nat} (hy : y < 2 ^ k) : (x % 2 ^ k) &&& y = x &&& y := by
  apply Nat.eq_of_testBit_eq
  intro i
  rw [Nat.testBit_and, Nat.testBit_and, Nat.testBit_mod_two_pow]
  by_cases h : i < k
  · simp [h]
  · have hz : y.testBit i = false := Nat.testBit_lt_two_pow (Nat.lt_of_lt_of_le hy (Nat.pow_le_pow_right (by decide) (by omega)))
    simp [hz]
theorem sA_dig (k b q : Nat) (hb : b < 256) : sA (k + 1) (b + 256 * q) = aA b + 256 * sA k q ∧ aA b < 256 := by
  have h1 : (b + 256 * q) / 2 = (b / 2 + 128 * (q % 2)) + 256 * (q / 2) := by omega
  have h2 : (b / 2 + 128 * (q % 2)) < 256 := by omega
  have h3 : (b / 2 + 128 * (q % 2)) &&& 85 = (b / 2) &&& 85 := by
    rw [← and_mod (k := 7) (by decide : 85 < 2 ^ 7), show (b / 2 + 128 * (q % 2)) % 2 ^ 7 = b / 2 by have : (2 : Nat) ^ 7 = 128 := rfl; omega]
  have h4 : (b / 2) &&& 85 ≤ b := Nat.le_trans Nat.and_le_left (by omega)
  have h5 : (q / 2) &&& M5 k ≤ q := Nat.le_trans Nat.and_le_left (by omega)
  refine ⟨?_, by unfold aA; omega⟩
  unfold sA aA
  rw [h1, M5, and_dig h2 (by decide), h3]
  omega
theorem sB_dig (k b q : Nat) (hb : b < 256) : sB (k + 1) (b + 256 * q) = aB b + 256 * sB k q ∧ aB b < 256 := by
  have h1 : (b + 256 * q) / 4 = (b / 4 + 64 * (q % 4)) + 256 * (q / 4) := by omega
  have h2 : (b / 4 + 64 * (q % 4)) < 256 := by omega
  have h3 : (b / 4 + 64 * (q % 4)) &&& 51 = (b / 4) &&& 51 := by
    rw [← and_mod (k := 6) (by decide : 51 < 2 ^ 6), show (b / 4 + 64 * (q % 4)) % 2 ^ 6 = b / 4 by have : (2 : Nat) ^ 6 = 64 := rfl; omega]
  have h4 : b &&& 51 ≤ 51 := Nat.and_le_right
  have h5 : (b / 4) &&& 51 ≤ 51 := Nat.and_le_right
  refine ⟨?_, by unfold aB; omega⟩
  unfold sB aB
  rw [h1, M3, and_dig h2 (by decide), and_dig hb (by decide), h3]
  omega
/-- every nibble at most 4 -/
def nib : Nat → Nat → Prop
  | 0, m => m = 0
  | k + 1, m => m % 16 ≤ 4 ∧ m / 16 % 16 ≤ 4 ∧ nib k (m / 256)
theorem sC_dig (k b q : Nat) (hb : b < 256) (h1 : b % 16 ≤ 4) (h2 : b / 16 ≤ 4) (h3 : q % 16 ≤ 4) : sC (k + 1) (b + 256 * q) = (b % 16 + b / 16) + 256 * sC k q := by
  have e1 : (b + 256 * q) + (b + 256 * q) / 16 = (b + b / 16 + 16 * (q % 16)) + 256 * (q + q / 16) := by omega
  have e2 : b + b / 16 + 16 * (q % 16) < 256 := by omega
  have e3 : (b + b / 16 + 16 * (q % 16)) &&& 15 = b % 16 + b / 16 := by
    have h := Nat.and_two_pow_sub_one_eq_mod (b + b / 16 + 16 * (q % 16)) 4
    have h4 : (2 : Nat) ^ 4 = 16 := rfl
    rw [h4] at h
    have h5 : (16 - 1 : Nat) = 15 := rfl
    rw [h5] at h
    rw [h]
    omega
  unfold sC
  rw [e1, MF, and_dig e2 (by decide), e3]
theorem aB_nib : ∀ b, b < 256 → aB (aA b) % 16 ≤ 4 ∧ aB (aA b) / 16 ≤ 4 ∧ aB (aA b) < 256 ∧ aA b < 256 ∧ aB (aA b) % 16 + aB (aA b) / 16 = ct b 8 ∧ ct b 8 ≤ 8 := by decide +kernel
/-- the bytes' counts, laid side by side -/
def cw : Nat → Nat → Nat
  | 0, _ => 0
  | k + 1, m => ct (m % 256) 8 + 256 * cw k (m / 256)
theorem swar (k : Nat) : ∀ m, m < 256 ^ k → sC k (sB k (sA k m)) = cw k m ∧ sB k (sA k m) % 16 ≤ 4 := by
  induction k with
  | zero =>
    intro m hm
    have h : m = 0 := by have : (256 : Nat) ^ 0 = 1 := rfl; omega
    subst h
    decide
  | succ k ih =>
    intro m hm
    have hq : m / 256 < 256 ^ k := by rw [Nat.div_lt_iff_lt_mul (by decide)]; rw [Nat.pow_succ] at hm; exact hm
    obtain ⟨i1, i2⟩ := ih (m / 256) hq
    have hb : m % 256 < 256 := Nat.mod_lt _ (by decide)
    have e : m = m % 256 + 256 * (m / 256) := by omega
    obtain ⟨a1, a2, a3, a4, a5, a6⟩ := aB_nib _ hb
    have s1 := (sA_dig k (m % 256) (m / 256) hb).1
    rw [← e] at s1
    have s2 := (sB_dig k (aA (m % 256)) (sA k (m / 256)) a4).1
    rw [s1, s2, sC_dig k _ _ a3 a1 a2 i2, i1, a5]
    exact ⟨rfl, by omega⟩
theorem ct_low (m k n : Nat) (h : n ≤ k) : ct (m % 2 ^ k) n = ct m n := by
  induction n with
  | zero => rfl
  | succ n ih => rw [ct, ct, ih (by omega), Nat.testBit_mod_two_pow]; simp [show n < k by omega]
theorem ct_cat (m k : Nat) : ∀ n, ct m (k + n) = ct m k + ct (m / 2 ^ k) n := by
  intro n
  induction n with
  | zero => rfl
  | succ n ih => rw [Nat.add_succ, ct, ih, ct, Nat.testBit_div_two_pow, Nat.add_comm k n]; omega
theorem ct_le (m : Nat) : ∀ n, ct m n ≤ n := by
  intro n
  induction n with
  | zero => exact Nat.le_refl 0
  | succ n ih => rw [ct]; split <;> omega
def pcD (m : Nat) : Nat := (let a := m + m / 256; let b := a + a / 65536; b + b / 4294967296)
theorem pcD_sum (a0 a1 a2 a3 a4 a5 a6 a7 : Nat) (h0 : a0 ≤ 8) (h1 : a1 ≤ 8) (h2 : a2 ≤ 8) (h3 : a3 ≤ 8) (h4 : a4 ≤ 8) (h5 : a5 ≤ 8) (h6 : a6 ≤ 8) (h7 : a7 ≤ 8) :
    pcD (a0 + 256 * (a1 + 256 * (a2 + 256 * (a3 + 256 * (a4 + 256 * (a5 + 256 * (a6 + 256 * (a7 + 256 * 0)))))))) % 128 = a0 + a1 + a2 + a3 + a4 + a5 + a6 + a7 := by
  unfold pcD
  dsimp only
  obtain ⟨T7, e7⟩ : ∃ T7, T7 = a7 + 256 * 0 := ⟨_, rfl⟩
  obtain ⟨T6, e6⟩ : ∃ T6, T6 = a6 + 256 * T7 := ⟨_, rfl⟩
  obtain ⟨T5, e5⟩ : ∃ T5, T5 = a5 + 256 * T6 := ⟨_, rfl⟩
  obtain ⟨T4, e4⟩ : ∃ T4, T4 = a4 + 256 * T5 := ⟨_, rfl⟩
  obtain ⟨T3, e3⟩ : ∃ T3, T3 = a3 + 256 * T4 := ⟨_, rfl⟩
  obtain ⟨T2, e2⟩ : ∃ T2, T2 = a2 + 256 * T3 := ⟨_, rfl⟩
  obtain ⟨T1, e1⟩ : ∃ T1, T1 = a1 + 256 * T2 := ⟨_, rfl⟩
  rw [← e7, ← e6, ← e5, ← e4, ← e3, ← e2, ← e1]
  have d1 : (a0 + 256 * T1) / 256 = T1 := by omega
  rw [d1]
  have d2 : (a0 + 256 * T1 + T1) / 65536 = T2 + T3 := by omega
  rw [d2]
  have d3 : (a0 + 256 * T1 + T1 + (T2 + T3)) / 4294967296 = T4 + T5 + T6 + T7 := by omega
  rw [d3]
  omega
theorem pc_ok (m : Nat) (hm : m < 256 ^ 8) : pcD (sC 8 (sB 8 (sA 8 m))) % 128 = ct m 64 := by
  rw [(swar 8 m hm).1]
  have q : ∀ b, b % 256 < 256 := fun b => Nat.mod_lt _ (by decide)
  have L : ∀ x, ct (x % 256) 8 = ct x 8 := fun x => ct_low x 8 8 (Nat.le_refl _)
  have B : ∀ x, ct x 8 ≤ 8 := fun x => ct_le x 8
  simp only [cw]
  rw [pcD_sum _ _ _ _ _ _ _ _ (ct_le _ 8) (ct_le _ 8) (ct_le _ 8) (ct_le _ 8) (ct_le _ 8) (ct_le _ 8) (ct_le _ 8) (ct_le _ 8)]
  simp only [L]
  have c1 : ct (m) 64 = ct (m) 8 + ct (m / 256) 56 := ct_cat (m) 8 56
  have c2 : ct (m / 256) 56 = ct (m / 256) 8 + ct (m / 256 / 256) 48 := ct_cat (m / 256) 8 48
  have c3 : ct (m / 256 / 256) 48 = ct (m / 256 / 256) 8 + ct (m / 256 / 256 / 256) 40 := ct_cat (m / 256 / 256) 8 40
  have c4 : ct (m / 256 / 256 / 256) 40 = ct (m / 256 / 256 / 256) 8 + ct (m / 256 / 256 / 256 / 256) 32 := ct_cat (m / 256 / 256 / 256) 8 32
  have c5 : ct (m / 256 / 256 / 256 / 256) 32 = ct (m / 256 / 256 / 256 / 256) 8 + ct (m / 256 / 256 / 256 / 256 / 256) 24 := ct_cat (m / 256 / 256 / 256 / 256) 8 24
  have c6 : ct (m / 256 / 256 / 256 / 256 / 256) 24 = ct (m / 256 / 256 / 256 / 256 / 256) 8 + ct (m / 256 / 256 / 256 / 256 / 256 / 256) 16 := ct_cat (m / 256 / 256 / 256 / 256 / 256) 8 16
  have c7 : ct (m / 256 / 256 / 256 / 256 / 256 / 256) 16 = ct (m / 256 / 256 / 256 / 256 / 256 / 256) 8 + ct (m / 256 / 256 / 256 / 256 / 256 / 256 / 256) 8 := ct_cat (m / 256 / 256 / 256 / 256 / 256 / 256) 8 8
  omega
