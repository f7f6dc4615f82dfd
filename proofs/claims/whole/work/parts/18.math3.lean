/-! what the reference counts -/
theorem x_iteC {P Q : Prop} [Decidable P] [Decidable Q] (h : P ↔ Q) : (if P then (1 : Int32) else 0) = if Q then 1 else 0 := by
  by_cases hp : P
  · rw [if_pos hp, if_pos (h.mp hp)]
  · rw [if_neg hp, if_neg (fun q => hp (h.mpr q))]
theorem lsh1 {m j : Nat} (hm : m < 18446744073709551616) (hj : j < 63) : (lN m >>> ((nI j).toInt64 &&& 63)) &&& lN 1 = lN (m / 2 ^ j % 2) := by
  rw [wb_c j (by omega)]
  apply wb_inj
  rw [Int64.toBitVec_and, Int64.toBitVec_shiftRight, wb_tb, wb_tb, wb_tb, wb_tb, wb_sm j (by omega)]
  apply BitVec.eq_of_getLsbD_eq
  intro i hi
  rw [BitVec.getLsbD_and]
  by_cases h0 : i = 0
  · subst h0
    rw [BitVec.sshiftRight_eq', BitVec.getLsbD_sshiftRight]
    simp only [BitVec.getLsbD_ofNat, BitVec.toNat_ofNat, Nat.mod_eq_of_lt (show j < 2 ^ 64 by omega)]
    simp only [show j + 0 < 64 by omega, decide_true, Bool.true_and, Nat.add_zero, show ¬ (64 ≤ 0) by omega, decide_false, Bool.not_false, if_true]
    rw [Nat.testBit_zero, Nat.testBit_zero]
    rw [Nat.testBit_eq_decide_div_mod_eq]
    by_cases hb : m / 2 ^ j % 2 = 1
    · simp [hb, show j < 64 by omega]
    · have hb2 : m / 2 ^ j % 2 = 0 := by omega
      simp [hb2]
      intro h
      omega
  · have e1 : (BitVec.ofNat 64 1).getLsbD i = false := by
      rw [BitVec.getLsbD_ofNat, show (1 : Nat) = 2 ^ 0 from rfl, Nat.testBit_two_pow]
      simp [show ¬ 0 = i by omega]
    have e2 : (BitVec.ofNat 64 (m / 2 ^ j % 2)).getLsbD i = false := by
      rw [BitVec.getLsbD_ofNat]
      have h2 : m / 2 ^ j % 2 < 2 ^ i := Nat.lt_of_lt_of_le (Nat.mod_lt _ (by decide)) (by
        have := Nat.pow_le_pow_right (show 0 < 2 by decide) (show 1 ≤ i by omega)
        omega)
      rw [Nat.testBit_lt_two_pow h2]
      simp
    rw [e1, e2, Bool.and_false]
theorem e64 : (2 : Nat) ^ 64 = 18446744073709551616 := by decide +kernel
theorem or64 {c x : Nat} (hc : c < 18446744073709551616) (hx : x < 64) : c ||| 2 ^ x < 18446744073709551616 := by
  rw [← e64] at hc ⊢
  exact Nat.or_lt_two_pow hc (Nat.pow_lt_pow_right (by decide) hx)
def metM (gw : Nat → Nat) : Nat → Nat
  | 0 => 0
  | k + 1 => if gw (k + 2) % 1048576 = 0 then metM gw k ||| 2 ^ (gw (k + 2) / 1048576) else metM gw k
theorem metM_lt {gw : Nat → Nat} (h : ∀ q, gw q ≤ 66060288) : ∀ k, metM gw k < 18446744073709551616 := by
  intro k
  induction k with
  | zero => exact Nat.lt_of_lt_of_le Nat.zero_lt_one (Nat.le_of_ble_eq_true rfl)
  | succ k ih =>
    rw [metM]
    split
    · exact or64 ih (by have := h (k + 2); omega)
    · exact ih
def msN (m : Nat) : Nat → Nat
  | 0 => 0
  | k + 1 => msN m k + (if m / 2 ^ (k + 1) % 2 = 0 then 1 else 0)
def wastedM (gw : Nat → Nat) (P n : Nat) (a : Int) : Int32 := if 0 ≤ a ∧ a ≤ 1 then (if a = 0 then nI (wsN gw (n - 2)) else nI (msN (metM gw (n - 2)) (P - 1))) else -1
def roundM (P : Nat) (z : Int) : Int32 := if 1 ≤ z ∧ z < (P : Int) then nI 1 + ffL P z.toNat P (gz P z.toNat) 0 else -1
def fewestM (P pt : Nat) (z : Int) : Int32 := if 1 ≤ z ∧ z < (P : Int) then ffL P z.toNat P pt 0 else -1
/-- a walk till a part is met -/
def wkL (P : Nat) : Nat → Nat → Nat → Nat
  | 0, m, _ => m
  | f + 1, m, k => if m / 2 ^ k % 2 = 0 then wkL P f (m ||| 2 ^ k) (gz P k) else m
theorem ct_or {m k : Nat} (h : m / 2 ^ k % 2 = 0) : ∀ n, ct (m ||| 2 ^ k) n = ct m n + (if k < n then 1 else 0) := by
  have hb : m.testBit k = false := by rw [Nat.testBit_eq_decide_div_mod_eq, h]; rfl
  intro n
  induction n with
  | zero => rfl
  | succ n ih =>
    rw [ct, ct, ih, Nat.testBit_or, Nat.testBit_two_pow]
    by_cases hk : k = n
    · subst hk
      simp [hb]
    · by_cases hn : k < n
      · simp [hk, hn, show k < n + 1 by omega]; omega
      · simp [hk, hn, show ¬ k < n + 1 by omega]
theorem ct_zero_lt {m k n : Nat} (h : m / 2 ^ k % 2 = 0) (hk : k < n) : ct m n < n := by
  have h1 := ct_or h n
  rw [if_pos hk] at h1
  have h2 := ct_le (m ||| 2 ^ k) n
  omega
theorem wkL_lt {P : Nat} (hP : P ≤ 63) : ∀ f m k, m < 9223372036854775808 → k < P → wkL P f m k < 9223372036854775808 := by
  intro f
  induction f with
  | zero => intro m k hm _; exact hm
  | succ f ih =>
    intro m k hm hk
    rw [wkL]
    split
    · exact ih _ _ (or63 hm (by omega)) (gz_lt hk)
    · exact hm
def stM (P : Nat) : Nat → Nat → Nat → Nat → Nat
  | 0, _, _, n => n
  | f + 1, j, m, n => stM P f (j + 1) (wkL P 63 m j) (n + (if m / 2 ^ j % 2 = 0 then 1 else 0))
theorem stM_step {P j m n : Nat} (h : j < P) : stM P (P - j) j m n = stM P (P - (j + 1)) (j + 1) (wkL P 63 m j) (n + (if m / 2 ^ j % 2 = 0 then 1 else 0)) := by
  obtain ⟨f, hf⟩ : ∃ f, P - j = f + 1 := ⟨P - j - 1, by omega⟩
  rw [hf, show P - (j + 1) = f by omega, stM]
def comesM (P pt : Nat) (a : Int) : Int32 := if 0 ≤ a ∧ a ≤ 1 then (if a = 0 then roundM P (pt : Int) else nI (stM P (P - 1) 1 0 0)) else -1
/-- for which strips letters are meant, from the last pair down -/
def mmJ (gl : Nat → Nat) (nl P : Nat) : Nat → (Nat × Int32 × Int32) → (Nat × Int32 × Int32)
  | 0, t => t
  | j + 1, t => mmJ gl nl P j (if wlF gl nl P (j + 1) = -9 then (t.1 + 1, nI P, nI (j + 1)) else t)
def mmP (gl : Nat → Nat) (nl : Nat) : Nat → (Nat × Int32 × Int32) → (Nat × Int32 × Int32)
  | 0, t => t
  | i + 1, t => mmP gl nl i (mmJ gl nl (2 * (i + 1) + 1) (2 * (i + 1)) t)
/-- ways, from the last guess down -/
def fmL (P S g : Nat) : Nat → Nat → Nat → (Nat × Int32) → (Nat × Int32)
  | 0, _, _, t => t
  | f + 1, d, x, t => fmL P S g f (d ||| 2 ^ x) (gz P x) (if d ||| 2 ^ x = S then t.1 + 1 else t.1, if d ||| 2 ^ x = S then nI g else t.2)
theorem fmL_step {P S g d x k : Nat} {t : Nat × Int32} (h : k < 21) : fmL P S g (21 - k) d x t = fmL P S g (21 - (k + 1)) (d ||| 2 ^ x) (gz P x) (if d ||| 2 ^ x = S then t.1 + 1 else t.1, if d ||| 2 ^ x = S then nI g else t.2) := by
  obtain ⟨f, hf⟩ : ∃ f, 21 - k = f + 1 := ⟨20 - k, by omega⟩
  rw [hf, show 21 - (k + 1) = f by omega, fmL]
def frM (P S : Nat) : Nat → (Nat × Int32) → (Nat × Int32)
  | 0, t => t
  | g + 1, t => frM P S g (fmL P S (g + 1) 21 0 (g + 1) t)
/-- images -/
def kpA (gi : Nat → Nat) (b n nl ns : Nat) : Nat → Nat := va_up (va_up (va_up (va_up gi b 1) (b + 1) n) (b + 2) nl) (b + 3) ns
def kpR (g gl : Nat → Nat) (b : Nat) : Nat → (Nat → Nat)
  | 0 => g
  | e + 1 => va_up (kpR g gl b e) (b + 4 + e) (gl e)
def kpS (g gs : Nat → Nat) (b : Nat) : Nat → (Nat → Nat)
  | 0 => g
  | e + 1 => va_up (kpS g gs b e) (b + 16 + e) (gs e)
def kpC (g gw go gh : Nat → Nat) (b : Nat) : Nat → (Nat → Nat)
  | 0 => g
  | e + 1 => va_up (va_up (va_up (kpC g gw go gh b e) (b + 24 + 3 * e) (gw e)) (b + 25 + 3 * e) (go e)) (b + 26 + 3 * e) (gh e)
def keepF (gi : Nat → Nat) (b n nl ns : Nat) (gl gs gw go gh : Nat → Nat) : Nat → Nat := kpC (kpS (kpR (kpA gi b n nl ns) gl b 12) gs b 8) gw go gh b 23
theorem x_dec2 (i : Nat) : nI (2 * (i + 1) + 1) + Int32.ofInt (-2) = nI (2 * i + 1) := by
  have h : nI (2 * (i + 1) + 1) = nI (2 * i + 1) + nI 2 := by rw [nI_add, show 2 * (i + 1) + 1 = 2 * i + 1 + 2 by omega]
  rw [h, Int32.add_assoc]
  have h2 : nI 2 + Int32.ofInt (-2) = 0 := by decide
  rw [h2, Int32.add_zero]
