/-! both programs count the same -/
/-- parts that fold from a part, step by step -/
def itG (P : Nat) : Nat → Nat → Nat
  | 0, x => x
  | t + 1, x => itG P t (gz P x)
def ords : List Nat := [2, 4, 3, 6, 10, 12, 4, 8, 18, 6, 11, 20, 18, 28, 5, 10, 12, 36, 12, 20, 14, 12, 23, 21, 8, 52, 20, 18, 58, 60, 6]
theorem itG_back : ∀ i, i < 31 → 1 ≤ ords.getD i 0 ∧ ords.getD i 0 ≤ 2 * i + 2 ∧ ∀ x, x < 2 * i + 3 → itG (2 * i + 3) (ords.getD i 0) x = x := by decide +kernel
theorem ffL_none {P j : Nat} : ∀ f x k, (∀ i, i < f → itG P i x ≠ j) → ffL P j f x k = -9 := by
  intro f
  induction f with
  | zero => intro x k _; rfl
  | succ f ih =>
    intro x k h
    rw [ffL, if_neg (show ¬ x = j from h 0 (by omega))]
    exact ih _ _ (fun i hi => h (i + 1) (by omega))
theorem ffL_miss {P j f : Nat} : ∀ T x k, (∀ i, i < T → itG P i x ≠ j) → ffL P j (T + f) x k = ffL P j f (itG P T x) (k + T) := by
  intro T
  induction T with
  | zero => intro x k _; rw [Nat.zero_add]; rfl
  | succ T ih =>
    intro x k h
    rw [show T + 1 + f = (T + f) + 1 by omega, ffL, if_neg (show ¬ x = j from h 0 (by omega)), ih _ _ (fun i hi => h (i + 1) (by omega)), show k + 1 + T = k + (T + 1) by omega]
    rfl
theorem ffL_hits {P j f : Nat} : ∀ T x k, (∃ i, i < T ∧ itG P i x = j) → ffL P j (T + f) x k = ffL P j T x k := by
  intro T
  induction T with
  | zero => intro x k ⟨i, hi, _⟩; omega
  | succ T ih =>
    intro x k ⟨i, hi, e⟩
    rw [show T + 1 + f = (T + f) + 1 by omega, ffL, ffL]
    by_cases h : x = j
    · rw [if_pos h, if_pos h]
    · rw [if_neg h, if_neg h]
      cases i with
      | zero => exact absurd e h
      | succ i => exact ih _ _ ⟨i, by omega, e⟩
theorem ffL_never {P j T x : Nat} (hT : 0 < T) (hb : itG P T x = x) (hn : ∀ i, i < T → itG P i x ≠ j) : ∀ g f k, f ≤ g → ffL P j f x k = -9 := by
  intro g
  induction g with
  | zero => intro f k hf; rw [show f = 0 by omega]; rfl
  | succ g ih =>
    intro f k hf
    rcases Nat.lt_or_ge f T with h | h
    · exact ffL_none _ _ _ (fun i hi => hn i (by omega))
    · obtain ⟨f2, rfl⟩ : ∃ f2, f = T + f2 := ⟨f - T, by omega⟩
      rw [ffL_miss _ _ _ hn, hb]
      exact ih _ _ (by omega)
theorem ffL_same {P j T x k f1 f2 : Nat} (hT : 0 < T) (hb : itG P T x = x) (h1 : T ≤ f1) (h2 : T ≤ f2) : ffL P j f1 x k = ffL P j f2 x k := by
  by_cases h : ∃ i, i < T ∧ itG P i x = j
  · obtain ⟨a, rfl⟩ : ∃ a, f1 = T + a := ⟨f1 - T, by omega⟩
    obtain ⟨b, rfl⟩ : ∃ b, f2 = T + b := ⟨f2 - T, by omega⟩
    rw [ffL_hits _ _ _ h, ffL_hits _ _ _ h]
  · have hn : ∀ i, i < T → itG P i x ≠ j := fun i hi e => h ⟨i, hi, e⟩
    rw [ffL_never hT hb hn _ _ _ (Nat.le_refl _), ffL_never hT hb hn _ _ _ (Nat.le_refl _)]
theorem fewest_eq {P pt : Nat} (h3 : 3 ≤ P) (h63 : P ≤ 63) (ho : P % 2 = 1) (hpt : pt < P) (z : Int) : fewestX P pt z = fewestM P pt z := by
  obtain ⟨i, rfl⟩ : ∃ i, P = 2 * i + 3 := ⟨(P - 3) / 2, by omega⟩
  obtain ⟨a, b, c⟩ := itG_back i (by omega)
  unfold fewestX fewestM
  rw [ffL_same (f1 := 63) (f2 := 2 * i + 3) (by omega) (c pt hpt) (by omega) (by omega)]
theorem round_all : ∀ i, i < 31 → ∀ j, j < 2 * i + 3 → 1 ≤ j → nI (faX (2 * i + 3) j) = nI 1 + ffL (2 * i + 3) j (2 * i + 3) (gz (2 * i + 3) j) 0 := by decide +kernel
theorem round_eq {P : Nat} (h3 : 3 ≤ P) (h63 : P ≤ 63) (ho : P % 2 = 1) (z : Int) : roundF P z = roundM P z := by
  obtain ⟨i, rfl⟩ : ∃ i, P = 2 * i + 3 := ⟨(P - 3) / 2, by omega⟩
  unfold roundF roundM
  by_cases h : 1 ≤ z ∧ z < ((2 * i + 3 : Nat) : Int)
  · rw [if_pos h, if_pos h]; exact round_all i (by omega) z.toNat (by omega) (by omega)
  · rw [if_neg h, if_neg h]
theorem starts_all : ∀ i, i < 31 → startsX (2 * i + 3) = stM (2 * i + 3) (2 * i + 2) 1 0 0 := by decide +kernel
theorem comes_eq {P pt : Nat} (h3 : 3 ≤ P) (h63 : P ≤ 63) (ho : P % 2 = 1) (hp1 : 1 ≤ pt) (hpt : pt < P) (a : Int) : comesX P pt a = comesM P pt a := by
  have h1 := round_eq h3 h63 ho (pt : Int)
  unfold roundF at h1
  rw [if_pos ⟨by omega, by omega⟩, Int.toNat_natCast] at h1
  unfold comesX comesM
  by_cases h0 : a = 0
  · rw [if_pos h0, if_pos ⟨by omega, by omega⟩, if_pos h0]; exact h1
  · rw [if_neg h0]
    by_cases ha : a = 1
    · rw [if_pos ha, if_pos ⟨by omega, by omega⟩, if_neg h0]
      obtain ⟨i, rfl⟩ : ∃ i, P = 2 * i + 3 := ⟨(P - 3) / 2, by omega⟩
      rw [starts_all i (by omega)]; rfl
    · rw [if_neg ha, if_neg (by omega)]
/-- parts with no crease -/
theorem tb_div (m k : Nat) : m / 2 ^ k % 2 = 0 ↔ m.testBit k = false := by
  rw [Nat.testBit_eq_decide_div_mod_eq, decide_eq_false_iff_not]
  have := Nat.mod_lt (m / 2 ^ k) (show 0 < 2 by decide)
  omega
theorem metX_bit (gw : Nat → Nat) (P b : Nat) : ∀ k, (metX gw P k).testBit b = (decide (1 ≤ b ∧ b < P) && (metM gw k).testBit b) := by
  intro k
  induction k with
  | zero => rw [metX, metM, Nat.zero_testBit, Bool.and_false]
  | succ k ih =>
    rw [metX, metM]
    by_cases h0 : gw (k + 2) % 1048576 = 0
    · rw [if_pos h0]
      by_cases h1 : 1 ≤ gw (k + 2) / 1048576 ∧ gw (k + 2) / 1048576 < P
      · rw [if_pos ⟨h0, h1⟩, Nat.testBit_or, Nat.testBit_or, ih, Nat.testBit_two_pow]
        by_cases e : gw (k + 2) / 1048576 = b
        · rw [e] at h1; simp [e, h1]
        · simp [e]
      · rw [if_neg (fun h => h1 h.2), Nat.testBit_or, ih, Nat.testBit_two_pow]
        by_cases e : gw (k + 2) / 1048576 = b
        · rw [e] at h1; simp [h1]
        · simp [e]
    · rw [if_neg h0, if_neg (fun h => h0 h.1)]; exact ih
theorem ct_ms {X M P : Nat} (hb : ∀ b, X.testBit b = (decide (1 ≤ b ∧ b < P) && M.testBit b)) (hP : 1 ≤ P) : ∀ k, ct X (k + 1) + msN M (if k < P - 1 then k else P - 1) = (if k < P - 1 then k else P - 1) := by
  intro k
  induction k with
  | zero =>
    rw [ct, ct, hb 0]
    have e : (if 0 < P - 1 then 0 else P - 1) = 0 := by split <;> omega
    rw [e]; simp [msN]
  | succ k ih =>
    rw [ct, hb (k + 1)]
    by_cases h : k + 1 < P
    · rw [if_pos (show k < P - 1 by omega)] at ih
      have e : (if k + 1 < P - 1 then k + 1 else P - 1) = k + 1 := by split <;> omega
      rw [e, msN]
      have hd : decide (1 ≤ k + 1 ∧ k + 1 < P) = true := decide_eq_true ⟨by omega, h⟩
      rw [hd, Bool.true_and]
      by_cases hm : M / 2 ^ (k + 1) % 2 = 0
      · rw [if_pos hm, (tb_div M (k + 1)).mp hm]; simp; omega
      · have ht : M.testBit (k + 1) = true := by
          cases hc : M.testBit (k + 1) with
          | true => rfl
          | false => exact absurd ((tb_div M (k + 1)).mpr hc) hm
        rw [if_neg hm, ht]; simp; omega
    · have hd : decide (1 ≤ k + 1 ∧ k + 1 < P) = false := decide_eq_false (fun q => h q.2)
      rw [if_neg (show ¬ k < P - 1 by omega)] at ih
      rw [if_neg (show ¬ k + 1 < P - 1 by omega), hd, Bool.false_and]
      simpa using ih
theorem wasted_eq {gw : Nat → Nat} {P n : Nat} (h3 : 3 ≤ P) (h63 : P ≤ 63) (a : Int) : wastedX gw P n a = wastedM gw P n a := by
  unfold wastedX wastedM
  by_cases h0 : a = 0
  · rw [if_pos h0, if_pos ⟨by omega, by omega⟩, if_pos h0]
  · rw [if_neg h0]
    by_cases ha : a = 1
    · rw [if_pos ha, if_pos ⟨by omega, by omega⟩, if_neg h0]
      have h1 : ct (metX gw P (n - 2)) 64 + msN (metM gw (n - 2)) (P - 1) = P - 1 := by
        have h := ct_ms (fun b => metX_bit gw P b (n - 2)) (show 1 ≤ P by omega) 63
        rw [if_neg (show ¬ 63 < P - 1 by omega)] at h
        exact h
      rw [pk_sub (by omega), show P - 1 - ct (metX gw P (n - 2)) 64 = msN (metM gw (n - 2)) (P - 1) by omega]
    · rw [if_neg ha, if_neg (by omega)]
/-- for which strips letters are meant: from the first up, from the last down -/
abbrev Mt : Type := Nat × Int32 × Int32
def opM (t u : Mt) : Mt := if t.1 = 0 then u else (t.1 + u.1, t.2)
def WfM (t : Mt) : Prop := t.1 = 0 → t = (0, -9, -9)
def elM (gl : Nat → Nat) (nl P j : Nat) : Mt := if wlF gl nl P j = -9 then (1, nI P, nI j) else (0, -9, -9)
theorem opM_z (t : Mt) : opM (0, -9, -9) t = t := if_pos rfl
theorem opM_z2 {t : Mt} (h : WfM t) : opM t (0, -9, -9) = t := by
  unfold opM
  by_cases e : t.1 = 0
  · rw [if_pos e, h e]
  · rw [if_neg e]; rfl
theorem opM_as (t u v : Mt) : opM (opM t u) v = opM t (opM u v) := by
  unfold opM
  by_cases e : t.1 = 0
  · rw [if_pos e, if_pos e]
  · rw [if_neg e, if_neg e]
    have h1 : ¬ (t.1 + u.1, t.2).1 = 0 := by show ¬ t.1 + u.1 = 0; omega
    rw [if_neg h1]
    by_cases e2 : u.1 = 0
    · rw [if_pos e2, e2]; rfl
    · rw [if_neg e2]; show (t.1 + u.1 + v.1, t.2) = (t.1 + (u.1 + v.1), t.2); rw [Nat.add_assoc]
theorem opM_wf {t u : Mt} (ht : WfM t) (hu : WfM u) : WfM (opM t u) := by
  intro h
  unfold opM at h ⊢
  by_cases e : t.1 = 0
  · rw [if_pos e] at h ⊢; exact hu h
  · rw [if_neg e] at h; exact absurd h (by show ¬ t.1 + u.1 = 0; omega)
theorem elM_wf (gl : Nat → Nat) (nl P j : Nat) : WfM (elM gl nl P j) := by
  intro h
  unfold elM at h ⊢
  split at h
  · exact absurd h Nat.one_ne_zero
  · rename_i hc; rw [if_neg hc]
theorem zM_wf : WfM ((0, -9, -9) : Mt) := fun _ => rfl
def XJ (gl : Nat → Nat) (nl P : Nat) : Nat → Nat → Mt
  | 0, _ => (0, -9, -9)
  | f + 1, j => opM (elM gl nl P j) (XJ gl nl P f (j + 1))
theorem XJ_wf (gl : Nat → Nat) (nl P : Nat) : ∀ f j, WfM (XJ gl nl P f j) := by
  intro f
  induction f with
  | zero => intro j; exact zM_wf
  | succ f ih => intro j; exact opM_wf (elM_wf _ _ _ _) (ih _)
theorem XJ_last (gl : Nat → Nat) (nl P : Nat) : ∀ f j, XJ gl nl P (f + 1) j = opM (XJ gl nl P f j) (elM gl nl P (j + f)) := by
  intro f
  induction f with
  | zero => intro j; rw [XJ, XJ, XJ, opM_z, opM_z2 (elM_wf _ _ _ _)]; rfl
  | succ f ih =>
    intro j
    rw [XJ, ih, ← opM_as, show j + 1 + f = j + (f + 1) by omega]
    rfl
theorem stepX {gl : Nat → Nat} {nl P j : Nat} {t : Mt} (h : WfM t) : (if wlF gl nl P j = -9 then (t.1 + 1, (if t.1 = 0 then nI P else t.2.1), (if t.1 = 0 then nI j else t.2.2)) else t) = opM t (elM gl nl P j) := by
  unfold elM
  by_cases hc : wlF gl nl P j = -9
  · rw [if_pos hc, if_pos hc]
    unfold opM
    by_cases e : t.1 = 0
    · rw [if_pos e, if_pos e, if_pos e, e]
    · rw [if_neg e, if_neg e, if_neg e]
  · rw [if_neg hc, if_neg hc, opM_z2 h]
theorem stepM {gl : Nat → Nat} {nl P j : Nat} {t : Mt} : (if wlF gl nl P j = -9 then (t.1 + 1, nI P, nI j) else t) = opM (elM gl nl P j) t := by
  unfold elM
  by_cases hc : wlF gl nl P j = -9
  · rw [if_pos hc, if_pos hc]
    show _ = ((1 : Nat) + t.1, nI P, nI j)
    rw [Nat.add_comm]
  · rw [if_neg hc, if_neg hc, opM_z]
theorem xmJ_op (gl : Nat → Nat) (nl P : Nat) : ∀ f j t, WfM t → xmJ gl nl P f j t = opM t (XJ gl nl P f j) := by
  intro f
  induction f with
  | zero => intro j t h; rw [xmJ, XJ, opM_z2 h]
  | succ f ih =>
    intro j t h
    rw [xmJ, XJ, ← opM_as, ← stepX h]
    exact ih _ _ (by rw [stepX h]; exact opM_wf h (elM_wf _ _ _ _))
theorem mmJ_op (gl : Nat → Nat) (nl P : Nat) : ∀ j t, mmJ gl nl P j t = opM (XJ gl nl P j 1) t := by
  intro j
  induction j with
  | zero => intro t; rw [mmJ, XJ, opM_z]
  | succ j ih => intro t; rw [mmJ, ih, stepM, ← opM_as, XJ_last, show 1 + j = j + 1 by omega]
def XP (gl : Nat → Nat) (nl : Nat) : Nat → Nat → Mt
  | 0, _ => (0, -9, -9)
  | f + 1, P => opM (XJ gl nl P (P - 1) 1) (XP gl nl f (P + 2))
theorem XP_last (gl : Nat → Nat) (nl : Nat) : ∀ f P, XP gl nl (f + 1) P = opM (XP gl nl f P) (XJ gl nl (P + 2 * f) (P + 2 * f - 1) 1) := by
  intro f
  induction f with
  | zero => intro P; rw [XP, XP, XP, opM_z, opM_z2 (XJ_wf _ _ _ _ _)]; rfl
  | succ f ih =>
    intro P
    rw [XP, ih, ← opM_as, show P + 2 + 2 * f = P + 2 * (f + 1) by omega]
    rfl
theorem xmP_op (gl : Nat → Nat) (nl : Nat) : ∀ f P t, WfM t → xmP gl nl f P t = opM t (XP gl nl f P) := by
  intro f
  induction f with
  | zero => intro P t h; rw [xmP, XP, opM_z2 h]
  | succ f ih =>
    intro P t h
    have e := xmJ_op gl nl P (P - 1) 1 t h
    rw [xmP, XP, ← opM_as, ← e]
    exact ih _ _ (by rw [e]; exact opM_wf h (XJ_wf _ _ _ _ _))
theorem mmP_op (gl : Nat → Nat) (nl : Nat) : ∀ i t, mmP gl nl i t = opM (XP gl nl i 3) t := by
  intro i
  induction i with
  | zero => intro t; rw [mmP, XP, opM_z]
  | succ i ih => intro t; rw [mmP, ih, mmJ_op, ← opM_as, XP_last, show 3 + 2 * i = 2 * (i + 1) + 1 by omega, Nat.add_sub_cancel]
theorem XP_wf (gl : Nat → Nat) (nl : Nat) : ∀ f P, WfM (XP gl nl f P) := by
  intro f
  induction f with
  | zero => intro P; exact zM_wf
  | succ f ih => intro P; exact opM_wf (XJ_wf _ _ _ _ _) (ih _)
theorem meant_eq (gl : Nat → Nat) (nl : Nat) (a : Int) : meantF (xmP gl nl 31 3 (0, -9, -9)) a = meantF (mmP gl nl 31 (0, -9, -9)) a := by
  rw [xmP_op _ _ _ _ _ zM_wf, mmP_op, opM_z, opM_z2 (XP_wf _ _ _ _)]
