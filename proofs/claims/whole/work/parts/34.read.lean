/-! reading a text: what holds while it is read -/
theorem rW_succ (gb : Nat → Nat) (N f z : Nat) (t : Nat → Nat) (nf : Nat) (ff : Nat → Nat) (it : Nat) : rW gb N (f + 1) z t nf ff it = if tk gb N (sk gb N z) = 7 then .inr (t, nf, ff, it) else if wOk (tk gb N (sk gb N z)) nf t then rN gb N (rW gb N f) (tk gb N (sk gb N z)) (te gb N (sk gb N z)) t nf ff it else .inl (sk gb N z) := rfl
def TB (τ : Nat) (t : Nat → Nat) (nf k : Nat) : Prop := (∀ w, w < 4 → (τ &&& 2 ^ w = 0 ↔ (t w = 0 ∧ w ≠ k))) ∧ (τ &&& 2 ^ 4 = 0 ↔ (nf = 0 ∧ 4 ≠ k))
def RdI (gb : Nat → Nat) (N : Nat) (fin : Res) (q1 q2 q3 q4 q7 z aw wd τ n1 n2 : Nat) (g1 g2 : Nat → Nat) : Prop :=
  ∃ (f : Nat) (t ff : Nat → Nat), (N + 1 ≤ f + z ∧ z ≤ N ∧ q1 = pvT t ∧ q2 = pv1 t ∧ q3 = t 2 - 1 ∧ q4 = t 3 - 1 ∧ n2 ≤ 20 ∧ τ < 32 ∧ q1 ≤ 63) ∧ (∀ j, j < n2 → g1 j = ff (2 * j) ∧ g2 j = ff (2 * j + 1)) ∧ (∀ j, g1 j ≤ 100 ∧ g2 j ≤ 100) ∧
  ((aw = 0 ∧ n1 = n2 ∧ TB τ t n2 5 ∧ rW gb N f z t n2 ff q7 = fin) ∨
   (aw = 1 ∧ n1 = n2 ∧ wd ≤ 4 ∧ (wd = 4 → n2 < 20) ∧ TB τ t n2 wd ∧ rN gb N (rW gb N f) wd z t n2 ff q7 = fin) ∨
   (aw = 2 ∧ n1 = n2 + 1 ∧ n2 < 20 ∧ TB τ t n2 4 ∧ r2 gb N (rW gb N f) (g1 n2) z t n2 ff q7 = fin) ∨
   (aw = 3 ∧ n1 = n2 ∧ TB τ t n2 5 ∧ rS gb N (rW gb N f) z t n2 ff q7 = fin))
def msP (τ n1 k : Nat) : Prop := (k = 4 ∧ n1 < 20) ∨ (k = 0 ∧ τ &&& 2 ^ 0 = 0 ∧ τ &&& 2 ^ 1 = 0 ∧ τ &&& 2 ^ 4 = 0) ∨ (1 ≤ k ∧ k ≤ 3 ∧ τ &&& 2 ^ k = 0 ∧ τ &&& 2 ^ 4 = 0)
def mbP (wd q1 n2 k : Nat) : Prop := (wd = 0 ∧ 3 ≤ k ∧ k ≤ 63 ∧ k % 2 = 1) ∨ (wd = 1 ∧ 1 ≤ k ∧ k < q1) ∨ (wd = 2 ∧ k ≤ 99) ∨ (wd = 3 ∧ k ≤ 9) ∨ (wd = 4 ∧ k < 3 + n2)
theorem rd_aw {gb : Nat → Nat} {N : Nat} {fin : Res} {q1 q2 q3 q4 q7 z aw wd τ n1 n2 : Nat} {g1 g2 : Nat → Nat} (h : RdI gb N fin q1 q2 q3 q4 q7 z aw wd τ n1 n2 g1 g2) : aw = 0 ∨ aw = 1 ∨ aw = 2 ∨ aw = 3 := by
  obtain ⟨f, t, ff, -, -, -, h | h | h | h⟩ := h
  · exact Or.inl h.1
  · exact Or.inr (Or.inl h.1)
  · exact Or.inr (Or.inr (Or.inl h.1))
  · exact Or.inr (Or.inr (Or.inr h.1))
theorem rd_b {gb : Nat → Nat} {N : Nat} {fin : Res} {q1 q2 q3 q4 q7 z aw wd τ n1 n2 : Nat} {g1 g2 : Nat → Nat} (h : RdI gb N fin q1 q2 q3 q4 q7 z aw wd τ n1 n2 g1 g2) : z ≤ N ∧ n2 ≤ 20 ∧ n1 ≤ 20 ∧ τ < 32 ∧ q1 ≤ 63 ∧ (aw = 1 → wd ≤ 4 ∧ (wd = 4 → n1 < 20)) ∧ (aw = 2 → n2 < 20) ∧ (aw = 2 ∨ n1 = n2) := by
  obtain ⟨f, t, ff, hb, -, -, h | h | h | h⟩ := h
  · exact ⟨hb.2.1, by omega, by omega, by omega, by omega, by omega, by omega, by omega⟩
  · exact ⟨hb.2.1, by omega, by omega, by omega, by omega, fun _ => ⟨h.2.2.1, fun h4 => by have := h.2.2.2.1 h4; omega⟩, by omega, by omega⟩
  · exact ⟨hb.2.1, by omega, by omega, by omega, by omega, by omega, by omega, by omega⟩
  · exact ⟨hb.2.1, by omega, by omega, by omega, by omega, by omega, by omega, by omega⟩
theorem rd_g {gb : Nat → Nat} {N : Nat} {fin : Res} {q1 q2 q3 q4 q7 z aw wd τ n1 n2 : Nat} {g1 g2 : Nat → Nat} (h : RdI gb N fin q1 q2 q3 q4 q7 z aw wd τ n1 n2 g1 g2) : ∀ j, g1 j ≤ 100 ∧ g2 j ≤ 100 := h.choose_spec.choose_spec.choose_spec.2.2.1
section RD
variable {gb : Nat → Nat} {N : Nat} {fin : Res} {q1 q2 q3 q4 q7 z aw wd τ n1 n2 q : Nat} {g1 g2 : Nat → Nat}
theorem rd_end (h : RdI gb N fin q1 q2 q3 q4 q7 z 0 wd τ n1 n2 g1 g2) (hk : tk gb N (sk gb N z) = 7) : ∃ t ff : Nat → Nat, fin = .inr (t, n2, ff, q7) ∧ q1 = pvT t ∧ q2 = pv1 t ∧ q3 = t 2 - 1 ∧ q4 = t 3 - 1 ∧ n2 ≤ 20 ∧ ∀ j, j < n2 → g1 j = ff (2 * j) ∧ g2 j = ff (2 * j + 1) := by
  obtain ⟨f, t, ff, hb, hf, -, h | h | h | h⟩ := h
  · obtain ⟨f2, rfl⟩ : ∃ f2, f = f2 + 1 := ⟨f - 1, by omega⟩
    have h2 := h.2.2.2
    rw [rW_succ, if_pos hk] at h2
    exact ⟨t, ff, h2.symm, hb.2.2.1, hb.2.2.2.1, hb.2.2.2.2.1, hb.2.2.2.2.2.1, hb.2.2.2.2.2.2.1, hf⟩
  · exact absurd h.1 (by decide)
  · exact absurd h.1 (by decide)
  · exact absurd h.1 (by decide)
theorem ms_ok {t : Nat → Nat} {k nf : Nat} (hT : TB τ t nf 5) (hk : k ≤ 8) : msP τ nf k ↔ wOk k nf t := by
  have h4 := hT.2
  unfold msP
  constructor
  · rintro (h | h | h)
    · exact Or.inl h
    · obtain ⟨rfl, h0, h1, h2⟩ := h
      have a0 := (hT.1 0 (by decide)).mp h0
      have a1 := (hT.1 1 (by decide)).mp h1
      exact Or.inr ⟨by decide, (h4.mp h2).1, a0.1, fun _ => a1.1⟩
    · have a0 := (hT.1 k (by omega)).mp h.2.2.1
      exact Or.inr ⟨by omega, (h4.mp h.2.2.2).1, a0.1, fun e => by omega⟩
  · rintro (h | h)
    · exact Or.inl h
    · have a0 := (hT.1 k h.1).mpr ⟨h.2.2.1, by omega⟩
      have a4 := h4.mpr ⟨h.2.1, by decide⟩
      rcases Nat.eq_zero_or_pos k with rfl | hp
      · exact Or.inr (Or.inl ⟨rfl, a0, (hT.1 1 (by decide)).mpr ⟨h.2.2.2 rfl, by decide⟩, a4⟩)
      · exact Or.inr (Or.inr ⟨hp, by omega, a0, a4⟩)
theorem rd_w_no (h : RdI gb N fin q1 q2 q3 q4 q7 z 0 wd τ n1 n2 g1 g2) (hk : ¬ tk gb N (sk gb N z) = 7) (hms : ¬ msP τ n1 (tk gb N (sk gb N z))) : fin = .inl (sk gb N z) := by
  obtain ⟨f, t, ff, hb, hf, -, h | h | h | h⟩ := h
  · obtain ⟨f2, rfl⟩ : ∃ f2, f = f2 + 1 := ⟨f - 1, by omega⟩
    have h2 := h.2.2.2
    rw [h.2.1, ms_ok h.2.2.1 (tk_le gb N _)] at hms
    rw [rW_succ, if_neg hk, if_neg hms] at h2
    exact h2.symm
  · exact absurd h.1 (by decide)
  · exact absurd h.1 (by decide)
  · exact absurd h.1 (by decide)
theorem and_or_bit {τ k : Nat} (w : Nat) : (τ ||| 2 ^ k) &&& 2 ^ w = 0 ↔ (τ &&& 2 ^ w = 0 ∧ w ≠ k) := by
  have e : ∀ n : Nat, n &&& 2 ^ w = 0 ↔ n.testBit w = false := fun n => by
    constructor
    · intro h
      have h1 : (n &&& 2 ^ w).testBit w = false := by rw [h]; exact Nat.zero_testBit w
      rw [Nat.testBit_and, Nat.testBit_two_pow_self, Bool.and_true] at h1
      exact h1
    · intro h
      apply Nat.eq_of_testBit_eq
      intro i
      rw [Nat.testBit_and, Nat.zero_testBit, Nat.testBit_two_pow]
      by_cases hi : w = i
      · subst hi; rw [h]; rfl
      · simp [hi]
  rw [e, e, Nat.testBit_or, Nat.testBit_two_pow, Bool.or_eq_false_iff, decide_eq_false_iff_not]
  constructor
  · intro h; exact ⟨h.1, fun e => h.2 e.symm⟩
  · intro h; exact ⟨h.1, fun e => h.2 e.symm⟩
theorem tb_set {t : Nat → Nat} {nf k : Nat} (hT : TB τ t nf 5) (hk : k ≤ 4) : TB (τ ||| 2 ^ k) t nf k := by
  refine ⟨fun w hw => ?_, ?_⟩
  · rw [and_or_bit, hT.1 w hw]
    constructor
    · intro h; exact ⟨h.1.1, h.2⟩
    · intro h; exact ⟨⟨h.1, by omega⟩, h.2⟩
  · rw [and_or_bit, hT.2]
    constructor
    · intro h; exact ⟨h.1.1, h.2⟩
    · intro h; exact ⟨⟨h.1, by decide⟩, h.2⟩
theorem or32 {τ k : Nat} (h : τ < 32) (hk : k ≤ 4) : τ ||| 2 ^ k < 32 := Nat.or_lt_two_pow (n := 5) h (Nat.pow_lt_pow_right (a := 2) (m := k) (n := 5) (by decide) (by omega))
theorem rd_w_ok (h : RdI gb N fin q1 q2 q3 q4 q7 z 0 wd τ n1 n2 g1 g2) (hms : msP τ n1 (tk gb N (sk gb N z))) : RdI gb N fin q1 q2 q3 q4 q7 (te gb N (sk gb N z)) 1 (tk gb N (sk gb N z)) (τ ||| 2 ^ tk gb N (sk gb N z)) n1 n2 g1 g2 := by
  obtain ⟨f, t, ff, hb, hf, hg, h | h | h | h⟩ := h
  · obtain ⟨f2, rfl⟩ : ∃ f2, f = f2 + 1 := ⟨f - 1, by omega⟩
    have h2 := h.2.2.2
    have hw := hms
    rw [h.2.1, ms_ok h.2.2.1 (tk_le gb N _)] at hw
    have hk7 : ¬ tk gb N (sk gb N z) = 7 := by rcases hw with a | a <;> omega
    have hk4 : tk gb N (sk gb N z) ≤ 4 := by rcases hw with a | a <;> omega
    have hpN : sk gb N z < N := by
      rcases Nat.lt_or_ge (sk gb N z) N with a | a
      · exact a
      · exact absurd (tk_end.mpr a) hk7
    rw [rW_succ, if_neg hk7, if_pos hw] at h2
    have hge := sk_ge gb N z
    have ht1 := te_gt gb N (sk gb N z)
    have ht2 := te_le (gb := gb) hpN
    refine ⟨f2, t, ff, ⟨by omega, ht2, hb.2.2.1, hb.2.2.2.1, hb.2.2.2.2.1, hb.2.2.2.2.2.1, hb.2.2.2.2.2.2.1, or32 (by omega) hk4, by omega⟩, hf, hg, Or.inr (Or.inl ⟨rfl, h.2.1, hk4, fun h4 => ?_, tb_set h.2.2.1 hk4, h2⟩)⟩
    rcases hw with a | a
    · omega
    · omega
  · exact absurd h.1 (by decide)
  · exact absurd h.1 (by decide)
  · exact absurd h.1 (by decide)
theorem rd_n_tok (h : RdI gb N fin q1 q2 q3 q4 q7 z 1 wd τ n1 n2 g1 g2) (hk : ¬ tk gb N (sk gb N z) = 5) : fin = .inl (sk gb N z) := by
  obtain ⟨f, t, ff, hb, hf, -, h | h | h | h⟩ := h
  · exact absurd h.1 (by decide)
  · have h2 := h.2.2.2.2.2
    rw [rN] at h2
    split at h2
    · rw [if_neg (fun a => hk a.1)] at h2; exact h2.symm
    · rw [if_neg (fun a => hk a.1)] at h2; exact h2.symm
  · exact absurd h.1 (by decide)
  · exact absurd h.1 (by decide)
theorem rd_n_no (h : RdI gb N fin q1 q2 q3 q4 q7 z 1 wd τ n1 n2 g1 g2) (hk : tk gb N (sk gb N z) = 5) (hmb : ¬ mbP wd q1 n2 (nq gb N (sk gb N z) q)) : fin = .inl (sk gb N z) := by
  rw [(tk_num hk).1] at hmb
  obtain ⟨f, t, ff, hb, hf, -, h | h | h | h⟩ := h
  · exact absurd h.1 (by decide)
  · have h2 := h.2.2.2.2.2
    have hq1 := hb.2.2.1
    unfold mbP at hmb
    rw [rN] at h2
    split at h2
    · rename_i h4
      rw [if_neg (fun a => hmb (Or.inr (Or.inr (Or.inr (Or.inr ⟨h4, by omega⟩)))))] at h2
      exact h2.symm
    · rw [if_neg] at h2
      · exact h2.symm
      · rintro ⟨-, a⟩
        apply hmb
        rcases a with a | a | a | a
        · exact Or.inl a
        · exact Or.inr (Or.inl ⟨a.1, a.2.1, by omega⟩)
        · exact Or.inr (Or.inr (Or.inl a))
        · exact Or.inr (Or.inr (Or.inr (Or.inl a)))
  · exact absurd h.1 (by decide)
  · exact absurd h.1 (by decide)
theorem pvT_up0 (t : Nat → Nat) (v : Nat) : pvT (va_up t 0 (v + 1)) = v := by simp [pvT, va_up]
theorem pvT_up (t : Nat → Nat) {k : Nat} (v : Nat) (h : k ≠ 0) : pvT (va_up t k v) = pvT t := by simp [pvT, va_up, Ne.symm h]
theorem pv1_up1 (t : Nat → Nat) (v : Nat) : pv1 (va_up t 1 (v + 1)) = v := by simp [pv1, va_up]
theorem pv1_up (t : Nat → Nat) {k : Nat} (v : Nat) (h : k ≠ 1) : pv1 (va_up t k v) = pv1 t := by simp [pv1, va_up, Ne.symm h]
theorem tb_num {t : Nat → Nat} {nf k v : Nat} (hT : TB τ t nf k) (hk : k < 4) : TB τ (va_up t k (v + 1)) nf 5 := by
  refine ⟨fun w hw => ?_, ?_⟩
  · rw [hT.1 w hw]
    by_cases h : w = k
    · subst h; simp [va_up]
    · simp [va_up, h]; omega
  · rw [hT.2]
    constructor
    · intro h; exact ⟨h.1, by decide⟩
    · intro h; exact ⟨h.1, by omega⟩
theorem rd_pos (hk : tk gb N (sk gb N z) = 5 ∨ tk gb N (sk gb N z) = 6) : sk gb N z < N := by
  rcases Nat.lt_or_ge (sk gb N z) N with a | a
  · exact a
  · have := (tk_end (gb := gb)).mpr a; omega
theorem rd_n_v (h : RdI gb N fin q1 q2 q3 q4 q7 z 1 wd τ n1 n2 g1 g2) (hk : tk gb N (sk gb N z) = 5) (hmb : mbP wd q1 n2 (nq gb N (sk gb N z) q)) (hw : wd < 4) :
    RdI gb N fin (if wd = 0 then nq gb N (sk gb N z) q else q1) (if wd = 1 then nq gb N (sk gb N z) q else q2) (if wd = 2 then nq gb N (sk gb N z) q else q3) (if wd = 3 then nq gb N (sk gb N z) q else q4) q7 (te gb N (sk gb N z)) 3 wd τ n1 n2 g1 g2 := by
  rw [(tk_num hk).1] at hmb ⊢
  obtain ⟨f, t, ff, hb, hf, hg, h | h | h | h⟩ := h
  · exact absurd h.1 (by decide)
  · have h2 := h.2.2.2.2.2
    have hpN := rd_pos (Or.inl hk)
    have hge := sk_ge gb N z
    have ht1 := te_gt gb N (sk gb N z)
    have ht2 := te_le (gb := gb) hpN
    obtain ⟨v, hv⟩ : ∃ v, v = nv gb N (sk gb N z) := ⟨_, rfl⟩
    rw [← hv] at hmb ⊢
    have hok : okT wd v t := by
      rcases hmb with a | a | a | a | a
      · exact Or.inl a
      · exact Or.inr (Or.inl ⟨a.1, a.2.1, by rw [← hb.2.2.1]; exact a.2.2⟩)
      · exact Or.inr (Or.inr (Or.inl a))
      · exact Or.inr (Or.inr (Or.inr a))
      · omega
    rw [rN, if_neg (by omega), ← hv, if_pos ⟨hk, hok⟩] at h2
    refine ⟨f, va_up t wd (v + 1), ff, ⟨by omega, ht2, ?_, ?_, ?_, ?_, by omega, by omega, ?_⟩, hf, hg, Or.inr (Or.inr (Or.inr ⟨rfl, h.2.1, tb_num h.2.2.2.2.1 hw, h2⟩))⟩
    · by_cases h0 : wd = 0
      · subst h0; rw [if_pos rfl, pvT_up0]
      · rw [if_neg h0, pvT_up _ _ h0]; exact hb.2.2.1
    · by_cases h0 : wd = 1
      · subst h0; rw [if_pos rfl, pv1_up1]
      · rw [if_neg h0, pv1_up _ _ h0]; exact hb.2.2.2.1
    · by_cases h0 : wd = 2
      · subst h0; rw [if_pos rfl]; simp [va_up]
      · rw [if_neg h0]; simp only [va_up, if_neg (Ne.symm h0)]; exact hb.2.2.2.2.1
    · by_cases h0 : wd = 3
      · subst h0; rw [if_pos rfl]; simp [va_up]
      · rw [if_neg h0]; simp only [va_up, if_neg (Ne.symm h0)]; exact hb.2.2.2.2.2.1
    · split
      · rcases hmb with a | a | a | a | a <;> omega
      · omega
  · exact absurd h.1 (by decide)
  · exact absurd h.1 (by decide)
theorem rd_n_4 (h : RdI gb N fin q1 q2 q3 q4 q7 z 1 4 τ n1 n2 g1 g2) (hk : tk gb N (sk gb N z) = 5) (hmb : mbP 4 q1 n2 (nq gb N (sk gb N z) q)) : RdI gb N fin q1 q2 q3 q4 q7 (te gb N (sk gb N z)) 2 4 τ (n1 + 1) n2 (va_up g1 n1 (nq gb N (sk gb N z) q)) g2 := by
  have hv99 := (tk_num (q := q) hk).2.1
  rw [(tk_num hk).1] at hmb ⊢
  obtain ⟨f, t, ff, hb, hf, hg, h | h | h | h⟩ := h
  · exact absurd h.1 (by decide)
  · have h2 := h.2.2.2.2.2
    have hpN := rd_pos (Or.inl hk)
    have hge := sk_ge gb N z
    have ht1 := te_gt gb N (sk gb N z)
    have ht2 := te_le (gb := gb) hpN
    obtain ⟨v, hv⟩ : ∃ v, v = nv gb N (sk gb N z) := ⟨_, rfl⟩
    rw [← hv] at hmb hv99 ⊢
    have hlt : v < n2 + 3 := by rcases hmb with a | a | a | a | a <;> omega
    rw [rN, if_pos rfl, ← hv, if_pos ⟨hk, hlt⟩] at h2
    have h20 := h.2.2.2.1 rfl
    refine ⟨f, t, ff, ⟨by omega, ht2, hb.2.2.1, hb.2.2.2.1, hb.2.2.2.2.1, hb.2.2.2.2.2.1, by omega, by omega, by omega⟩, fun j hj => ?_, fun j => ?_, Or.inr (Or.inr (Or.inl ⟨rfl, by omega, h20, h.2.2.2.2.1, ?_⟩))⟩
    · rw [va_up_ne _ _ (show j ≠ n1 by omega)]; exact hf j hj
    · refine ⟨?_, (hg j).2⟩
      by_cases e : j = n1
      · rw [e, va_up_self]; omega
      · rw [va_up_ne _ _ e]; exact (hg j).1
    · rw [show n2 = n1 from h.2.1.symm, va_up_self, h.2.1]; exact h2
  · exact absurd h.1 (by decide)
  · exact absurd h.1 (by decide)
theorem rd_s_tok (h : RdI gb N fin q1 q2 q3 q4 q7 z 2 wd τ n1 n2 g1 g2) (hk : ¬ tk gb N (sk gb N z) = 5) : fin = .inl (sk gb N z) := by
  obtain ⟨f, t, ff, hb, hf, -, h | h | h | h⟩ := h
  · exact absurd h.1 (by decide)
  · exact absurd h.1 (by decide)
  · have h2 := h.2.2.2.2
    rw [r2, if_neg (fun a => hk a.1)] at h2; exact h2.symm
  · exact absurd h.1 (by decide)
theorem rd_s_no (h : RdI gb N fin q1 q2 q3 q4 q7 z 2 wd τ n1 n2 g1 g2) (hk : tk gb N (sk gb N z) = 5) (hs : ¬ (nq gb N (sk gb N z) q < 3 + n2 ∧ nq gb N (sk gb N z) q ≠ g1 n2)) : fin = .inl (sk gb N z) := by
  rw [(tk_num hk).1] at hs
  obtain ⟨f, t, ff, hb, hf, -, h | h | h | h⟩ := h
  · exact absurd h.1 (by decide)
  · exact absurd h.1 (by decide)
  · have h2 := h.2.2.2.2
    rw [r2, if_neg (fun a => hs ⟨by omega, a.2.2⟩)] at h2; exact h2.symm
  · exact absurd h.1 (by decide)
theorem rd_s_ok (h : RdI gb N fin q1 q2 q3 q4 q7 z 2 wd τ n1 n2 g1 g2) (hk : tk gb N (sk gb N z) = 5) (hs : nq gb N (sk gb N z) q < 3 + n2 ∧ nq gb N (sk gb N z) q ≠ g1 n2) : RdI gb N fin q1 q2 q3 q4 q7 (te gb N (sk gb N z)) 3 wd τ n1 (n2 + 1) g1 (va_up g2 n2 (nq gb N (sk gb N z) q)) := by
  have hv99 := (tk_num (q := q) hk).2.1
  rw [(tk_num hk).1] at hs ⊢
  obtain ⟨f, t, ff, hb, hf, hg, h | h | h | h⟩ := h
  · exact absurd h.1 (by decide)
  · exact absurd h.1 (by decide)
  · have h2 := h.2.2.2.2
    have hpN := rd_pos (Or.inl hk)
    have hge := sk_ge gb N z
    have ht1 := te_gt gb N (sk gb N z)
    have ht2 := te_le (gb := gb) hpN
    obtain ⟨v, hv⟩ : ∃ v, v = nv gb N (sk gb N z) := ⟨_, rfl⟩
    rw [← hv] at hs hv99 ⊢
    rw [r2, ← hv, if_pos ⟨hk, by omega, hs.2⟩] at h2
    refine ⟨f, t, va_up (va_up ff (2 * n2) (g1 n2)) (2 * n2 + 1) v, ⟨by omega, ht2, hb.2.2.1, hb.2.2.2.1, hb.2.2.2.2.1, hb.2.2.2.2.2.1, by omega, by omega, by omega⟩, fun j hj => ?_, fun j => ?_, Or.inr (Or.inr (Or.inr ⟨rfl, by omega, ?_, h2⟩))⟩
    · by_cases e : j = n2
      · subst e
        refine ⟨?_, by rw [va_up_self, va_up_self]⟩
        rw [va_up_ne _ _ (show 2 * j ≠ 2 * j + 1 by omega), va_up_self]
      · rw [va_up_ne _ _ e, va_up_ne _ _ (show 2 * j ≠ 2 * n2 + 1 by omega), va_up_ne _ _ (show 2 * j ≠ 2 * n2 by omega), va_up_ne _ _ (show 2 * j + 1 ≠ 2 * n2 + 1 by omega), va_up_ne _ _ (show 2 * j + 1 ≠ 2 * n2 by omega)]
        exact hf j (by omega)
    · refine ⟨(hg j).1, ?_⟩
      by_cases e : j = n2
      · rw [e, va_up_self]; omega
      · rw [va_up_ne _ _ e]; exact (hg j).2
    · have hT := h.2.2.2.1
      refine ⟨fun w hw => ?_, ?_⟩
      · rw [hT.1 w hw]
        constructor
        · intro a; exact ⟨a.1, by omega⟩
        · intro a; exact ⟨a.1, by omega⟩
      · rw [hT.2]
        constructor
        · intro a; exact absurd rfl a.2
        · intro a; exact absurd a.1 (Nat.succ_ne_zero _)
  · exact absurd h.1 (by decide)
theorem rd_e_no (h : RdI gb N fin q1 q2 q3 q4 q7 z 3 wd τ n1 n2 g1 g2) (hk : ¬ tk gb N (sk gb N z) = 6) : fin = .inl (sk gb N z) := by
  obtain ⟨f, t, ff, hb, hf, -, h | h | h | h⟩ := h
  · exact absurd h.1 (by decide)
  · exact absurd h.1 (by decide)
  · exact absurd h.1 (by decide)
  · have h2 := h.2.2.2
    rw [rS, if_neg hk] at h2; exact h2.symm
theorem rd_e_ok (h : RdI gb N fin q1 q2 q3 q4 q7 z 3 wd τ n1 n2 g1 g2) (hk : tk gb N (sk gb N z) = 6) : RdI gb N fin q1 q2 q3 q4 (q7 + 1) (te gb N (sk gb N z)) 0 wd τ n1 n2 g1 g2 := by
  obtain ⟨f, t, ff, hb, hf, hg, h | h | h | h⟩ := h
  · exact absurd h.1 (by decide)
  · exact absurd h.1 (by decide)
  · exact absurd h.1 (by decide)
  · have h2 := h.2.2.2
    have hpN := rd_pos (Or.inr hk)
    have hge := sk_ge gb N z
    have ht1 := te_gt gb N (sk gb N z)
    have ht2 := te_le (gb := gb) hpN
    rw [rS, if_pos hk] at h2
    exact ⟨f, t, ff, ⟨by omega, ht2, hb.2.2.1, hb.2.2.2.1, hb.2.2.2.2.1, hb.2.2.2.2.2.1, by omega, by omega, by omega⟩, hf, hg, Or.inl ⟨rfl, h.2.1, h.2.2.1, h2⟩⟩
end RD
/-- what a text tells, from its first byte on -/
def finR (gb : Nat → Nat) (N : Nat) : Res := rW gb N 201 0 (fun _ => 0) 0 (fun _ => 0) 0
theorem rd_init {gb : Nat → Nat} {N : Nat} {wd : Nat} {g1 g2 : Nat → Nat} (hN : N ≤ 200) (hg : ∀ j, g1 j ≤ 100 ∧ g2 j ≤ 100) : RdI gb N (finR gb N) 5 1 0 0 0 0 0 wd 0 0 0 g1 g2 := by
  refine ⟨201, fun _ => 0, fun _ => 0, ⟨by omega, Nat.zero_le _, rfl, rfl, rfl, rfl, by omega, by omega, by omega⟩, fun j hj => absurd hj (Nat.not_lt_zero _), hg, Or.inl ⟨rfl, rfl, ⟨fun w hw => ?_, ?_⟩, rfl⟩⟩
  · rw [Nat.zero_and]; exact ⟨fun _ => ⟨rfl, by omega⟩, fun _ => rfl⟩
  · rw [Nat.zero_and]; exact ⟨fun _ => ⟨rfl, by decide⟩, fun _ => rfl⟩
