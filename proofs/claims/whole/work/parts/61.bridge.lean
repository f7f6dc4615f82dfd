/-! ways from a guess: from the first up, from the last down -/
abbrev Ft : Type := Nat × Int32
def opF (t u : Ft) : Ft := if t.1 = 0 then u else (t.1 + u.1, t.2)
def WfF (t : Ft) : Prop := (t.1 = 0 → t = (0, -9)) ∧ (t.1 ≠ 0 → t.2 ≠ -9)
def elF (P S g : Nat) : Ft := (wf P S g, if 0 < wf P S g then nI g else -9)
theorem nI_ne9 {g : Nat} (h : g < 2147483648) : nI g ≠ -9 := fun e => by
  have h1 : (nI g).toInt = (g : Int) := nI_toI h
  rw [e, show (-9 : Int32).toInt = -9 by decide] at h1
  omega
theorem zF_wf : WfF ((0, -9) : Ft) := ⟨fun _ => rfl, fun h => absurd rfl h⟩
theorem opF_z (t : Ft) : opF (0, -9) t = t := if_pos rfl
theorem opF_z2 {t : Ft} (h : WfF t) : opF t (0, -9) = t := by
  unfold opF
  by_cases e : t.1 = 0
  · rw [if_pos e, h.1 e]
  · rw [if_neg e]; rfl
theorem opF_as (t u v : Ft) : opF (opF t u) v = opF t (opF u v) := by
  unfold opF
  by_cases e : t.1 = 0
  · rw [if_pos e, if_pos e]
  · rw [if_neg e, if_neg e]
    have h1 : ¬ (t.1 + u.1, t.2).1 = 0 := by show ¬ t.1 + u.1 = 0; omega
    rw [if_neg h1]
    by_cases e2 : u.1 = 0
    · rw [if_pos e2, e2]; rfl
    · rw [if_neg e2]; show (t.1 + u.1 + v.1, t.2) = (t.1 + (u.1 + v.1), t.2); rw [Nat.add_assoc]
theorem opF_wf {t u : Ft} (ht : WfF t) (hu : WfF u) : WfF (opF t u) := by
  unfold opF
  by_cases e : t.1 = 0
  · rw [if_pos e]; exact hu
  · rw [if_neg e]; exact ⟨fun h => absurd h (by show ¬ t.1 + u.1 = 0; omega), fun _ => ht.2 e⟩
theorem elF_wf {P S g : Nat} (h : g < 2147483648) : WfF (elF P S g) := by
  unfold elF
  by_cases e : 0 < wf P S g
  · rw [if_pos e]; exact ⟨fun h => absurd h (by show ¬ wf P S g = 0; omega), fun _ => nI_ne9 h⟩
  · rw [if_neg e, show wf P S g = 0 by omega]; exact zF_wf
def XF (P S : Nat) : Nat → Nat → Ft
  | 0, _ => (0, -9)
  | f + 1, g => opF (elF P S g) (XF P S f (g + 1))
theorem XF_wf {P S : Nat} : ∀ f g, g + f < 2147483648 → WfF (XF P S f g) := by
  intro f
  induction f with
  | zero => intro g _; exact zF_wf
  | succ f ih => intro g h; exact opF_wf (elF_wf (by omega)) (ih _ (by omega))
theorem XF_last {P S : Nat} : ∀ f g, g + f < 2147483648 → XF P S (f + 1) g = opF (XF P S f g) (elF P S (g + f)) := by
  intro f
  induction f with
  | zero => intro g h; rw [XF, XF, XF, opF_z, opF_z2 (elF_wf (by omega))]; rfl
  | succ f ih =>
    intro g h
    rw [XF, ih _ (by omega), ← opF_as, show g + 1 + f = g + (f + 1) by omega]
    rfl
theorem stepFX {P S g : Nat} {t : Ft} (h : WfF t) : (t.1 + wf P S g, if 0 < wf P S g ∧ t.2 = -9 then nI g else t.2) = opF t (elF P S g) := by
  unfold opF elF
  by_cases e : t.1 = 0
  · rw [if_pos e, h.1 e]
    by_cases c : 0 < wf P S g
    · rw [if_pos ⟨c, rfl⟩, if_pos c, Nat.zero_add]
    · rw [if_neg (fun q => c q.1), if_neg c, Nat.zero_add]
  · rw [if_neg e, if_neg (fun q => h.2 e q.2)]
theorem frX_op {P S : Nat} : ∀ f g t, g + f < 2147483648 → WfF t → frX P S f g t = opF t (XF P S f g) := by
  intro f
  induction f with
  | zero => intro g t _ h; rw [frX, XF, opF_z2 h]
  | succ f ih =>
    intro g t hg h
    rw [frX, XF, ← opF_as, ← stepFX h]
    exact ih _ _ (by omega) (by rw [stepFX h]; exact opF_wf h (elF_wf (by omega)))
theorem wfL_add {P S : Nat} : ∀ f d x w, wfL P S f d x w = w + wfL P S f d x 0 := by
  intro f
  induction f with
  | zero => intro d x w; rfl
  | succ f ih =>
    intro d x w
    rw [wfL, wfL, ih _ _ (if d ||| 2 ^ x = S then w + 1 else w), ih _ _ (if d ||| 2 ^ x = S then 0 + 1 else 0)]
    split <;> omega
theorem fmL_op {P S g : Nat} : ∀ f d x t, fmL P S g f d x t = (t.1 + wfL P S f d x 0, if 0 < wfL P S f d x 0 then nI g else t.2) := by
  intro f
  induction f with
  | zero => intro d x t; rw [fmL, wfL, if_neg (Nat.lt_irrefl 0)]; rfl
  | succ f ih =>
    intro d x t
    rw [fmL, ih, wfL, wfL_add f _ _ (if d ||| 2 ^ x = S then 0 + 1 else 0)]
    by_cases c : d ||| 2 ^ x = S
    · rw [if_pos c, if_pos c, if_pos c, if_pos (show 0 < 0 + 1 + wfL P S f (d ||| 2 ^ x) (gz P x) 0 by omega)]
      refine Prod.ext ?_ ?_
      · show t.1 + 1 + _ = t.1 + (0 + 1 + _); omega
      · show (if _ then nI g else nI g) = nI g; split <;> rfl
    · rw [if_neg c, if_neg c, if_neg c, Nat.zero_add]
theorem stepFM {P S g : Nat} (t : Ft) : fmL P S g 21 0 g t = opF (elF P S g) t := by
  rw [fmL_op]
  show (t.1 + wf P S g, if 0 < wf P S g then nI g else t.2) = _
  unfold opF elF
  by_cases c : 0 < wf P S g
  · rw [if_pos c, if_neg (show ¬ wf P S g = 0 by omega), if_pos c, Nat.add_comm]
  · rw [if_neg c, show wf P S g = 0 by omega, if_pos rfl]; rfl
theorem frM_op {P S : Nat} : ∀ h t, h < 2147483647 → frM P S h t = opF (XF P S h 1) t := by
  intro h
  induction h with
  | zero => intro t _; rw [frM, XF, opF_z]
  | succ h ih => intro t hh; rw [frM, ih _ (by omega), stepFM, ← opF_as, XF_last h 1 (by omega), show 1 + h = h + 1 by omega]
theorem from_eq {P : Nat} (h63 : P ≤ 63) (S : Nat) (a : Int) : fromF (frX P S (P - 1) 1 (0, -9)) a = fromF (frM P S (P - 1) (0, -9)) a := by
  rw [frX_op _ _ _ (by omega) zF_wf, frM_op _ _ (by omega), opF_z, opF_z2 (XF_wf _ _ (by omega))]
/-! images of the reference -/
theorem kpR_out {g gl : Nat → Nat} {b q : Nat} : ∀ e, q < b + 4 ∨ b + 4 + e ≤ q → kpR g gl b e q = g q := by
  intro e
  induction e with
  | zero => intro _; rfl
  | succ e ih => intro h; rw [kpR, va_up_ne _ _ (by omega)]; exact ih (by omega)
theorem kpR_in {g gl : Nat → Nat} {b j : Nat} : ∀ e, j < e → kpR g gl b e (b + 4 + j) = gl j := by
  intro e
  induction e with
  | zero => intro h; omega
  | succ e ih =>
    intro h
    rw [kpR]
    by_cases c : j = e
    · rw [c, va_up_self]
    · rw [va_up_ne _ _ (by omega)]; exact ih (by omega)
theorem kpS_out {g gs : Nat → Nat} {b q : Nat} : ∀ e, q < b + 16 ∨ b + 16 + e ≤ q → kpS g gs b e q = g q := by
  intro e
  induction e with
  | zero => intro _; rfl
  | succ e ih => intro h; rw [kpS, va_up_ne _ _ (by omega)]; exact ih (by omega)
theorem kpS_in {g gs : Nat → Nat} {b j : Nat} : ∀ e, j < e → kpS g gs b e (b + 16 + j) = gs j := by
  intro e
  induction e with
  | zero => intro h; omega
  | succ e ih =>
    intro h
    rw [kpS]
    by_cases c : j = e
    · rw [c, va_up_self]
    · rw [va_up_ne _ _ (by omega)]; exact ih (by omega)
theorem kpC_out {g gw go gh : Nat → Nat} {b q : Nat} : ∀ e, q < b + 24 ∨ b + 24 + 3 * e ≤ q → kpC g gw go gh b e q = g q := by
  intro e
  induction e with
  | zero => intro _; rfl
  | succ e ih => intro h; rw [kpC, va_up_ne _ _ (by omega), va_up_ne _ _ (by omega), va_up_ne _ _ (by omega)]; exact ih (by omega)
theorem kpC_in {g gw go gh : Nat → Nat} {b j : Nat} : ∀ e, j < e → kpC g gw go gh b e (b + 24 + 3 * j) = gw j ∧ kpC g gw go gh b e (b + 25 + 3 * j) = go j ∧ kpC g gw go gh b e (b + 26 + 3 * j) = gh j := by
  intro e
  induction e with
  | zero => intro h; omega
  | succ e ih =>
    intro h
    rw [kpC]
    by_cases c : j = e
    · rw [c, va_up_self, va_up_ne _ _ (show b + 25 + 3 * e ≠ b + 26 + 3 * e by omega), va_up_self, va_up_ne _ _ (show b + 24 + 3 * e ≠ b + 26 + 3 * e by omega), va_up_ne _ _ (show b + 24 + 3 * e ≠ b + 25 + 3 * e by omega), va_up_self]
      exact ⟨rfl, rfl, rfl⟩
    · have hi := ih (by omega)
      rw [va_up_ne _ _ (by omega), va_up_ne _ _ (by omega), va_up_ne _ _ (by omega), va_up_ne _ _ (by omega), va_up_ne _ _ (by omega), va_up_ne _ _ (by omega), va_up_ne _ _ (by omega), va_up_ne _ _ (by omega), va_up_ne _ _ (by omega)]
      exact hi
section KP
variable {gi gl gs gw go gh : Nat → Nat} {b n nl ns : Nat}
theorem keep_out {q : Nat} (h : q < b ∨ b + 93 ≤ q) : keepF gi b n nl ns gl gs gw go gh q = gi q := by
  unfold keepF kpA
  rw [kpC_out _ (by omega), kpS_out _ (by omega), kpR_out _ (by omega), va_up_ne _ _ (by omega), va_up_ne _ _ (by omega), va_up_ne _ _ (by omega), va_up_ne _ _ (by omega)]
theorem keep_hd : keepF gi b n nl ns gl gs gw go gh b = 1 ∧ keepF gi b n nl ns gl gs gw go gh (b + 1) = n ∧ keepF gi b n nl ns gl gs gw go gh (b + 2) = nl ∧ keepF gi b n nl ns gl gs gw go gh (b + 3) = ns := by
  unfold keepF kpA
  refine ⟨?_, ?_, ?_, ?_⟩
  · rw [kpC_out _ (by omega), kpS_out _ (by omega), kpR_out _ (by omega), va_up_ne _ _ (by omega), va_up_ne _ _ (by omega), va_up_ne _ _ (by omega), va_up_self]
  · rw [kpC_out _ (by omega), kpS_out _ (by omega), kpR_out _ (by omega), va_up_ne _ _ (by omega), va_up_ne _ _ (by omega), va_up_self]
  · rw [kpC_out _ (by omega), kpS_out _ (by omega), kpR_out _ (by omega), va_up_ne _ _ (by omega), va_up_self]
  · rw [kpC_out _ (by omega), kpS_out _ (by omega), kpR_out _ (by omega), va_up_self]
theorem keep_gl {j : Nat} (h : j < 12) : keepF gi b n nl ns gl gs gw go gh (b + 4 + j) = gl j := by
  unfold keepF
  rw [kpC_out _ (by omega), kpS_out _ (by omega), kpR_in _ h]
theorem keep_gs {j : Nat} (h : j < 8) : keepF gi b n nl ns gl gs gw go gh (b + 16 + j) = gs j := by
  unfold keepF
  rw [kpC_out _ (by omega), kpS_in _ h]
theorem keep_c {j : Nat} (h : j < 23) : keepF gi b n nl ns gl gs gw go gh (b + 24 + 3 * j) = gw j ∧ keepF gi b n nl ns gl gs gw go gh (b + 25 + 3 * j) = go j ∧ keepF gi b n nl ns gl gs gw go gh (b + 26 + 3 * j) = gh j := by
  unfold keepF
  exact kpC_in _ h
end KP
/-! only what is told counts -/
def AgN (g h : Nat → Nat) (n : Nat) : Prop := ∀ q, q < n → g q = h q
theorem AgN.rf (g : Nat → Nat) (n : Nat) : AgN g g n := fun _ _ => rfl
theorem wlL_ag {gl gl2 : Nat → Nat} {P : Nat} : ∀ f i x, (∀ q, i ≤ q → q < i + f → gl q = gl2 q) → wlL gl P f i x = wlL gl2 P f i x := by
  intro f
  induction f with
  | zero => intro i x _; rfl
  | succ f ih =>
    intro i x h
    rw [wlL, wlL, h i (Nat.le_refl _) (by omega), ih _ _ (fun q h1 h2 => h q (by omega) (by omega))]
theorem wlF_ag {gl gl2 : Nat → Nat} {nl : Nat} (h : AgN gl gl2 nl) (P j : Nat) : wlF gl nl P j = wlF gl2 nl P j := wlL_ag _ _ _ (fun q _ h2 => h q (by omega))
theorem mmJ_ag {gl gl2 : Nat → Nat} {nl P : Nat} (h : AgN gl gl2 nl) : ∀ j t, mmJ gl nl P j t = mmJ gl2 nl P j t := by
  intro j
  induction j with
  | zero => intro t; rfl
  | succ j ih => intro t; rw [mmJ, mmJ, wlF_ag h, ih]
theorem mmP_ag {gl gl2 : Nat → Nat} {nl : Nat} (h : AgN gl gl2 nl) : ∀ i t, mmP gl nl i t = mmP gl2 nl i t := by
  intro i
  induction i with
  | zero => intro t; rfl
  | succ i ih => intro t; rw [mmP, mmP, mmJ_ag h, ih]
theorem gotR_ag {gl gl2 : Nat → Nat} {P : Nat} : ∀ f i x, (∀ q, i ≤ q → q < i + f → gl q = gl2 q) → gotR gl P f i x = gotR gl2 P f i x := by
  intro f
  induction f with
  | zero => intro i x _; rfl
  | succ f ih =>
    intro i x h
    rw [gotR, gotR, h i (Nat.le_refl _) (by omega), ih _ _ (fun q h1 h2 => h q (by omega) (by omega))]
theorem gotF_ag {gl gl2 : Nat → Nat} {nl P pt : Nat} (h : AgN gl gl2 nl) (a : Int) : gotF gl nl P pt a = gotF gl2 nl P pt a := by
  unfold gotF
  rw [gotR_ag nl 0 _ (fun q _ h2 => h q (by omega))]
theorem ssN_ag {gs gs2 : Nat → Nat} : ∀ k, AgN gs gs2 k → ssN gs k = ssN gs2 k := by
  intro k
  induction k with
  | zero => intro _; rfl
  | succ k ih => intro h; rw [ssN, ssN, ih (fun q hq => h q (by omega)), h k (by omega)]
theorem ws_ag {gw gw2 : Nat → Nat} {n : Nat} (h : AgN gw gw2 n) : ∀ k, k + 2 ≤ n → wsN gw k = wsN gw2 k ∧ metM gw k = metM gw2 k := by
  intro k
  induction k with
  | zero => intro _; exact ⟨rfl, rfl⟩
  | succ k ih =>
    intro hk
    obtain ⟨a, b⟩ := ih (by omega)
    rw [wsN, wsN, metM, metM, a, b, h (k + 2) (by omega)]
    exact ⟨rfl, rfl⟩
theorem wastedM_ag {gw gw2 : Nat → Nat} {P n : Nat} (h : AgN gw gw2 n) (hn : 3 ≤ n) (a : Int) : wastedM gw P n a = wastedM gw2 P n a := by
  unfold wastedM
  rw [(ws_ag h (n - 2) (by omega)).1, (ws_ag h (n - 2) (by omega)).2]
theorem creaseF_ag {n P : Nat} {gw gw2 go go2 gh gh2 : Nat → Nat} (hw : AgN gw gw2 n) (ho : AgN go go2 n) (hh : AgN gh gh2 n) (k a : Int) : creaseF n P gw go gh k a = creaseF n P gw2 go2 gh2 k a := by
  unfold creaseF
  by_cases h : (0 ≤ k ∧ k < (n : Int)) ∧ 0 ≤ a ∧ a ≤ 6
  · rw [if_pos h, if_pos h, hw k.toNat (by omega), ho k.toNat (by omega), hh k.toNat (by omega)]
  · rw [if_neg h, if_neg h]
theorem mid_ag {g g2 : Nat → Nat} {n i j : Nat} (h : AgN g g2 n) (hi : i < n) (hj : j < n) : AgN (mid g n i j) (mid g2 n i j) (n + 1) := fun q hq => by
  unfold mid
  by_cases e : q = n
  · rw [e, va_up_self, va_up_self, h i hi, h j hj]
  · rw [va_up_ne _ _ e, va_up_ne _ _ e]; exact h q (by omega)
theorem midH_ag {g g2 : Nat → Nat} {n i j : Nat} (h : AgN g g2 n) (hi : i < n) (hj : j < n) : AgN (midH g n i j) (midH g2 n i j) (n + 1) := fun q hq => by
  unfold midH
  by_cases e : q = n
  · rw [e, va_up_self, va_up_self, h i hi, h j hj]
  · rw [va_up_ne _ _ e, va_up_ne _ _ e]; exact h q (by omega)
theorem begW_ag (P p : Nat) (g g2 : Nat → Nat) : AgN (begW P p g) (begW P p g2) 3 := fun q hq => by
  unfold begW
  rcases (show q = 0 ∨ q = 1 ∨ q = 2 by omega) with rfl | rfl | rfl <;> simp [va_up]
theorem begO_ag (g g2 : Nat → Nat) : AgN (begO g) (begO g2) 3 := fun q hq => by
  unfold begO
  rcases (show q = 0 ∨ q = 1 ∨ q = 2 by omega) with rfl | rfl | rfl <;> simp [va_up]
theorem begH_ag (g g2 : Nat → Nat) : AgN (begH g) (begH g2) 3 := fun q hq => by
  unfold begH
  rcases (show q = 0 ∨ q = 1 ∨ q = 2 by omega) with rfl | rfl | rfl <;> simp [va_up]
theorem fdW_ag {ff g g2 : Nat → Nat} {nf : Nat} (hf : ∀ j, j < nf → ff (2 * j) < j + 3 ∧ ff (2 * j + 1) < j + 3) (h : AgN g g2 3) : ∀ k, k ≤ nf → AgN (fdW ff g k) (fdW ff g2 k) (3 + k) := by
  intro k
  induction k with
  | zero => intro _; exact h
  | succ k ih => intro hk; have h1 := hf k (by omega); exact mid_ag (ih (by omega)) (by omega) (by omega)
theorem fdH_ag {ff g g2 : Nat → Nat} {nf : Nat} (hf : ∀ j, j < nf → ff (2 * j) < j + 3 ∧ ff (2 * j + 1) < j + 3) (h : AgN g g2 3) : ∀ k, k ≤ nf → AgN (fdH ff g k) (fdH ff g2 k) (3 + k) := by
  intro k
  induction k with
  | zero => intro _; exact h
  | succ k ih => intro hk; have h1 := hf k (by omega); exact midH_ag (ih (by omega)) (by omega) (by omega)
theorem up_ag {g g2 : Nat → Nat} {n v : Nat} (h : AgN g g2 n) : AgN (va_up g n v) (va_up g2 n v) (n + 1) := fun q hq => by
  by_cases e : q = n
  · rw [e, va_up_self, va_up_self]
  · rw [va_up_ne _ _ e, va_up_ne _ _ e]; exact h q (by omega)
theorem AgN.le {g h : Nat → Nat} {n k : Nat} (a : AgN g h n) (hk : k ≤ n) : AgN g h k := fun q hq => a q (by omega)
