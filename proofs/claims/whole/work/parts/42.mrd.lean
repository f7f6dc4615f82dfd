/-! reading of the reference: what it holds of a text -/
theorem kdM_le (gb : Nat → Nat) (N p : Nat) : kdM gb N p ≤ 4 := by
  unfold kdM
  repeat' split
  all_goals omega
theorem atM_le {gb : Nat → Nat} {N p : Nat} (h : p ≤ N) : atM gb N p ≤ N := by
  unfold atM lr dr
  have h1 := (lrL_ge gb N (N - p) p).2 h
  have h2 := (drL_ge gb N (N - p) p).2 h
  repeat' split
  all_goals omega
def tI (x : Nat) : Int32 := nI x + (-1)
def tA (t : Nat → Nat) : Nat → Int32 := fun j => tI (t j)
theorem tI_toI {x : Nat} (h : x < 2147483648) : (tI x).toInt = (x : Int) - 1 := x_m1 h
theorem tI_succ (v : Nat) : tI (v + 1) = nI v := pk_m1 v
theorem tI_pos {x : Nat} (h : 0 < x) : tI x = nI (x - 1) := by
  obtain ⟨v, rfl⟩ : ∃ v, x = v + 1 := ⟨x - 1, by omega⟩
  rw [tI_succ, Nat.add_sub_cancel]
theorem tA_up (t : Nat → Nat) (k v : Nat) : upd (tA t) k (nI v) = tA (va_up t k (v + 1)) := by
  funext j
  unfold upd tA va_up
  split
  · exact (tI_succ v).symm
  · rfl
theorem tA_up0 (t : Nat → Nat) (k : Nat) : upd (tA t) k (-1 : Int32) = tA (va_up t k 0) := by
  funext j
  unfold upd tA va_up
  split
  · show _ = nI 0 + (-1); decide
  · rfl
