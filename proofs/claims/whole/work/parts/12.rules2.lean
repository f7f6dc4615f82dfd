section XR2
variable {p : Program} {l : Launch} {e : Env} {R : Room} {s : State} {m : MethodId} {args : Array Value} {below : List Frame} {meth : Method} {c : Code} {H : Heap} {locs : List Loc} {Q : State → Prop} {cc : ByteArray} {pc nL : Nat} {ls : Array Slot} {rest : List Value} {Ts : List Cond} {own : String} {G : XG} {A : Nat → Prop} {ws ws1 : va_W} {cells slots : Nat}
theorem x_topi {x v : Int32} (h : x = v) (k : W p l e R s m args below meth c H locs cells slots Q (F0 m pc ls (.int v :: rest))) : W p l e R s m args below meth c H locs cells slots Q (F0 m pc ls (.int x :: rest)) := h ▸ k
theorem x_topl {x v : Int64} (h : x = v) (k : W p l e R s m args below meth c H locs cells slots Q (F0 m pc ls (.long v :: rest))) : W p l e R s m args below meth c H locs cells slots Q (F0 m pc ls (.long x :: rest)) := h ▸ k
end XR2
theorem lN_ne0 {n : Nat} (h0 : 0 < n) (h : n < 9223372036854775808) : ¬ lN n = 0 := fun e => by
  have h1 : (lN n).toInt = (n : Int) := lN_toI h
  rw [e] at h1
  have h2 : (0 : Int64).toInt = 0 := by decide
  omega
theorem x_inc1 (a : Nat) : nI a + Int32.ofInt 1 = nI (a + 1) := nI_1 a
theorem x_dec1 {a : Nat} (h : 1 ≤ a) : nI a + Int32.ofInt (-1) = nI (a - 1) := by
  obtain ⟨b, rfl⟩ : ∃ b, a = b + 1 := ⟨a - 1, by omega⟩
  exact pk_m1 b
theorem x_incK (a k : Nat) (K : Int) (hK : Int32.ofInt K = nI k) : nI a + Int32.ofInt K = nI (a + k) := by rw [hK, nI_add]
theorem i_nI (x : Int32) (h0 : 0 ≤ x.toInt) : ∃ j : Nat, j < 2147483648 ∧ x.toInt = (j : Int) ∧ x = nI j := by
  obtain ⟨j, h1, h2⟩ := nI_of (x := x) (by rw [i_lt, i_z]; omega)
  exact ⟨j, h1, by rw [h2]; exact nI_toI h1, h2⟩
