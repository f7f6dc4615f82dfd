/-! GuessFolds$Row -/
theorem x_max0 {k : Nat} (h : k < 2147483648) : (if nI k < nI 0 then nI 0 else nI k) = nI k := by
  rw [if_neg]
  rw [i_lt, nI_toI h, nI_toI (by decide)]
  omega
/-- the first k of src, then dst -/
def cpN (src dst : Nat → Nat) (k : Nat) : Nat → Nat := fun j => if j < k then src j else dst j
theorem cpN_0 (src dst : Nat → Nat) : cpN src dst 0 = dst := by funext j; simp [cpN]
theorem cpN_succ (src dst : Nat → Nat) (k : Nat) : va_up (cpN src dst k) k (src k) = cpN src dst (k + 1) := by
  funext j
  by_cases h : j = k
  · subst h; simp [va_up, cpN]
  · by_cases h2 : j < k
    · simp [va_up, cpN, h, h2, show j < k + 1 by omega]
    · simp [va_up, cpN, h, h2, show ¬ j < k + 1 by omega]

abbrev rm_X1_size : Room := { frames := 0, cells := 0, slots := 0, locals := 0 }
set_option maxHeartbeats 4000000 in
set_option maxRecDepth 100000 in
theorem c_X1_size (l : Launch) (G : XG) (a : Nat) (b : Nat) (n : Nat)  : CfI l yX1_size wsX1_size rm_X1_size G [.ref a] [(a, .inr (1, [.ref b, .int (nI n)]))] (nI n) [(a, .inr (1, [.ref b, .int (nI n)]))] := by
  refine CtI.go (cc := cX1_size) (maxL := 1) RX1 rfl (by decide) rfl (Nat.le_of_ble_eq_true rfl) ?_
  intro p e s m args below meth c A Q ls E hw hl hret
  have hx := E.1
  have hb := E.2.1
  have hinX1 : ∀ w ∈ wsX10, w ∈ wsX1_size := (fun w h => List.mem_cons_of_mem _ (List.mem_append_right _ h))
  have hl : lv_has ls 1 [(0, .ref a)] := hl
  refine lv_aload_n hx hb dX1_size_0 rfl (lv_at hl 0 rfl) ?_
  refine x_get E hw (C := RX1) (T := TX1) (N := 2) hinX1 0 rfl rfl 1 (by decide) rfl (List.mem_of_getElem? (i := 1) rfl) dX1_size_1 ?_
  exact hret (nI n) () _ _ _ _ dX1_size_4 rfl rfl hw

abbrev rm_X1_hasRoom : Room := { frames := 0, cells := 0, slots := 0, locals := 0 }
set_option maxHeartbeats 4000000 in
set_option maxRecDepth 100000 in
theorem c_X1_hasRoom (l : Launch) (G : XG) (a : Nat) (b : Nat) (n : Nat) (cap : Nat) (k : Nat) (g : Nat → Nat) (hb1 : n + k < 2147483648) (hb2 : cap < 2147483648) : CfI l yX1_hasRoom wsX1_hasRoom rm_X1_hasRoom G [.ref a, .int (nI k)] [(a, .inr (1, [.ref b, .int (nI n)])), (b, .inl (cJ G, cap, .inr (.inl (fJ g))))] (if n + k ≤ cap then 1 else 0) [(a, .inr (1, [.ref b, .int (nI n)])), (b, .inl (cJ G, cap, .inr (.inl (fJ g))))] := by
  refine CtI.go (cc := cX1_hasRoom) (maxL := 2) RX1 rfl (by decide) rfl (Nat.le_of_ble_eq_true rfl) ?_
  intro p e s m args below meth c A Q ls E hw hl hret
  have hx := E.1
  have hb := E.2.1
  have hinX1 : ∀ w ∈ wsX10, w ∈ wsX1_hasRoom := (fun w h => List.mem_cons_of_mem _ (List.mem_append_right _ h))
  have hl : lv_has ls 2 [(0, .ref a), (1, .int (nI k))] := hl
  refine lv_aload_n hx hb dX1_hasRoom_0 rfl (lv_at hl 0 rfl) ?_
  refine x_get E hw (C := RX1) (T := TX1) (N := 2) hinX1 0 rfl rfl 1 (by decide) rfl (List.mem_of_getElem? (i := 1) rfl) dX1_hasRoom_1 ?_
  refine lv_iload_n hx hb dX1_hasRoom_4 rfl (lv_at hl 1 rfl) ?_
  refine x_iadd E (v := (nI (n + k))) dX1_hasRoom_5 (nI_add _ _) ?_
  refine lv_aload_n hx hb dX1_hasRoom_6 rfl (lv_at hl 0 rfl) ?_
  refine x_get E hw (C := RX1) (T := TX1) (N := 2) hinX1 0 rfl rfl 0 (by decide) rfl (List.mem_of_getElem? (i := 2) rfl) dX1_hasRoom_7 ?_
  refine x_alen E hw 1 (a := b) rfl dX1_hasRoom_10 ?_
  refine x_icmp_gt E (nI_toI (show n + k < 2147483648 by omega)) (nI_toI (show cap < 2147483648 by omega)) (tgt := 18) dX1_hasRoom_11 (by decide) (fun c_1 => ?_) (fun c_1 => ?_)
  · refine lv_iconst (v := (nI 0)) hx hb dX1_hasRoom_18 (by decide) ?_
    exact hret (nI 0) () _ _ _ _ dX1_hasRoom_19 rfl ((if_neg (by omega)).symm) hw
  · refine lv_iconst (v := (nI 1)) hx hb dX1_hasRoom_14 (by decide) ?_
    refine lv_goto (tgt := 19) hx hb dX1_hasRoom_15 (by decide) ?_
    exact hret (nI 1) () _ _ _ _ dX1_hasRoom_19 rfl ((if_pos (by omega)).symm) hw

abbrev rm_X1_at : Room := { frames := 0, cells := 0, slots := 0, locals := 0 }
set_option maxHeartbeats 4000000 in
set_option maxRecDepth 100000 in
theorem c_X1_at (l : Launch) (G : XG) (a : Nat) (b : Nat) (n : Nat) (cap : Nat) (j : Nat) (g : Nat → Nat) (hj : j < cap) (hb2 : cap < 2147483648) : CfL l yX1_at wsX1_at rm_X1_at G [.ref a, .int (nI j)] [(a, .inr (1, [.ref b, .int (nI n)])), (b, .inl (cJ G, cap, .inr (.inl (fJ g))))] (lN (g j)) [(a, .inr (1, [.ref b, .int (nI n)])), (b, .inl (cJ G, cap, .inr (.inl (fJ g))))] := by
  refine CtL.go (cc := cX1_at) (maxL := 2) RX1 rfl (by decide) rfl (Nat.le_of_ble_eq_true rfl) ?_
  intro p e s m args below meth c A Q ls E hw hl hret
  have hx := E.1
  have hb := E.2.1
  have hinX1 : ∀ w ∈ wsX10, w ∈ wsX1_at := (fun w h => List.mem_cons_of_mem _ (List.mem_append_right _ h))
  have hl : lv_has ls 2 [(0, .ref a), (1, .int (nI j))] := hl
  refine lv_iload_n hx hb dX1_at_0 rfl (lv_at hl 1 rfl) ?_
  refine x_if_lt E (nI_toI (show j < 2147483648 by omega)) (tgt := 22) dX1_at_1 (by decide) (fun c_1 => ?_) (fun c_1 => ?_)
  · exfalso; omega
  · refine lv_iload_n hx hb dX1_at_4 rfl (lv_at hl 1 rfl) ?_
    refine lv_aload_n hx hb dX1_at_5 rfl (lv_at hl 0 rfl) ?_
    refine x_get E hw (C := RX1) (T := TX1) (N := 2) hinX1 0 rfl rfl 0 (by decide) rfl (List.mem_of_getElem? (i := 1) rfl) dX1_at_6 ?_
    refine x_alen E hw 1 (a := b) rfl dX1_at_9 ?_
    refine x_icmp_ge E (nI_toI (show j < 2147483648 by omega)) (nI_toI (show cap < 2147483648 by omega)) (tgt := 22) dX1_at_10 (by decide) (fun c_2 => ?_) (fun c_2 => ?_)
    · exfalso; omega
    · refine lv_aload_n hx hb dX1_at_13 rfl (lv_at hl 0 rfl) ?_
      refine x_get E hw (C := RX1) (T := TX1) (N := 2) hinX1 0 rfl rfl 0 (by decide) rfl (List.mem_of_getElem? (i := 1) rfl) dX1_at_14 ?_
      refine lv_iload_n hx hb dX1_at_17 rfl (lv_at hl 1 rfl) ?_
      refine x_lald E hw 1 (a := b) (v := (lN (g j))) rfl rfl (show j < cap by omega) (by omega) rfl dX1_at_18 ?_
      refine lv_goto (tgt := 23) hx hb dX1_at_19 (by decide) ?_
      exact hret (lN (g j)) () _ _ _ _ dX1_at_23 rfl hw

abbrev rm_X1_add : Room := { frames := 0, cells := 0, slots := 0, locals := 0 }
set_option maxHeartbeats 4000000 in
set_option maxRecDepth 100000 in
theorem c_X1_add (l : Launch) (G : XG) (a : Nat) (b : Nat) (n : Nat) (cap : Nat) (v : Nat) (g : Nat → Nat) (hj : n < cap) (hb2 : cap < 2147483648) : CfV l yX1_add wsX1_add rm_X1_add G [.ref a, .long (lN v)] [(a, .inr (1, [.ref b, .int (nI n)])), (b, .inl (cJ G, cap, .inr (.inl (fJ g))))] [(a, .inr (1, [.ref b, .int (nI (n + 1))])), (b, .inl (cJ G, cap, .inr (.inl (fJ (va_up g n v)))))] := by
  refine CtV.go (cc := cX1_add) (maxL := 3) RX1 rfl (by decide) rfl (Nat.le_of_ble_eq_true rfl) ?_
  intro p e s m args below meth c A Q ls E hw hl hret
  have hx := E.1
  have hb := E.2.1
  have hinX1 : ∀ w ∈ wsX10, w ∈ wsX1_add := (fun w h => List.mem_cons_of_mem _ (List.mem_append_right _ h))
  have hl : lv_has ls 3 [(0, .ref a), (1, .long (lN v))] := hl
  refine lv_aload_n hx hb dX1_add_0 rfl (lv_at hl 0 rfl) ?_
  refine x_get E hw (C := RX1) (T := TX1) (N := 2) hinX1 0 rfl rfl 1 (by decide) rfl (List.mem_of_getElem? (i := 1) rfl) dX1_add_1 ?_
  refine x_if_lt E (nI_toI (show n < 2147483648 by omega)) (tgt := 39) dX1_add_4 (by decide) (fun c_1 => ?_) (fun c_1 => ?_)
  · exfalso; omega
  · refine lv_aload_n hx hb dX1_add_7 rfl (lv_at hl 0 rfl) ?_
    refine x_get E hw (C := RX1) (T := TX1) (N := 2) hinX1 0 rfl rfl 1 (by decide) rfl (List.mem_of_getElem? (i := 1) rfl) dX1_add_8 ?_
    refine lv_aload_n hx hb dX1_add_11 rfl (lv_at hl 0 rfl) ?_
    refine x_get E hw (C := RX1) (T := TX1) (N := 2) hinX1 0 rfl rfl 0 (by decide) rfl (List.mem_of_getElem? (i := 2) rfl) dX1_add_12 ?_
    refine x_alen E hw 1 (a := b) rfl dX1_add_15 ?_
    refine x_icmp_ge E (nI_toI (show n < 2147483648 by omega)) (nI_toI (show cap < 2147483648 by omega)) (tgt := 39) dX1_add_16 (by decide) (fun c_2 => ?_) (fun c_2 => ?_)
    · exfalso; omega
    · refine lv_aload_n hx hb dX1_add_19 rfl (lv_at hl 0 rfl) ?_
      refine x_get E hw (C := RX1) (T := TX1) (N := 2) hinX1 0 rfl rfl 0 (by decide) rfl (List.mem_of_getElem? (i := 2) rfl) dX1_add_20 ?_
      refine lv_aload_n hx hb dX1_add_23 rfl (lv_at hl 0 rfl) ?_
      refine x_get E hw (C := RX1) (T := TX1) (N := 2) hinX1 0 rfl rfl 1 (by decide) rfl (List.mem_of_getElem? (i := 1) rfl) dX1_add_24 ?_
      refine lv_lload_n hx hb dX1_add_27 rfl (lv_at hl 1 rfl) ?_
      refine x_last E hw 1 (a := b) (ws1 := [(a, .inr (1, [.ref b, .int (nI n)])), (b, .inl (cJ G, cap, .inr (.inl (fJ (va_up g n v)))))]) rfl rfl (show n < cap by omega) (by omega) (fJ_up _ _ _) rfl dX1_add_28 (fun H locs hw => ?_)
      refine lv_aload_n hx hb dX1_add_29 rfl (lv_at hl 0 rfl) ?_
      refine lv_dup hx hb dX1_add_30 rfl ?_
      refine x_get E hw (C := RX1) (T := TX1) (N := 2) hinX1 0 rfl rfl 1 (by decide) rfl (List.mem_of_getElem? (i := 1) rfl) dX1_add_31 ?_
      refine lv_iconst (v := (nI 1)) hx hb dX1_add_34 (by decide) ?_
      refine x_iadd E (v := (nI (n + 1))) dX1_add_35 (nI_add _ _) ?_
      refine x_put E hw (C := RX1) (T := TX1) (N := 2) (ws1 := [(a, .inr (1, [.ref b, .int (nI (n + 1))])), (b, .inl (cJ G, cap, .inr (.inl (fJ (va_up g n v)))))]) hinX1 tyX1_ok nmX1 0 rfl rfl 1 (by decide) (List.mem_of_getElem? (i := 1) rfl) rfl rfl rfl (Nat.le_of_ble_eq_true rfl) rfl dX1_add_36 (fun H locs hw => ?_)
      exact hret () _ _ _ _ dX1_add_39 trivial hw

abbrev rm_X1_dropLast : Room := { frames := 1, cells := 0, slots := 0, locals := 21 }
set_option maxHeartbeats 4000000 in
set_option maxRecDepth 100000 in
theorem c_X1_dropLast (l : Launch) (G : XG) (a : Nat) (b : Nat) (n : Nat) (hj : 1 ≤ n) (hb2 : n < 2147483648) : CfV l yX1_dropLast wsX1_dropLast rm_X1_dropLast G [.ref a] [(a, .inr (1, [.ref b, .int (nI n)]))] [(a, .inr (1, [.ref b, .int (nI (n - 1))]))] := by
  refine CtV.go (cc := cX1_dropLast) (maxL := 1) RX1 rfl (by decide) rfl (Nat.le_of_ble_eq_true rfl) ?_
  intro p e s m args below meth c A Q ls E hw hl hret
  have hx := E.1
  have hb := E.2.1
  have hinX1 : ∀ w ∈ wsX10, w ∈ wsX1_dropLast := (fun w h => List.mem_cons_of_mem _ (List.mem_append_right _ h))
  have hl : lv_has ls 1 [(0, .ref a)] := hl
  refine lv_aload_n hx hb dX1_dropLast_0 rfl (lv_at hl 0 rfl) ?_
  refine lv_aload_n hx hb dX1_dropLast_1 rfl (lv_at hl 0 rfl) ?_
  refine x_get E hw (C := RX1) (T := TX1) (N := 2) hinX1 0 rfl rfl 1 (by decide) rfl (List.mem_of_getElem? (i := 1) rfl) dX1_dropLast_2 ?_
  refine lv_iconst (v := (nI 1)) hx hb dX1_dropLast_5 (by decide) ?_
  refine x_isub E (v := (nI (n - 1))) dX1_dropLast_6 (pk_sub (by omega)) ?_
  refine lv_iconst (v := (nI 0)) hx hb dX1_dropLast_7 (by decide) ?_
  refine va_mmax hx hb (by rw [E.2.2.1]; exact hl.1.symm) E.2.2.2.1 (E.2.2.2.2 _ (List.mem_of_getElem? (i := 2) rfl)) (E.2.2.2.2 _ (List.mem_of_getElem? (i := 3) rfl)) (E.2.2.2.2 _ (List.mem_of_getElem? (i := 4) rfl)) (E.2.2.2.2 _ (List.mem_of_getElem? (i := 5) rfl)) (Nat.le_of_ble_eq_true rfl) (Nat.le_of_ble_eq_true rfl) (Nat.le_of_ble_eq_true rfl) (Nat.le_of_ble_eq_true rfl) dX1_dropLast_8 ?_
  refine x_topi (v := (nI (n - 1))) (x_max0 (by omega)) ?_
  refine x_put E hw (C := RX1) (T := TX1) (N := 2) (ws1 := [(a, .inr (1, [.ref b, .int (nI (n - 1))]))]) hinX1 tyX1_ok nmX1 0 rfl rfl 1 (by decide) (List.mem_of_getElem? (i := 1) rfl) rfl rfl rfl (Nat.le_of_ble_eq_true rfl) rfl dX1_dropLast_11 (fun H locs hw => ?_)
  exact hret () _ _ _ _ dX1_dropLast_14 trivial hw

abbrev rm_X1_empty : Room := { frames := 0, cells := 0, slots := 0, locals := 0 }
set_option maxHeartbeats 4000000 in
set_option maxRecDepth 100000 in
theorem c_X1_empty (l : Launch) (G : XG) (a : Nat) (b : Nat) (n : Nat)  : CfI l yX1_empty wsX1_empty rm_X1_empty G [.ref a] [(a, .inr (1, [.ref b, .int (nI n)]))] (nI n) [(a, .inr (1, [.ref b, .int (nI 0)]))] := by
  refine CtI.go (cc := cX1_empty) (maxL := 2) RX1 rfl (by decide) rfl (Nat.le_of_ble_eq_true rfl) ?_
  intro p e s m args below meth c A Q ls E hw hl hret
  have hx := E.1
  have hb := E.2.1
  have hinX1 : ∀ w ∈ wsX10, w ∈ wsX1_empty := (fun w h => List.mem_cons_of_mem _ (List.mem_append_right _ h))
  have hl : lv_has ls 2 [(0, .ref a)] := hl
  refine lv_aload_n hx hb dX1_empty_0 rfl (lv_at hl 0 rfl) ?_
  refine x_get E hw (C := RX1) (T := TX1) (N := 2) hinX1 0 rfl rfl 1 (by decide) rfl (List.mem_of_getElem? (i := 1) rfl) dX1_empty_1 ?_
  refine lv_istore_n (lv' := [(1, .int (nI n)), (0, .ref a)]) hx hb dX1_empty_4 rfl hl (by decide) rfl (fun ls hl => ?_)
  refine lv_aload_n hx hb dX1_empty_5 rfl (lv_at hl 1 rfl) ?_
  refine lv_iconst (v := (nI 0)) hx hb dX1_empty_6 (by decide) ?_
  refine x_put E hw (C := RX1) (T := TX1) (N := 2) (ws1 := [(a, .inr (1, [.ref b, .int (nI 0)]))]) hinX1 tyX1_ok nmX1 0 rfl rfl 1 (by decide) (List.mem_of_getElem? (i := 1) rfl) rfl rfl rfl (Nat.le_of_ble_eq_true rfl) rfl dX1_empty_7 (fun H locs hw => ?_)
  refine lv_iload_n hx hb dX1_empty_10 rfl (lv_at hl 0 rfl) ?_
  exact hret (nI n) () _ _ _ _ dX1_empty_11 rfl rfl hw

abbrev rm_X1_copy : Room := { frames := 1, cells := 0, slots := 0, locals := 22 }
set_option maxHeartbeats 4000000 in
set_option maxRecDepth 100000 in
theorem c_X1_copy (l : Launch) (G : XG) (a : Nat) (b : Nat) (a2 : Nat) (b2 : Nat) (n : Nat) (n2 : Nat) (cap : Nat) (g : Nat → Nat) (g2 : Nat → Nat) (hj : n2 ≤ cap) (hb2 : cap < 2147483648) : CfV l yX1_copy wsX1_copy rm_X1_copy G [.ref a, .ref a2] [(a, .inr (1, [.ref b, .int (nI n)])), (b, .inl (cJ G, cap, .inr (.inl (fJ g)))), (a2, .inr (1, [.ref b2, .int (nI n2)])), (b2, .inl (cJ G, cap, .inr (.inl (fJ g2))))] [(a, .inr (1, [.ref b, .int (nI n2)])), (b, .inl (cJ G, cap, .inr (.inl (fJ (cpN g2 g n2))))), (a2, .inr (1, [.ref b2, .int (nI n2)])), (b2, .inl (cJ G, cap, .inr (.inl (fJ g2))))] := by
  refine CtV.go (cc := cX1_copy) (maxL := 3) RX1 rfl (by decide) rfl (Nat.le_of_ble_eq_true rfl) ?_
  intro p e s m args below meth c A Q ls E hw hl hret
  have hx := E.1
  have hb := E.2.1
  have hinX1 : ∀ w ∈ wsX10, w ∈ wsX1_copy := (fun w h => List.mem_cons_of_mem _ (List.mem_append_right _ h))
  have hl : lv_has ls 3 [(0, .ref a), (1, .ref a2)] := hl
  refine lv_aload_n hx hb dX1_copy_0 rfl (lv_at hl 1 rfl) ?_
  refine lv_ifnull hx hb dX1_copy_1 ?_
  refine lv_aload_n hx hb dX1_copy_4 rfl (lv_at hl 1 rfl) ?_
  refine lv_aload_n hx hb dX1_copy_5 rfl (lv_at hl 0 rfl) ?_
  refine lv_acmp_ne (rx := some a2) (ry := some a) (tgt := 10) hx hb dX1_copy_6 (by decide) (fun _ => ?_) (fun h => absurd (hw.2.2.1.1 2 0 _ _ rfl rfl (Option.some.inj h)) (by decide))
  refine lv_aload_n hx hb dX1_copy_10 rfl (lv_at hl 0 rfl) ?_
  refine x_cfVi E hw hl.1 (As := []) (rest := []) (c_X1_empty l G a b n) 0 gX1_copy_X1_empty rfl rfl rfl (by decide) ⟨Nat.le_of_ble_eq_true rfl, Nat.le_of_ble_eq_true rfl⟩ ⟨Nat.le_of_ble_eq_true rfl, Nat.le_of_ble_eq_true rfl⟩ rfl 0 (ci := 1) (C := RX1) (T := TX1) (N := 2) rfl rfl [0] [1, 2, 3] rfl rfl rfl rfl rfl [3, 0, 1, 2] [(a, .inr (1, [.ref b, .int (nI 0)])), (b, .inl (cJ G, cap, .inr (.inl (fJ g)))), (a2, .inr (1, [.ref b2, .int (nI n2)])), (b2, .inl (cJ G, cap, .inr (.inl (fJ g2))))] rfl rfl rfl (Nat.le_of_ble_eq_true rfl) dX1_copy_11 (fun H locs hw => ?_)
  refine lv_pop hx hb dX1_copy_14 rfl ?_
  refine lv_iconst (v := (nI 0)) hx hb dX1_copy_15 (by decide) ?_
  refine lv_istore_n (lv' := [(2, .int (nI 0)), (0, .ref a), (1, .ref a2)]) hx hb dX1_copy_16 rfl hl (by decide) rfl (fun ls hl => ?_)
  have loop_17 : ∀ (n : Nat) (i : Nat), i ≤ n2 → n2 - i < n → ∀ (H : Heap) (locs : List Loc) (ls : Array Slot), Wd G s A [(a, .inr (1, [.ref b, .int (nI i)])), (b, .inl (cJ G, cap, .inr (.inl (fJ (cpN g2 g i))))), (a2, .inr (1, [.ref b2, .int (nI n2)])), (b2, .inl (cJ G, cap, .inr (.inl (fJ g2))))] H locs → lv_has ls 3 [(0, .ref a), (1, .ref a2), (2, .int (nI i))] → W p l e rm_X1_copy s m args below meth c H locs 0 0 Q (F0 m 17 ls []) := by
    intro n
    induction n with
    | zero =>
      intro i hi hmu
      exact absurd hmu (Nat.not_lt_zero _)
    | succ n ih_17 =>
      intro i hi hmu_17 H locs ls hw hl
      refine lv_iload_n hx hb dX1_copy_17 rfl (lv_at hl 2 rfl) ?_
      refine lv_aload_n hx hb dX1_copy_18 rfl (lv_at hl 1 rfl) ?_
      refine x_get E hw (C := RX1) (T := TX1) (N := 2) hinX1 2 rfl rfl 1 (by decide) rfl (List.mem_of_getElem? (i := 1) rfl) dX1_copy_19 ?_
      refine x_icmp_ge E (nI_toI (show i < 2147483648 by omega)) (nI_toI (show n2 < 2147483648 by omega)) (tgt := 40) dX1_copy_22 (by decide) (fun c_1 => ?_) (fun c_1 => ?_)
      · exact hret () _ _ _ _ dX1_copy_40 trivial (hw.cast (by rw [show i = n2 by omega]))
      · refine lv_aload_n hx hb dX1_copy_25 rfl (lv_at hl 0 rfl) ?_
        refine lv_aload_n hx hb dX1_copy_26 rfl (lv_at hl 1 rfl) ?_
        refine lv_iload_n hx hb dX1_copy_27 rfl (lv_at hl 2 rfl) ?_
        refine x_cfVl E hw hl.1 (As := [.int (nI i)]) (rest := [.ref a]) (c_X1_at l G a2 b2 n2 cap i g2 (by omega) (by omega)) 1 gX1_copy_X1_at rfl rfl rfl (by decide) ⟨Nat.le_of_ble_eq_true rfl, Nat.le_of_ble_eq_true rfl⟩ ⟨Nat.le_of_ble_eq_true rfl, Nat.le_of_ble_eq_true rfl⟩ rfl 2 (ci := 1) (C := RX1) (T := TX1) (N := 2) rfl rfl [2, 3] [0, 1] rfl rfl rfl rfl rfl [0, 1, 2, 3] [(a, .inr (1, [.ref b, .int (nI i)])), (b, .inl (cJ G, cap, .inr (.inl (fJ (cpN g2 g i))))), (a2, .inr (1, [.ref b2, .int (nI n2)])), (b2, .inl (cJ G, cap, .inr (.inl (fJ g2))))] rfl rfl rfl (Nat.le_of_ble_eq_true rfl) dX1_copy_28 (fun H locs hw => ?_)
        refine x_cfVv E hw hl.1 (As := [.long (lN (g2 i))]) (rest := []) (c_X1_add l G a b i cap (g2 i) (cpN g2 g i) (by omega) (by omega)) 1 gX1_copy_X1_add rfl rfl rfl (by decide) ⟨Nat.le_of_ble_eq_true rfl, Nat.le_of_ble_eq_true rfl⟩ ⟨Nat.le_of_ble_eq_true rfl, Nat.le_of_ble_eq_true rfl⟩ rfl 0 (ci := 1) (C := RX1) (T := TX1) (N := 2) rfl rfl [0, 1] [2, 3] rfl rfl rfl rfl rfl [2, 3, 0, 1] [(a, .inr (1, [.ref b, .int (nI (i + 1))])), (b, .inl (cJ G, cap, .inr (.inl (fJ (va_up (cpN g2 g i) i (g2 i)))))), (a2, .inr (1, [.ref b2, .int (nI n2)])), (b2, .inl (cJ G, cap, .inr (.inl (fJ g2))))] rfl rfl rfl (Nat.le_of_ble_eq_true rfl) dX1_copy_31 (fun H locs hw => ?_)
        refine lv_iinc (v := (nI (i + 1))) (lv' := [(2, .int (nI (i + 1))), (0, .ref a), (1, .ref a2)]) hx hb dX1_copy_34 hl (k := 2) rfl (x_inc1 _) (by decide) rfl (fun ls hl => ?_)
        refine lv_goto (tgt := 17) hx hb dX1_copy_37 (by decide) ?_
        exact ih_17 (i + 1) (by omega) (by omega) _ _ _ (hw.cast (by rw [cpN_succ])) (lv_sub hl [1, 2, 0] rfl)
  exact loop_17 (n2 - 0 + 1) 0 (by omega) (Nat.lt_succ_self _) _ _ _ (hw.cast (by rw [cpN_0])) (lv_sub hl [1, 2, 0] rfl)
