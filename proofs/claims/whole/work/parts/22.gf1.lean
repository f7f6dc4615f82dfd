abbrev rm_X3_isCrease : Room := { frames := 2, cells := 0, slots := 0, locals := 40 }
set_option maxHeartbeats 4000000 in
set_option maxRecDepth 100000 in
theorem c_X3_isCrease (l : Launch) (G : XG) (x : Nat) (tx : Nat) (o : Nat) (o1 : Nat) (o2 : Nat) (pa : Nat) (pt : Nat) (off : Nat) (ha : Nat) (tr : Int64) (r0 : Nat) (r1 : Nat) (r2 : Nat) (r3 : Nat) (r4 : Nat) (q0 : Nat) (n : Nat) (k : Int32) (hn : n ≤ 23) : CfI l yX3_isCrease wsX3_isCrease rm_X3_isCrease G [.ref x, .int k] [(x, .inr (3, [.ref tx, .ref o, .ref o1, .ref o2, .int (nI pa), .int (nI pt), .int (nI off), .int (nI ha), .long tr])), (o, .inr (0, [.ref r0, .ref r1, .ref r2, .ref r3, .ref r4])), (r0, .inr (1, [.ref q0, .int (nI n)]))] (if 0 ≤ k.toInt ∧ k.toInt < (n : Int) then 1 else 0) [(x, .inr (3, [.ref tx, .ref o, .ref o1, .ref o2, .int (nI pa), .int (nI pt), .int (nI off), .int (nI ha), .long tr])), (o, .inr (0, [.ref r0, .ref r1, .ref r2, .ref r3, .ref r4])), (r0, .inr (1, [.ref q0, .int (nI n)]))] := by
  refine CtI.go (cc := cX3_isCrease) (maxL := 2) RX3 rfl (by decide) rfl (Nat.le_of_ble_eq_true rfl) ?_
  intro p e s m args below meth c A Q ls E hw hl hret
  have hx := E.1
  have hb := E.2.1
  have hinX3 : ∀ w ∈ wsX30, w ∈ wsX3_isCrease := (fun w h => List.mem_cons_of_mem _ (List.mem_append_left _ (List.mem_append_left _ (List.mem_append_right _ h))))
  have hl : lv_has ls 2 [(0, .ref x), (1, .int k)] := hl
  refine lv_iload_n hx hb dX3_isCrease_0 rfl (lv_at hl 1 rfl) ?_
  refine x_if_lt E rfl (tgt := 19) dX3_isCrease_1 (by decide) (fun c_1 => ?_) (fun c_1 => ?_)
  · refine lv_iconst (v := (nI 0)) hx hb dX3_isCrease_19 (by decide) ?_
    exact hret (nI 0) () _ _ _ _ dX3_isCrease_20 rfl ((if_neg (by omega)).symm) hw
  · refine lv_iload_n hx hb dX3_isCrease_4 rfl (lv_at hl 1 rfl) ?_
    refine lv_aload_n hx hb dX3_isCrease_5 rfl (lv_at hl 0 rfl) ?_
    refine x_get E hw (C := RX3) (T := TX3) (N := 9) hinX3 0 rfl rfl 1 (by decide) rfl (List.mem_of_getElem? (i := 1) rfl) dX3_isCrease_6 ?_
    refine x_cfVi E hw hl.1 (As := []) (rest := [.int k]) (c_X0_creases l G o r0 r1 r2 r3 r4 q0 n) 0 gX3_isCrease_X0_creases rfl rfl rfl (by decide) ⟨Nat.le_of_ble_eq_true rfl, Nat.le_of_ble_eq_true rfl⟩ ⟨Nat.le_of_ble_eq_true rfl, Nat.le_of_ble_eq_true rfl⟩ rfl 1 (ci := 0) (C := RX0) (T := TX0) (N := 5) rfl rfl [1, 2] [0] rfl rfl rfl rfl rfl [0, 1, 2] [(x, .inr (3, [.ref tx, .ref o, .ref o1, .ref o2, .int (nI pa), .int (nI pt), .int (nI off), .int (nI ha), .long tr])), (o, .inr (0, [.ref r0, .ref r1, .ref r2, .ref r3, .ref r4])), (r0, .inr (1, [.ref q0, .int (nI n)]))] rfl rfl rfl (Nat.le_of_ble_eq_true rfl) dX3_isCrease_9 (fun H locs hw => ?_)
    refine x_icmp_ge E rfl (nI_toI (show n < 2147483648 by omega)) (tgt := 19) dX3_isCrease_12 (by decide) (fun c_2 => ?_) (fun c_2 => ?_)
    · refine lv_iconst (v := (nI 0)) hx hb dX3_isCrease_19 (by decide) ?_
      exact hret (nI 0) () _ _ _ _ dX3_isCrease_20 rfl ((if_neg (by omega)).symm) hw
    · refine lv_iconst (v := (nI 1)) hx hb dX3_isCrease_15 (by decide) ?_
      refine lv_goto (tgt := 20) hx hb dX3_isCrease_16 (by decide) ?_
      exact hret (nI 1) () _ _ _ _ dX3_isCrease_20 rfl ((if_pos (by omega)).symm) hw

abbrev rm_X3_isFolded : Room := { frames := 2, cells := 0, slots := 0, locals := 40 }
set_option maxHeartbeats 4000000 in
set_option maxRecDepth 100000 in
theorem c_X3_isFolded (l : Launch) (G : XG) (x : Nat) (tx : Nat) (o : Nat) (o1 : Nat) (o2 : Nat) (pa : Nat) (pt : Nat) (off : Nat) (ha : Nat) (tr : Int64) (r0 : Nat) (r1 : Nat) (r2 : Nat) (r3 : Nat) (r4 : Nat) (q0 : Nat) (n : Nat) (hn : n ≤ 23) : CfI l yX3_isFolded wsX3_isFolded rm_X3_isFolded G [.ref x] [(x, .inr (3, [.ref tx, .ref o, .ref o1, .ref o2, .int (nI pa), .int (nI pt), .int (nI off), .int (nI ha), .long tr])), (o, .inr (0, [.ref r0, .ref r1, .ref r2, .ref r3, .ref r4])), (r0, .inr (1, [.ref q0, .int (nI n)]))] (if 23 ≤ n then 1 else 0) [(x, .inr (3, [.ref tx, .ref o, .ref o1, .ref o2, .int (nI pa), .int (nI pt), .int (nI off), .int (nI ha), .long tr])), (o, .inr (0, [.ref r0, .ref r1, .ref r2, .ref r3, .ref r4])), (r0, .inr (1, [.ref q0, .int (nI n)]))] := by
  refine CtI.go (cc := cX3_isFolded) (maxL := 1) RX3 rfl (by decide) rfl (Nat.le_of_ble_eq_true rfl) ?_
  intro p e s m args below meth c A Q ls E hw hl hret
  have hx := E.1
  have hb := E.2.1
  have hinX3 : ∀ w ∈ wsX30, w ∈ wsX3_isFolded := (fun w h => List.mem_cons_of_mem _ (List.mem_append_left _ (List.mem_append_left _ (List.mem_append_right _ h))))
  have hl : lv_has ls 1 [(0, .ref x)] := hl
  refine lv_aload_n hx hb dX3_isFolded_0 rfl (lv_at hl 0 rfl) ?_
  refine x_get E hw (C := RX3) (T := TX3) (N := 9) hinX3 0 rfl rfl 1 (by decide) rfl (List.mem_of_getElem? (i := 1) rfl) dX3_isFolded_1 ?_
  refine x_cfVi E hw hl.1 (As := []) (rest := []) (c_X0_creases l G o r0 r1 r2 r3 r4 q0 n) 0 gX3_isFolded_X0_creases rfl rfl rfl (by decide) ⟨Nat.le_of_ble_eq_true rfl, Nat.le_of_ble_eq_true rfl⟩ ⟨Nat.le_of_ble_eq_true rfl, Nat.le_of_ble_eq_true rfl⟩ rfl 1 (ci := 0) (C := RX0) (T := TX0) (N := 5) rfl rfl [1, 2] [0] rfl rfl rfl rfl rfl [0, 1, 2] [(x, .inr (3, [.ref tx, .ref o, .ref o1, .ref o2, .int (nI pa), .int (nI pt), .int (nI off), .int (nI ha), .long tr])), (o, .inr (0, [.ref r0, .ref r1, .ref r2, .ref r3, .ref r4])), (r0, .inr (1, [.ref q0, .int (nI n)]))] rfl rfl rfl (Nat.le_of_ble_eq_true rfl) dX3_isFolded_4 (fun H locs hw => ?_)
  refine lv_bipush (v := (nI 23)) hx hb dX3_isFolded_7 (by decide) ?_
  refine x_icmp_lt E (nI_toI (show n < 2147483648 by omega)) (nI_toI (by decide)) (tgt := 16) dX3_isFolded_9 (by decide) (fun c_1 => ?_) (fun c_1 => ?_)
  · refine lv_iconst (v := (nI 0)) hx hb dX3_isFolded_16 (by decide) ?_
    exact hret (nI 0) () _ _ _ _ dX3_isFolded_17 rfl ((if_neg (by omega)).symm) hw
  · refine lv_iconst (v := (nI 1)) hx hb dX3_isFolded_12 (by decide) ?_
    refine lv_goto (tgt := 17) hx hb dX3_isFolded_13 (by decide) ?_
    exact hret (nI 1) () _ _ _ _ dX3_isFolded_17 rfl ((if_pos (by omega)).symm) hw

abbrev rm_X3_latest : Room := { frames := 2, cells := 0, slots := 0, locals := 40 }
set_option maxHeartbeats 4000000 in
set_option maxRecDepth 100000 in
theorem c_X3_latest (l : Launch) (G : XG) (x : Nat) (tx : Nat) (o : Nat) (o1 : Nat) (o2 : Nat) (pa : Nat) (pt : Nat) (off : Nat) (ha : Nat) (tr : Int64) (r0 : Nat) (r1 : Nat) (r2 : Nat) (r3 : Nat) (r4 : Nat) (q0 : Nat) (n : Nat) (hn : 1 ≤ n) (hn2 : n ≤ 23) : CfI l yX3_latest wsX3_latest rm_X3_latest G [.ref x] [(x, .inr (3, [.ref tx, .ref o, .ref o1, .ref o2, .int (nI pa), .int (nI pt), .int (nI off), .int (nI ha), .long tr])), (o, .inr (0, [.ref r0, .ref r1, .ref r2, .ref r3, .ref r4])), (r0, .inr (1, [.ref q0, .int (nI n)]))] (nI (n - 1)) [(x, .inr (3, [.ref tx, .ref o, .ref o1, .ref o2, .int (nI pa), .int (nI pt), .int (nI off), .int (nI ha), .long tr])), (o, .inr (0, [.ref r0, .ref r1, .ref r2, .ref r3, .ref r4])), (r0, .inr (1, [.ref q0, .int (nI n)]))] := by
  refine CtI.go (cc := cX3_latest) (maxL := 1) RX3 rfl (by decide) rfl (Nat.le_of_ble_eq_true rfl) ?_
  intro p e s m args below meth c A Q ls E hw hl hret
  have hx := E.1
  have hb := E.2.1
  have hinX3 : ∀ w ∈ wsX30, w ∈ wsX3_latest := (fun w h => List.mem_cons_of_mem _ (List.mem_append_left _ (List.mem_append_left _ (List.mem_append_right _ h))))
  have hl : lv_has ls 1 [(0, .ref x)] := hl
  refine lv_aload_n hx hb dX3_latest_0 rfl (lv_at hl 0 rfl) ?_
  refine x_get E hw (C := RX3) (T := TX3) (N := 9) hinX3 0 rfl rfl 1 (by decide) rfl (List.mem_of_getElem? (i := 1) rfl) dX3_latest_1 ?_
  refine x_cfVi E hw hl.1 (As := []) (rest := []) (c_X0_creases l G o r0 r1 r2 r3 r4 q0 n) 0 gX3_latest_X0_creases rfl rfl rfl (by decide) ⟨Nat.le_of_ble_eq_true rfl, Nat.le_of_ble_eq_true rfl⟩ ⟨Nat.le_of_ble_eq_true rfl, Nat.le_of_ble_eq_true rfl⟩ rfl 1 (ci := 0) (C := RX0) (T := TX0) (N := 5) rfl rfl [1, 2] [0] rfl rfl rfl rfl rfl [0, 1, 2] [(x, .inr (3, [.ref tx, .ref o, .ref o1, .ref o2, .int (nI pa), .int (nI pt), .int (nI off), .int (nI ha), .long tr])), (o, .inr (0, [.ref r0, .ref r1, .ref r2, .ref r3, .ref r4])), (r0, .inr (1, [.ref q0, .int (nI n)]))] rfl rfl rfl (Nat.le_of_ble_eq_true rfl) dX3_latest_4 (fun H locs hw => ?_)
  refine lv_iconst (v := (nI 1)) hx hb dX3_latest_7 (by decide) ?_
  refine x_isub E (v := (nI (n - 1))) dX3_latest_8 (pk_sub (by omega)) ?_
  exact hret (nI (n - 1)) () _ _ _ _ dX3_latest_9 rfl rfl hw

abbrev rm_X3_partOfY : Room := { frames := 1, cells := 0, slots := 0, locals := 21 }
set_option maxHeartbeats 4000000 in
set_option maxRecDepth 100000 in
theorem c_X3_partOfY (l : Launch) (G : XG) (x : Nat) (tx : Nat) (o : Nat) (o1 : Nat) (o2 : Nat) (pa : Nat) (pt : Nat) (off : Nat) (ha : Nat) (tr : Int64) (r0 : Nat) (r1 : Nat) (r2 : Nat) (r3 : Nat) (r4 : Nat) (q0 : Nat) (n : Nat) (j : Nat) (gw : Nat → Nat) (hj : j < 23) (hb : gw j < 1073741824) (hm : gw j % 1048576 = 0) : CfI l yX3_partOf wsX3_partOf rm_X3_partOfY G [.ref x, .int (nI j)] [(x, .inr (3, [.ref tx, .ref o, .ref o1, .ref o2, .int (nI pa), .int (nI pt), .int (nI off), .int (nI ha), .long tr])), (o, .inr (0, [.ref r0, .ref r1, .ref r2, .ref r3, .ref r4])), (r0, .inr (1, [.ref q0, .int (nI n)])), (q0, .inl (cJ G, 23, .inr (.inl (fJ gw))))] (nI (gw j / 1048576)) [(x, .inr (3, [.ref tx, .ref o, .ref o1, .ref o2, .int (nI pa), .int (nI pt), .int (nI off), .int (nI ha), .long tr])), (o, .inr (0, [.ref r0, .ref r1, .ref r2, .ref r3, .ref r4])), (r0, .inr (1, [.ref q0, .int (nI n)])), (q0, .inl (cJ G, 23, .inr (.inl (fJ gw))))] := by
  refine CtI.go (cc := cX3_partOf) (maxL := 4) RX3 rfl (by decide) rfl (Nat.le_of_ble_eq_true rfl) ?_
  intro p e s m args below meth c A Q ls E hw hl hret
  have hx := E.1
  have hb := E.2.1
  have hinX0 : ∀ w ∈ wsX00, w ∈ wsX3_partOf := (fun w h => List.mem_cons_of_mem _ (List.mem_append_left _ (List.mem_append_right _ h)))
  have hinX3 : ∀ w ∈ wsX30, w ∈ wsX3_partOf := (fun w h => List.mem_cons_of_mem _ (List.mem_append_left _ (List.mem_append_left _ (List.mem_append_right _ h))))
  have hl : lv_has ls 4 [(0, .ref x), (1, .int (nI j))] := hl
  refine lv_aload_n hx hb dX3_partOf_0 rfl (lv_at hl 0 rfl) ?_
  refine x_get E hw (C := RX3) (T := TX3) (N := 9) hinX3 0 rfl rfl 1 (by decide) rfl (List.mem_of_getElem? (i := 1) rfl) dX3_partOf_1 ?_
  refine x_getN E hw (C := RX0) (T := TX0) (N := 5) hinX0 1 rfl rfl 0 (by decide) rfl (List.mem_of_getElem? (i := 8) rfl) dX3_partOf_4 ?_
  refine lv_iload_n hx hb dX3_partOf_7 rfl (lv_at hl 1 rfl) ?_
  refine x_cfVl E hw hl.1 (As := [.int (nI j)]) (rest := []) (c_X1_at l G r0 q0 n 23 j gw (by omega) (by omega)) 1 gX3_partOf_X1_at rfl rfl rfl (by decide) ⟨Nat.le_of_ble_eq_true rfl, Nat.le_of_ble_eq_true rfl⟩ ⟨Nat.le_of_ble_eq_true rfl, Nat.le_of_ble_eq_true rfl⟩ rfl 2 (ci := 1) (C := RX1) (T := TX1) (N := 2) rfl rfl [2, 3] [0, 1] rfl rfl rfl rfl rfl [0, 1, 2, 3] [(x, .inr (3, [.ref tx, .ref o, .ref o1, .ref o2, .int (nI pa), .int (nI pt), .int (nI off), .int (nI ha), .long tr])), (o, .inr (0, [.ref r0, .ref r1, .ref r2, .ref r3, .ref r4])), (r0, .inr (1, [.ref q0, .int (nI n)])), (q0, .inl (cJ G, 23, .inr (.inl (fJ gw))))] rfl rfl rfl (Nat.le_of_ble_eq_true rfl) dX3_partOf_8 (fun H locs hw => ?_)
  refine lv_lstore_n (lv' := [(2, .long (lN (gw j))), (0, .ref x), (1, .int (nI j))]) hx hb dX3_partOf_11 rfl hl (by decide) rfl (fun ls hl => ?_)
  refine lv_lload_n hx hb dX3_partOf_12 rfl (lv_at hl 0 rfl) ?_
  refine lv_ldc2 (v := (1048576)) hx hb E.2.2.2.1 (E.2.2.2.2 _ (List.mem_of_getElem? (i := 2) rfl)) dX3_partOf_13 ?_
  refine x_topl (v := lN 1048576) (by decide) ?_
  refine x_lrem E (v := (lN ((gw j) % 1048576))) dX3_partOf_16 (by decide) (pk_lRem (by omega) (by omega) (by omega)) ?_
  refine lv_lconst (v := (lN 0)) hx hb dX3_partOf_17 (by decide) ?_
  refine x_lc_ne E (lN_toI (show (gw j) % 1048576 < 9223372036854775808 by omega)) (lN_toI (by decide)) (tgt := 31) dX3_partOf_18 dX3_partOf_19 (by decide) (fun c_1 => ?_) (fun c_1 => ?_)
  · exfalso; omega
  · refine lv_lload_n hx hb dX3_partOf_22 rfl (lv_at hl 0 rfl) ?_
    refine lv_ldc2 (v := (1048576)) hx hb E.2.2.2.1 (E.2.2.2.2 _ (List.mem_of_getElem? (i := 2) rfl)) dX3_partOf_23 ?_
    refine x_topl (v := lN 1048576) (by decide) ?_
    refine x_ldiv E (v := (lN ((gw j) / 1048576))) dX3_partOf_26 (by decide) (pk_lDiv (by omega) (by omega) (by omega)) ?_
    refine lv_l2i (v := (nI ((gw j) / 1048576))) hx hb dX3_partOf_27 (lN_i _) ?_
    refine lv_goto (tgt := 33) hx hb dX3_partOf_28 (by decide) ?_
    exact hret (nI ((gw j) / 1048576)) () _ _ _ _ dX3_partOf_33 rfl rfl hw

abbrev rm_X3_partOfN : Room := { frames := 1, cells := 0, slots := 0, locals := 21 }
set_option maxHeartbeats 4000000 in
set_option maxRecDepth 100000 in
theorem c_X3_partOfN (l : Launch) (G : XG) (x : Nat) (tx : Nat) (o : Nat) (o1 : Nat) (o2 : Nat) (pa : Nat) (pt : Nat) (off : Nat) (ha : Nat) (tr : Int64) (r0 : Nat) (r1 : Nat) (r2 : Nat) (r3 : Nat) (r4 : Nat) (q0 : Nat) (n : Nat) (j : Nat) (gw : Nat → Nat) (hj : j < 23) (hb : gw j < 1073741824) (hm : ¬ gw j % 1048576 = 0) : CfI l yX3_partOf wsX3_partOf rm_X3_partOfN G [.ref x, .int (nI j)] [(x, .inr (3, [.ref tx, .ref o, .ref o1, .ref o2, .int (nI pa), .int (nI pt), .int (nI off), .int (nI ha), .long tr])), (o, .inr (0, [.ref r0, .ref r1, .ref r2, .ref r3, .ref r4])), (r0, .inr (1, [.ref q0, .int (nI n)])), (q0, .inl (cJ G, 23, .inr (.inl (fJ gw))))] (-9 : Int32) [(x, .inr (3, [.ref tx, .ref o, .ref o1, .ref o2, .int (nI pa), .int (nI pt), .int (nI off), .int (nI ha), .long tr])), (o, .inr (0, [.ref r0, .ref r1, .ref r2, .ref r3, .ref r4])), (r0, .inr (1, [.ref q0, .int (nI n)])), (q0, .inl (cJ G, 23, .inr (.inl (fJ gw))))] := by
  refine CtI.go (cc := cX3_partOf) (maxL := 4) RX3 rfl (by decide) rfl (Nat.le_of_ble_eq_true rfl) ?_
  intro p e s m args below meth c A Q ls E hw hl hret
  have hx := E.1
  have hb := E.2.1
  have hinX0 : ∀ w ∈ wsX00, w ∈ wsX3_partOf := (fun w h => List.mem_cons_of_mem _ (List.mem_append_left _ (List.mem_append_right _ h)))
  have hinX3 : ∀ w ∈ wsX30, w ∈ wsX3_partOf := (fun w h => List.mem_cons_of_mem _ (List.mem_append_left _ (List.mem_append_left _ (List.mem_append_right _ h))))
  have hl : lv_has ls 4 [(0, .ref x), (1, .int (nI j))] := hl
  refine lv_aload_n hx hb dX3_partOf_0 rfl (lv_at hl 0 rfl) ?_
  refine x_get E hw (C := RX3) (T := TX3) (N := 9) hinX3 0 rfl rfl 1 (by decide) rfl (List.mem_of_getElem? (i := 1) rfl) dX3_partOf_1 ?_
  refine x_getN E hw (C := RX0) (T := TX0) (N := 5) hinX0 1 rfl rfl 0 (by decide) rfl (List.mem_of_getElem? (i := 8) rfl) dX3_partOf_4 ?_
  refine lv_iload_n hx hb dX3_partOf_7 rfl (lv_at hl 1 rfl) ?_
  refine x_cfVl E hw hl.1 (As := [.int (nI j)]) (rest := []) (c_X1_at l G r0 q0 n 23 j gw (by omega) (by omega)) 1 gX3_partOf_X1_at rfl rfl rfl (by decide) ⟨Nat.le_of_ble_eq_true rfl, Nat.le_of_ble_eq_true rfl⟩ ⟨Nat.le_of_ble_eq_true rfl, Nat.le_of_ble_eq_true rfl⟩ rfl 2 (ci := 1) (C := RX1) (T := TX1) (N := 2) rfl rfl [2, 3] [0, 1] rfl rfl rfl rfl rfl [0, 1, 2, 3] [(x, .inr (3, [.ref tx, .ref o, .ref o1, .ref o2, .int (nI pa), .int (nI pt), .int (nI off), .int (nI ha), .long tr])), (o, .inr (0, [.ref r0, .ref r1, .ref r2, .ref r3, .ref r4])), (r0, .inr (1, [.ref q0, .int (nI n)])), (q0, .inl (cJ G, 23, .inr (.inl (fJ gw))))] rfl rfl rfl (Nat.le_of_ble_eq_true rfl) dX3_partOf_8 (fun H locs hw => ?_)
  refine lv_lstore_n (lv' := [(2, .long (lN (gw j))), (0, .ref x), (1, .int (nI j))]) hx hb dX3_partOf_11 rfl hl (by decide) rfl (fun ls hl => ?_)
  refine lv_lload_n hx hb dX3_partOf_12 rfl (lv_at hl 0 rfl) ?_
  refine lv_ldc2 (v := (1048576)) hx hb E.2.2.2.1 (E.2.2.2.2 _ (List.mem_of_getElem? (i := 2) rfl)) dX3_partOf_13 ?_
  refine x_topl (v := lN 1048576) (by decide) ?_
  refine x_lrem E (v := (lN ((gw j) % 1048576))) dX3_partOf_16 (by decide) (pk_lRem (by omega) (by omega) (by omega)) ?_
  refine lv_lconst (v := (lN 0)) hx hb dX3_partOf_17 (by decide) ?_
  refine x_lc_ne E (lN_toI (show (gw j) % 1048576 < 9223372036854775808 by omega)) (lN_toI (by decide)) (tgt := 31) dX3_partOf_18 dX3_partOf_19 (by decide) (fun c_1 => ?_) (fun c_1 => ?_)
  · refine lv_bipush (v := (-9 : Int32)) hx hb dX3_partOf_31 (by decide) ?_
    exact hret (-9 : Int32) () _ _ _ _ dX3_partOf_33 rfl rfl hw
  · exfalso; omega

abbrev rm_X3_isInner : Room := { frames := 0, cells := 0, slots := 0, locals := 0 }
set_option maxHeartbeats 4000000 in
set_option maxRecDepth 100000 in
theorem c_X3_isInner (l : Launch) (G : XG) (x : Nat) (tx : Nat) (o : Nat) (o1 : Nat) (o2 : Nat) (pa : Nat) (pt : Nat) (off : Nat) (ha : Nat) (tr : Int64) (j : Int32) (hpa : pa ≤ 63) : CfI l yX3_isInner wsX3_isInner rm_X3_isInner G [.ref x, .int j] [(x, .inr (3, [.ref tx, .ref o, .ref o1, .ref o2, .int (nI pa), .int (nI pt), .int (nI off), .int (nI ha), .long tr]))] (if 1 ≤ j.toInt ∧ j.toInt < (pa : Int) then 1 else 0) [(x, .inr (3, [.ref tx, .ref o, .ref o1, .ref o2, .int (nI pa), .int (nI pt), .int (nI off), .int (nI ha), .long tr]))] := by
  refine CtI.go (cc := cX3_isInner) (maxL := 2) RX3 rfl (by decide) rfl (Nat.le_of_ble_eq_true rfl) ?_
  intro p e s m args below meth c A Q ls E hw hl hret
  have hx := E.1
  have hb := E.2.1
  have hinX3 : ∀ w ∈ wsX30, w ∈ wsX3_isInner := (fun w h => List.mem_cons_of_mem _ (List.mem_append_right _ h))
  have hl : lv_has ls 2 [(0, .ref x), (1, .int j)] := hl
  refine lv_iload_n hx hb dX3_isInner_0 rfl (lv_at hl 1 rfl) ?_
  refine lv_iconst (v := (nI 1)) hx hb dX3_isInner_1 (by decide) ?_
  refine x_icmp_lt E rfl (nI_toI (by decide)) (tgt := 17) dX3_isInner_2 (by decide) (fun c_1 => ?_) (fun c_1 => ?_)
  · refine lv_iconst (v := (nI 0)) hx hb dX3_isInner_17 (by decide) ?_
    exact hret (nI 0) () _ _ _ _ dX3_isInner_18 rfl ((if_neg (by omega)).symm) hw
  · refine lv_iload_n hx hb dX3_isInner_5 rfl (lv_at hl 1 rfl) ?_
    refine lv_aload_n hx hb dX3_isInner_6 rfl (lv_at hl 0 rfl) ?_
    refine x_get E hw (C := RX3) (T := TX3) (N := 9) hinX3 0 rfl rfl 4 (by decide) rfl (List.mem_of_getElem? (i := 1) rfl) dX3_isInner_7 ?_
    refine x_icmp_ge E rfl (nI_toI (show pa < 2147483648 by omega)) (tgt := 17) dX3_isInner_10 (by decide) (fun c_2 => ?_) (fun c_2 => ?_)
    · refine lv_iconst (v := (nI 0)) hx hb dX3_isInner_17 (by decide) ?_
      exact hret (nI 0) () _ _ _ _ dX3_isInner_18 rfl ((if_neg (by omega)).symm) hw
    · refine lv_iconst (v := (nI 1)) hx hb dX3_isInner_13 (by decide) ?_
      refine lv_goto (tgt := 18) hx hb dX3_isInner_14 (by decide) ?_
      exact hret (nI 1) () _ _ _ _ dX3_isInner_18 rfl ((if_pos (by omega)).symm) hw

abbrev rm_X3_isInnerN : Room := { frames := 0, cells := 0, slots := 0, locals := 0 }
set_option maxHeartbeats 4000000 in
set_option maxRecDepth 100000 in
theorem c_X3_isInnerN (l : Launch) (G : XG) (x : Nat) (tx : Nat) (o : Nat) (o1 : Nat) (o2 : Nat) (pa : Nat) (pt : Nat) (off : Nat) (ha : Nat) (tr : Int64) (j : Nat) (hpa : pa ≤ 63) (hj : j < 2147483648) : CfI l yX3_isInner wsX3_isInner rm_X3_isInnerN G [.ref x, .int (nI j)] [(x, .inr (3, [.ref tx, .ref o, .ref o1, .ref o2, .int (nI pa), .int (nI pt), .int (nI off), .int (nI ha), .long tr]))] (if 1 ≤ j ∧ j < pa then 1 else 0) [(x, .inr (3, [.ref tx, .ref o, .ref o1, .ref o2, .int (nI pa), .int (nI pt), .int (nI off), .int (nI ha), .long tr]))] := by
  refine CtI.go (cc := cX3_isInner) (maxL := 2) RX3 rfl (by decide) rfl (Nat.le_of_ble_eq_true rfl) ?_
  intro p e s m args below meth c A Q ls E hw hl hret
  have hx := E.1
  have hb := E.2.1
  have hinX3 : ∀ w ∈ wsX30, w ∈ wsX3_isInner := (fun w h => List.mem_cons_of_mem _ (List.mem_append_right _ h))
  have hl : lv_has ls 2 [(0, .ref x), (1, .int (nI j))] := hl
  refine lv_iload_n hx hb dX3_isInner_0 rfl (lv_at hl 1 rfl) ?_
  refine lv_iconst (v := (nI 1)) hx hb dX3_isInner_1 (by decide) ?_
  refine x_icmp_lt E (nI_toI (show j < 2147483648 by omega)) (nI_toI (by decide)) (tgt := 17) dX3_isInner_2 (by decide) (fun c_1 => ?_) (fun c_1 => ?_)
  · refine lv_iconst (v := (nI 0)) hx hb dX3_isInner_17 (by decide) ?_
    exact hret (nI 0) () _ _ _ _ dX3_isInner_18 rfl ((if_neg (by omega)).symm) hw
  · refine lv_iload_n hx hb dX3_isInner_5 rfl (lv_at hl 1 rfl) ?_
    refine lv_aload_n hx hb dX3_isInner_6 rfl (lv_at hl 0 rfl) ?_
    refine x_get E hw (C := RX3) (T := TX3) (N := 9) hinX3 0 rfl rfl 4 (by decide) rfl (List.mem_of_getElem? (i := 1) rfl) dX3_isInner_7 ?_
    refine x_icmp_ge E (nI_toI (show j < 2147483648 by omega)) (nI_toI (show pa < 2147483648 by omega)) (tgt := 17) dX3_isInner_10 (by decide) (fun c_2 => ?_) (fun c_2 => ?_)
    · refine lv_iconst (v := (nI 0)) hx hb dX3_isInner_17 (by decide) ?_
      exact hret (nI 0) () _ _ _ _ dX3_isInner_18 rfl ((if_neg (by omega)).symm) hw
    · refine lv_iconst (v := (nI 1)) hx hb dX3_isInner_13 (by decide) ?_
      refine lv_goto (tgt := 18) hx hb dX3_isInner_14 (by decide) ?_
      exact hret (nI 1) () _ _ _ _ dX3_isInner_18 rfl ((if_pos (by omega)).symm) hw

abbrev rm_X3_sideAt : Room := { frames := 0, cells := 0, slots := 0, locals := 0 }
set_option maxHeartbeats 4000000 in
set_option maxRecDepth 100000 in
theorem c_X3_sideAt (l : Launch) (G : XG) (j : Nat) (hj : j < 2147483648) : CfI l yX3_sideAt wsX3_sideAt rm_X3_sideAt G [.int (nI j)] [] (nI (j % 2)) [] := by
  refine CtI.go (cc := cX3_sideAt) (maxL := 1) RX3 rfl (by decide) rfl (Nat.le_of_ble_eq_true rfl) ?_
  intro p e s m args below meth c A Q ls E hw hl hret
  have hx := E.1
  have hb := E.2.1
  have hl : lv_has ls 1 [(0, .int (nI j))] := hl
  refine lv_iload_n hx hb dX3_sideAt_0 rfl (lv_at hl 0 rfl) ?_
  refine lv_iconst (v := (nI 2)) hx hb dX3_sideAt_1 (by decide) ?_
  refine x_irem E (v := (nI (j % 2))) dX3_sideAt_2 (by decide) (pk_rem (by omega) (by omega) (by omega)) ?_
  refine x_if_ne E (nI_toI (show j % 2 < 2147483648 by omega)) (tgt := 10) dX3_sideAt_3 (by decide) (fun c_1 => ?_) (fun c_1 => ?_)
  · refine lv_iconst (v := (nI 1)) hx hb dX3_sideAt_10 (by decide) ?_
    exact hret (nI 1) () _ _ _ _ dX3_sideAt_11 rfl (by rw [show j % 2 = 1 by omega]) hw
  · refine lv_iconst (v := (nI 0)) hx hb dX3_sideAt_6 (by decide) ?_
    refine lv_goto (tgt := 11) hx hb dX3_sideAt_7 (by decide) ?_
    exact hret (nI 0) () _ _ _ _ dX3_sideAt_11 rfl (by rw [show j % 2 = 0 by omega]) hw

abbrev rm_X3_ruled : Room := { frames := 1, cells := 0, slots := 0, locals := 20 }
set_option maxHeartbeats 4000000 in
set_option maxRecDepth 100000 in
theorem c_X3_ruled (l : Launch) (G : XG) (pa : Nat) (j : Nat) (hj : j + pa < 2147483648) : CfI l yX3_ruled wsX3_ruled rm_X3_ruled G [.int (nI pa), .int (nI j)] [] (nI (gz pa j)) [] := by
  refine CtI.go (cc := cX3_ruled) (maxL := 2) RX3 rfl (by decide) rfl (Nat.le_of_ble_eq_true rfl) ?_
  intro p e s m args below meth c A Q ls E hw hl hret
  have hx := E.1
  have hb := E.2.1
  have hl : lv_has ls 2 [(0, .int (nI pa)), (1, .int (nI j))] := hl
  refine lv_iload_n hx hb dX3_ruled_0 rfl (lv_at hl 1 rfl) ?_
  refine x_cfSi E hw hl.1 (As := [.int (nI j)]) (rest := []) (c_X3_sideAt l G j (by omega)) 1 gX3_ruled_X3_sideAt rfl rfl rfl (by decide) ⟨Nat.le_of_ble_eq_true rfl, Nat.le_of_ble_eq_true rfl⟩ ⟨Nat.le_of_ble_eq_true rfl, Nat.le_of_ble_eq_true rfl⟩ rfl [] [] rfl rfl rfl rfl rfl [] [] rfl rfl rfl (Nat.le_of_ble_eq_true rfl) dX3_ruled_1 (fun H locs hw => ?_)
  refine x_if_ne E (nI_toI (show j % 2 < 2147483648 by omega)) (tgt := 11) dX3_ruled_4 (by decide) (fun c_1 => ?_) (fun c_1 => ?_)
  · refine lv_iload_n hx hb dX3_ruled_11 rfl (lv_at hl 1 rfl) ?_
    refine lv_iload_n hx hb dX3_ruled_12 rfl (lv_at hl 0 rfl) ?_
    refine x_iadd E (v := (nI (j + pa))) dX3_ruled_13 (nI_add _ _) ?_
    refine lv_iconst (v := (nI 2)) hx hb dX3_ruled_14 (by decide) ?_
    refine x_idiv E (v := (nI ((j + pa) / 2))) dX3_ruled_15 (by decide) (pk_div (by omega) (by omega) (by omega)) ?_
    exact hret (nI ((j + pa) / 2)) () _ _ _ _ dX3_ruled_16 rfl (by rw [gz_odd (by omega)]) hw
  · refine lv_iload_n hx hb dX3_ruled_7 rfl (lv_at hl 1 rfl) ?_
    refine lv_goto (tgt := 14) hx hb dX3_ruled_8 (by decide) ?_
    refine lv_iconst (v := (nI 2)) hx hb dX3_ruled_14 (by decide) ?_
    refine x_idiv E (v := (nI (j / 2))) dX3_ruled_15 (by decide) (pk_div (by omega) (by omega) (by omega)) ?_
    exact hret (nI (j / 2)) () _ _ _ _ dX3_ruled_16 rfl (by rw [gz_even (by omega)]) hw

abbrev rm_X3_foldsAround : Room := { frames := 2, cells := 0, slots := 0, locals := 41 }
set_option maxHeartbeats 4000000 in
set_option maxRecDepth 100000 in
theorem c_X3_foldsAround (l : Launch) (G : XG) (x : Nat) (tx : Nat) (o : Nat) (o1 : Nat) (o2 : Nat) (pa : Nat) (pt : Nat) (off : Nat) (ha : Nat) (tr : Int64) (j : Nat) (hpa : pa ≤ 63) (hj : j < pa) : CfI l yX3_foldsAround wsX3_foldsAround rm_X3_foldsAround G [.ref x, .int (nI j)] [(x, .inr (3, [.ref tx, .ref o, .ref o1, .ref o2, .int (nI pa), .int (nI pt), .int (nI off), .int (nI ha), .long tr]))] (nI (faX pa j)) [(x, .inr (3, [.ref tx, .ref o, .ref o1, .ref o2, .int (nI pa), .int (nI pt), .int (nI off), .int (nI ha), .long tr]))] := by
  refine CtI.go (cc := cX3_foldsAround) (maxL := 4) RX3 rfl (by decide) rfl (Nat.le_of_ble_eq_true rfl) ?_
  intro p e s m args below meth c A Q ls E hw hl hret
  have hx := E.1
  have hb := E.2.1
  have hinX3 : ∀ w ∈ wsX30, w ∈ wsX3_foldsAround := (fun w h => List.mem_cons_of_mem _ (List.mem_append_right _ h))
  have hl : lv_has ls 4 [(0, .ref x), (1, .int (nI j))] := hl
  refine lv_aload_n hx hb dX3_foldsAround_0 rfl (lv_at hl 0 rfl) ?_
  refine x_get E hw (C := RX3) (T := TX3) (N := 9) hinX3 0 rfl rfl 4 (by decide) rfl (List.mem_of_getElem? (i := 1) rfl) dX3_foldsAround_1 ?_
  refine lv_iload_n hx hb dX3_foldsAround_4 rfl (lv_at hl 1 rfl) ?_
  refine x_cfSi E hw hl.1 (As := [.int (nI pa), .int (nI j)]) (rest := []) (c_X3_ruled l G pa j (by omega)) 2 gX3_foldsAround_X3_ruled rfl rfl rfl (by decide) ⟨Nat.le_of_ble_eq_true rfl, Nat.le_of_ble_eq_true rfl⟩ ⟨Nat.le_of_ble_eq_true rfl, Nat.le_of_ble_eq_true rfl⟩ rfl [] [0] rfl rfl rfl rfl rfl [0] [(x, .inr (3, [.ref tx, .ref o, .ref o1, .ref o2, .int (nI pa), .int (nI pt), .int (nI off), .int (nI ha), .long tr]))] rfl rfl rfl (Nat.le_of_ble_eq_true rfl) dX3_foldsAround_5 (fun H locs hw => ?_)
  have hgz := gz_lt hj
  refine lv_istore_n (lv' := [(2, .int (nI (gz pa j))), (0, .ref x), (1, .int (nI j))]) hx hb dX3_foldsAround_8 rfl hl (by decide) rfl (fun ls hl => ?_)
  refine lv_iconst (v := (nI 1)) hx hb dX3_foldsAround_9 (by decide) ?_
  refine lv_istore_n (lv' := [(3, .int (nI 1)), (2, .int (nI (gz pa j))), (0, .ref x), (1, .int (nI j))]) hx hb dX3_foldsAround_10 rfl hl (by decide) rfl (fun ls hl => ?_)
  have loop_11 : ∀ (n : Nat) (y : Nat) (k : Nat), k ≤ 63 → y < pa → faL pa j (63 - k) y k = faX pa j → 63 - k < n → ∀ (H : Heap) (locs : List Loc) (ls : Array Slot), Wd G s A [(x, .inr (3, [.ref tx, .ref o, .ref o1, .ref o2, .int (nI pa), .int (nI pt), .int (nI off), .int (nI ha), .long tr]))] H locs → lv_has ls 4 [(0, .ref x), (1, .int (nI j)), (2, .int (nI y)), (3, .int (nI k))] → W p l e rm_X3_foldsAround s m args below meth c H locs 0 0 Q (F0 m 11 ls []) := by
    intro n
    induction n with
    | zero =>
      intro y k hk hy hinv hmu
      exact absurd hmu (Nat.not_lt_zero _)
    | succ n ih_11 =>
      intro y k hk hy hinv hmu_11 H locs ls hw hl
      refine lv_iload_n hx hb dX3_foldsAround_11 rfl (lv_at hl 2 rfl) ?_
      refine lv_iload_n hx hb dX3_foldsAround_12 rfl (lv_at hl 1 rfl) ?_
      refine x_icmp_eq E (nI_toI (show y < 2147483648 by omega)) (nI_toI (show j < 2147483648 by omega)) (tgt := 37) dX3_foldsAround_13 (by decide) (fun c_1 => ?_) (fun c_1 => ?_)
      · obtain rfl : y = j := by omega
        refine lv_iload_n hx hb dX3_foldsAround_37 rfl (lv_at hl 3 rfl) ?_
        exact hret (nI k) () _ _ _ _ dX3_foldsAround_38 rfl (by rw [← hinv, faL_hit]) hw
      · have hne : ¬ y = j := by omega
        refine lv_iload_n hx hb dX3_foldsAround_16 rfl (lv_at hl 3 rfl) ?_
        refine lv_bipush (v := (nI 63)) hx hb dX3_foldsAround_17 (by decide) ?_
        refine x_icmp_ge E (nI_toI (show k < 2147483648 by omega)) (nI_toI (by decide)) (tgt := 37) dX3_foldsAround_19 (by decide) (fun c_2 => ?_) (fun c_2 => ?_)
        · refine lv_iload_n hx hb dX3_foldsAround_37 rfl (lv_at hl 3 rfl) ?_
          exact hret (nI k) () _ _ _ _ dX3_foldsAround_38 rfl (by rw [← hinv, show 63 - k = 0 by omega, faL]) hw
        · refine lv_aload_n hx hb dX3_foldsAround_22 rfl (lv_at hl 0 rfl) ?_
          refine x_get E hw (C := RX3) (T := TX3) (N := 9) hinX3 0 rfl rfl 4 (by decide) rfl (List.mem_of_getElem? (i := 1) rfl) dX3_foldsAround_23 ?_
          refine lv_iload_n hx hb dX3_foldsAround_26 rfl (lv_at hl 2 rfl) ?_
          refine x_cfSi E hw hl.1 (As := [.int (nI pa), .int (nI y)]) (rest := []) (c_X3_ruled l G pa y (by omega)) 2 gX3_foldsAround_X3_ruled rfl rfl rfl (by decide) ⟨Nat.le_of_ble_eq_true rfl, Nat.le_of_ble_eq_true rfl⟩ ⟨Nat.le_of_ble_eq_true rfl, Nat.le_of_ble_eq_true rfl⟩ rfl [] [0] rfl rfl rfl rfl rfl [0] [(x, .inr (3, [.ref tx, .ref o, .ref o1, .ref o2, .int (nI pa), .int (nI pt), .int (nI off), .int (nI ha), .long tr]))] rfl rfl rfl (Nat.le_of_ble_eq_true rfl) dX3_foldsAround_27 (fun H locs hw => ?_)
          refine lv_istore_n (lv' := [(2, .int (nI (gz pa y))), (0, .ref x), (1, .int (nI j)), (3, .int (nI k))]) hx hb dX3_foldsAround_30 rfl hl (by decide) rfl (fun ls hl => ?_)
          refine lv_iinc (v := (nI (k + 1))) (lv' := [(3, .int (nI (k + 1))), (2, .int (nI (gz pa y))), (0, .ref x), (1, .int (nI j))]) hx hb dX3_foldsAround_31 hl (k := 3) rfl (x_inc1 _) (by decide) rfl (fun ls hl => ?_)
          refine lv_goto (tgt := 11) hx hb dX3_foldsAround_34 (by decide) ?_
          exact ih_11 (gz pa y) (k + 1) (by omega) (gz_lt hy) ((faL_step (by omega) hne).symm.trans hinv) (by omega) _ _ _ hw (lv_sub hl [2, 3, 1, 0] rfl)
  exact loop_11 (63 - 1 + 1) (gz pa j) 1 (by omega) (by omega) rfl (Nat.lt_succ_self _) _ _ _ hw (lv_sub hl [2, 3, 1, 0] rfl)

abbrev rm_X3_bit : Room := { frames := 0, cells := 0, slots := 0, locals := 0 }
set_option maxHeartbeats 4000000 in
set_option maxRecDepth 100000 in
theorem c_X3_bit (l : Launch) (G : XG) (j : Nat) (hj : j < 64) : CfL l yX3_bit wsX3_bit rm_X3_bit G [.int (nI j)] [] (lN (2 ^ j)) [] := by
  refine CtL.go (cc := cX3_bit) (maxL := 1) RX3 rfl (by decide) rfl (Nat.le_of_ble_eq_true rfl) ?_
  intro p e s m args below meth c A Q ls E hw hl hret
  have hx := E.1
  have hb := E.2.1
  have hl : lv_has ls 1 [(0, .int (nI j))] := hl
  refine lv_lconst (v := (lN 1)) hx hb dX3_bit_0 (by decide) ?_
  refine lv_iload_n hx hb dX3_bit_1 rfl (lv_at hl 0 rfl) ?_
  refine lv_lshl (v := (lN (2 ^ j))) hx hb dX3_bit_2 (by rw [wb_shl 1 hj, Nat.one_mul]) ?_
  exact hret (lN (2 ^ j)) () _ _ _ _ dX3_bit_3 rfl hw

abbrev rm_X3_shared : Room := { frames := 0, cells := 0, slots := 0, locals := 0 }
set_option maxHeartbeats 4000000 in
set_option maxRecDepth 100000 in
theorem c_X3_shared (l : Launch) (G : XG) (u : Nat) (w : Nat) (hu : u < 1152921504606846976) (hw0 : w < 1073741824) : CfL l yX3_shared wsX3_shared rm_X3_shared G [.long (lN u), .long (lN w)] [] (lN (Nat.gcd u w)) [] := by
  refine CtL.go (cc := cX3_shared) (maxL := 11) RX3 rfl (by decide) rfl (Nat.le_of_ble_eq_true rfl) ?_
  intro p e s m args below meth c A Q ls E hw hl hret
  have hx := E.1
  have hb := E.2.1
  have hl : lv_has ls 11 [(0, .long (lN u)), (2, .long (lN w))] := hl
  refine lv_lload_n hx hb dX3_shared_0 rfl (lv_at hl 0 rfl) ?_
  refine lv_lstore (lv' := [(4, .long (lN u)), (0, .long (lN u)), (2, .long (lN w))]) hx hb dX3_shared_1 hl (by decide) rfl (fun ls hl => ?_)
  refine lv_lload_n hx hb dX3_shared_3 rfl (lv_at hl 2 rfl) ?_
  refine lv_lstore (lv' := [(6, .long (lN w)), (4, .long (lN u)), (0, .long (lN u)), (2, .long (lN w))]) hx hb dX3_shared_4 hl (by decide) rfl (fun ls hl => ?_)
  refine lv_iconst (v := (nI 0)) hx hb dX3_shared_6 (by decide) ?_
  refine lv_istore (lv' := [(8, .int (nI 0)), (6, .long (lN w)), (4, .long (lN u)), (0, .long (lN u)), (2, .long (lN w))]) hx hb dX3_shared_7 hl (by decide) rfl (fun ls hl => ?_)
  have loop_9 : ∀ (n : Nat) (y : Nat) (z : Nat) (k : Nat), k ≤ 100 → y < 1152921504606846976 → z < 1073741824 → (k = 0 ∨ z < y) → y * z * 2 ^ k < 2 ^ 100 → (k = 0 → y * z < 2 ^ 90) → Nat.gcd y z = Nat.gcd u w → 100 - k < n → ∀ (H : Heap) (locs : List Loc) (ls : Array Slot), Wd G s A [] H locs → lv_has ls 11 [(4, .long (lN y)), (6, .long (lN z)), (8, .int (nI k))] → W p l e rm_X3_shared s m args below meth c H locs 0 0 Q (F0 m 9 ls []) := by
    intro n
    induction n with
    | zero =>
      intro y z k hk hyb hzb hord hprod h00 hg hmu
      exact absurd hmu (Nat.not_lt_zero _)
    | succ n ih_9 =>
      intro y z k hk hyb hzb hord hprod h00 hg hmu_9 H locs ls hw hl
      refine lv_iload hx hb dX3_shared_9 (lv_at hl 2 rfl) ?_
      refine lv_bipush (v := (nI 100)) hx hb dX3_shared_11 (by decide) ?_
      refine x_icmp_ge E (nI_toI (show k < 2147483648 by omega)) (nI_toI (by decide)) (tgt := 44) dX3_shared_13 (by decide) (fun c_1 => ?_) (fun c_1 => ?_)
      · refine lv_lload hx hb dX3_shared_44 (lv_at hl 0 rfl) ?_
        exact hret (lN y) () _ _ _ _ dX3_shared_46 (by rw [← hg, show z = 0 from eu_end2 (by omega) hord hprod, Nat.gcd_zero_right]) hw
      · refine lv_lload hx hb dX3_shared_16 (lv_at hl 1 rfl) ?_
        refine lv_lconst (v := (lN 0)) hx hb dX3_shared_18 (by decide) ?_
        refine x_lc_eq E (lN_toI (show z < 9223372036854775808 by omega)) (lN_toI (by decide)) (tgt := 44) dX3_shared_19 dX3_shared_20 (by decide) (fun c_2 => ?_) (fun c_2 => ?_)
        · refine lv_lload hx hb dX3_shared_44 (lv_at hl 0 rfl) ?_
          exact hret (lN y) () _ _ _ _ dX3_shared_46 (by rw [← hg, show z = 0 by omega, Nat.gcd_zero_right]) hw
        · have hz0 : 0 < z := by omega
          refine lv_lload hx hb dX3_shared_23 (lv_at hl 0 rfl) ?_
          have hmod := Nat.mod_lt y (show z > 0 by omega)
          refine lv_lload hx hb dX3_shared_25 (lv_at hl 1 rfl) ?_
          refine x_lrem E (v := (lN (y % z))) dX3_shared_27 (lN_ne0 (by omega) (by omega)) (pk_lRem (by omega) (by omega) (by omega)) ?_
          refine lv_lstore (lv' := [(9, .long (lN (y % z))), (4, .long (lN y)), (6, .long (lN z)), (8, .int (nI k))]) hx hb dX3_shared_28 hl (by decide) rfl (fun ls hl => ?_)
          refine lv_lload hx hb dX3_shared_30 (lv_at hl 2 rfl) ?_
          refine lv_lstore (lv' := [(4, .long (lN z)), (9, .long (lN (y % z))), (6, .long (lN z)), (8, .int (nI k))]) hx hb dX3_shared_32 hl (by decide) rfl (fun ls hl => ?_)
          refine lv_lload hx hb dX3_shared_34 (lv_at hl 1 rfl) ?_
          refine lv_lstore (lv' := [(6, .long (lN (y % z))), (4, .long (lN z)), (9, .long (lN (y % z))), (8, .int (nI k))]) hx hb dX3_shared_36 hl (by decide) rfl (fun ls hl => ?_)
          refine lv_iinc (v := (nI (k + 1))) (lv' := [(8, .int (nI (k + 1))), (6, .long (lN (y % z))), (4, .long (lN z)), (9, .long (lN (y % z)))]) hx hb dX3_shared_38 hl (k := 3) rfl (x_inc1 _) (by decide) rfl (fun ls hl => ?_)
          refine lv_goto (tgt := 9) hx hb dX3_shared_41 (by decide) ?_
          exact ih_9 z (y % z) (k + 1) (by omega) (by omega) (by omega) (Or.inr hmod) (eu_step hz0 hord hprod h00) (fun h => absurd h (Nat.succ_ne_zero _)) ((eu_gcd y z).trans hg) (by omega) _ _ _ hw (lv_sub hl [2, 1, 0] rfl)
  have hpr0 : u * w < 2 ^ 90 := Nat.lt_of_lt_of_le (Nat.mul_lt_mul_of_lt_of_lt hu hw0) (by decide)
  have hprod0 : u * w * 2 ^ 0 < 2 ^ 100 := by rw [Nat.pow_zero, Nat.mul_one]; exact Nat.lt_trans hpr0 (by decide)
  exact loop_9 (100 - 0 + 1) u w 0 (by omega) (by omega) (by omega) (by omega) (hprod0) (fun _ => hpr0) rfl (Nat.lt_succ_self _) _ _ _ hw (lv_sub hl [2, 1, 0] rfl)

abbrev rm_X3_leastUpper : Room := { frames := 1, cells := 0, slots := 0, locals := 30 }
set_option maxHeartbeats 4000000 in
set_option maxRecDepth 100000 in
theorem c_X3_leastUpper (l : Launch) (G : XG) (u : Nat) (w : Nat) (hu : u < 1152921504606846976) (hw0 : w < 1073741824) (hwp : 0 < w) : CfL l yX3_leastUpper wsX3_leastUpper rm_X3_leastUpper G [.long (lN u), .long (lN w)] [] (lN (u / Nat.gcd u w)) [] := by
  have hgp : 0 < Nat.gcd u w := Nat.gcd_pos_of_pos_right _ hwp
  have hgl : Nat.gcd u w ≤ w := Nat.gcd_le_right _ hwp
  refine CtL.go (cc := cX3_leastUpper) (maxL := 6) RX3 rfl (by decide) rfl (Nat.le_of_ble_eq_true rfl) ?_
  intro p e s m args below meth c A Q ls E hw hl hret
  have hx := E.1
  have hb := E.2.1
  have hl : lv_has ls 6 [(0, .long (lN u)), (2, .long (lN w))] := hl
  refine lv_lload_n hx hb dX3_leastUpper_0 rfl (lv_at hl 0 rfl) ?_
  refine lv_lload_n hx hb dX3_leastUpper_1 rfl (lv_at hl 1 rfl) ?_
  refine x_cfSl E hw hl.1 (As := [.long (lN u), .long (lN w)]) (rest := []) (c_X3_shared l G u w (by omega) (by omega)) 2 gX3_leastUpper_X3_shared rfl rfl rfl (by decide) ⟨Nat.le_of_ble_eq_true rfl, Nat.le_of_ble_eq_true rfl⟩ ⟨Nat.le_of_ble_eq_true rfl, Nat.le_of_ble_eq_true rfl⟩ rfl [] [] rfl rfl rfl rfl rfl [] [] rfl rfl rfl (Nat.le_of_ble_eq_true rfl) dX3_leastUpper_2 (fun H locs hw => ?_)
  refine lv_lstore (lv' := [(4, .long (lN (Nat.gcd u w))), (0, .long (lN u)), (2, .long (lN w))]) hx hb dX3_leastUpper_5 hl (by decide) rfl (fun ls hl => ?_)
  refine lv_lload hx hb dX3_leastUpper_7 (lv_at hl 0 rfl) ?_
  refine lv_lconst (v := (lN 0)) hx hb dX3_leastUpper_9 (by decide) ?_
  refine x_lc_ne E (lN_toI (show Nat.gcd u w < 9223372036854775808 by omega)) (lN_toI (by decide)) (tgt := 18) dX3_leastUpper_10 dX3_leastUpper_11 (by decide) (fun c_1 => ?_) (fun c_1 => ?_)
  · refine lv_lload_n hx hb dX3_leastUpper_18 rfl (lv_at hl 1 rfl) ?_
    refine lv_lload hx hb dX3_leastUpper_19 (lv_at hl 0 rfl) ?_
    refine x_ldiv E (v := (lN (u / (Nat.gcd u w)))) dX3_leastUpper_21 (lN_ne0 (by omega) (by omega)) (pk_lDiv (by omega) (by omega) (by omega)) ?_
    exact hret (lN (u / (Nat.gcd u w))) () _ _ _ _ dX3_leastUpper_22 rfl hw
  · exfalso; omega

abbrev rm_X3_leastLower : Room := { frames := 1, cells := 0, slots := 0, locals := 30 }
set_option maxHeartbeats 4000000 in
set_option maxRecDepth 100000 in
theorem c_X3_leastLower (l : Launch) (G : XG) (u : Nat) (w : Nat) (hu : u < 1152921504606846976) (hw0 : w < 1073741824) (hwp : 0 < w) : CfL l yX3_leastLower wsX3_leastLower rm_X3_leastLower G [.long (lN u), .long (lN w)] [] (lN (w / Nat.gcd u w)) [] := by
  have hgp : 0 < Nat.gcd u w := Nat.gcd_pos_of_pos_right _ hwp
  have hgl : Nat.gcd u w ≤ w := Nat.gcd_le_right _ hwp
  refine CtL.go (cc := cX3_leastLower) (maxL := 6) RX3 rfl (by decide) rfl (Nat.le_of_ble_eq_true rfl) ?_
  intro p e s m args below meth c A Q ls E hw hl hret
  have hx := E.1
  have hb := E.2.1
  have hl : lv_has ls 6 [(0, .long (lN u)), (2, .long (lN w))] := hl
  refine lv_lload_n hx hb dX3_leastLower_0 rfl (lv_at hl 0 rfl) ?_
  refine lv_lload_n hx hb dX3_leastLower_1 rfl (lv_at hl 1 rfl) ?_
  refine x_cfSl E hw hl.1 (As := [.long (lN u), .long (lN w)]) (rest := []) (c_X3_shared l G u w (by omega) (by omega)) 2 gX3_leastLower_X3_shared rfl rfl rfl (by decide) ⟨Nat.le_of_ble_eq_true rfl, Nat.le_of_ble_eq_true rfl⟩ ⟨Nat.le_of_ble_eq_true rfl, Nat.le_of_ble_eq_true rfl⟩ rfl [] [] rfl rfl rfl rfl rfl [] [] rfl rfl rfl (Nat.le_of_ble_eq_true rfl) dX3_leastLower_2 (fun H locs hw => ?_)
  refine lv_lstore (lv' := [(4, .long (lN (Nat.gcd u w))), (0, .long (lN u)), (2, .long (lN w))]) hx hb dX3_leastLower_5 hl (by decide) rfl (fun ls hl => ?_)
  refine lv_lload hx hb dX3_leastLower_7 (lv_at hl 0 rfl) ?_
  refine lv_lconst (v := (lN 0)) hx hb dX3_leastLower_9 (by decide) ?_
  refine x_lc_ne E (lN_toI (show Nat.gcd u w < 9223372036854775808 by omega)) (lN_toI (by decide)) (tgt := 18) dX3_leastLower_10 dX3_leastLower_11 (by decide) (fun c_1 => ?_) (fun c_1 => ?_)
  · refine lv_lload_n hx hb dX3_leastLower_18 rfl (lv_at hl 2 rfl) ?_
    refine lv_lload hx hb dX3_leastLower_19 (lv_at hl 0 rfl) ?_
    refine x_ldiv E (v := (lN (w / (Nat.gcd u w)))) dX3_leastLower_21 (lN_ne0 (by omega) (by omega)) (pk_lDiv (by omega) (by omega) (by omega)) ?_
    exact hret (lN (w / (Nat.gcd u w))) () _ _ _ _ dX3_leastLower_22 rfl hw
  · exfalso; omega

abbrev rm_X3_fewest : Room := { frames := 2, cells := 0, slots := 0, locals := 41 }
set_option maxHeartbeats 4000000 in
set_option maxRecDepth 100000 in
theorem c_X3_fewest (l : Launch) (G : XG) (x : Nat) (tx : Nat) (o : Nat) (o1 : Nat) (o2 : Nat) (pa : Nat) (pt : Nat) (off : Nat) (ha : Nat) (tr : Int64) (j : Int32) (hpa : pa ≤ 63) (hpt : pt < pa) : CfI l yX3_fewest wsX3_fewest rm_X3_fewest G [.ref x, .int j] [(x, .inr (3, [.ref tx, .ref o, .ref o1, .ref o2, .int (nI pa), .int (nI pt), .int (nI off), .int (nI ha), .long tr]))] (fewestX pa pt j.toInt) [(x, .inr (3, [.ref tx, .ref o, .ref o1, .ref o2, .int (nI pa), .int (nI pt), .int (nI off), .int (nI ha), .long tr]))] := by
  refine CtI.go (cc := cX3_fewest) (maxL := 4) RX3 rfl (by decide) rfl (Nat.le_of_ble_eq_true rfl) ?_
  intro p e s m args below meth c A Q ls E hw hl hret
  have hx := E.1
  have hb := E.2.1
  have hinX3 : ∀ w ∈ wsX30, w ∈ wsX3_fewest := (fun w h => List.mem_cons_of_mem _ (List.mem_append_right _ h))
  have hl : lv_has ls 4 [(0, .ref x), (1, .int j)] := hl
  refine lv_aload_n hx hb dX3_fewest_0 rfl (lv_at hl 0 rfl) ?_
  refine lv_iload_n hx hb dX3_fewest_1 rfl (lv_at hl 1 rfl) ?_
  refine x_cfVi E hw hl.1 (As := [.int j]) (rest := []) (c_X3_isInner l G x tx o o1 o2 pa pt off ha tr j (by omega)) 1 gX3_fewest_X3_isInner rfl rfl rfl (by decide) ⟨Nat.le_of_ble_eq_true rfl, Nat.le_of_ble_eq_true rfl⟩ ⟨Nat.le_of_ble_eq_true rfl, Nat.le_of_ble_eq_true rfl⟩ rfl 0 (ci := 3) (C := RX3) (T := TX3) (N := 9) rfl rfl [0] [] rfl rfl rfl rfl rfl [0] [(x, .inr (3, [.ref tx, .ref o, .ref o1, .ref o2, .int (nI pa), .int (nI pt), .int (nI off), .int (nI ha), .long tr]))] rfl rfl rfl (Nat.le_of_ble_eq_true rfl) dX3_fewest_2 (fun H locs hw => ?_)
  refine x_ifb_ne E (P := 1 ≤ j.toInt ∧ j.toInt < (pa : Int)) (tgt := 10) dX3_fewest_5 (by decide) (fun c_1 => ?_) (fun c_1 => ?_)
  · obtain ⟨jn, hjn1, hjn2, rfl⟩ := i_nI j (by omega)
    refine lv_aload_n hx hb dX3_fewest_10 rfl (lv_at hl 0 rfl) ?_
    refine x_get E hw (C := RX3) (T := TX3) (N := 9) hinX3 0 rfl rfl 5 (by decide) rfl (List.mem_of_getElem? (i := 1) rfl) dX3_fewest_11 ?_
    refine lv_istore_n (lv' := [(2, .int (nI pt)), (0, .ref x), (1, .int (nI jn))]) hx hb dX3_fewest_14 rfl hl (by decide) rfl (fun ls hl => ?_)
    refine lv_iconst (v := (nI 0)) hx hb dX3_fewest_15 (by decide) ?_
    refine lv_istore_n (lv' := [(3, .int (nI 0)), (2, .int (nI pt)), (0, .ref x), (1, .int (nI jn))]) hx hb dX3_fewest_16 rfl hl (by decide) rfl (fun ls hl => ?_)
    have loop_17 : ∀ (n : Nat) (y : Nat) (k : Nat), k ≤ 63 → y < pa → ffL pa jn (63 - k) y k = ffL pa jn 63 pt 0 → 63 - k < n → ∀ (H : Heap) (locs : List Loc) (ls : Array Slot), Wd G s A [(x, .inr (3, [.ref tx, .ref o, .ref o1, .ref o2, .int (nI pa), .int (nI pt), .int (nI off), .int (nI ha), .long tr]))] H locs → lv_has ls 4 [(0, .ref x), (1, .int (nI jn)), (2, .int (nI y)), (3, .int (nI k))] → W p l e rm_X3_fewest s m args below meth c H locs 0 0 Q (F0 m 17 ls []) := by
      intro n
      induction n with
      | zero =>
        intro y k hk hy hinv hmu
        exact absurd hmu (Nat.not_lt_zero _)
      | succ n ih_17 =>
        intro y k hk hy hinv hmu_17 H locs ls hw hl
        refine lv_iload_n hx hb dX3_fewest_17 rfl (lv_at hl 3 rfl) ?_
        refine lv_bipush (v := (nI 63)) hx hb dX3_fewest_18 (by decide) ?_
        refine x_icmp_ge E (nI_toI (show k < 2147483648 by omega)) (nI_toI (by decide)) (tgt := 45) dX3_fewest_20 (by decide) (fun c_2 => ?_) (fun c_2 => ?_)
        · refine lv_bipush (v := (-9 : Int32)) hx hb dX3_fewest_45 (by decide) ?_
          exact hret (-9 : Int32) () _ _ _ _ dX3_fewest_47 rfl (ifT (by omega) (by rw [hjn2, tNat, ← hinv, show 63 - k = 0 by omega]; rfl)) hw
        · refine lv_iload_n hx hb dX3_fewest_23 rfl (lv_at hl 2 rfl) ?_
          refine lv_iload_n hx hb dX3_fewest_24 rfl (lv_at hl 1 rfl) ?_
          refine x_icmp_ne E (nI_toI (show y < 2147483648 by omega)) (nI_toI (show jn < 2147483648 by omega)) (tgt := 30) dX3_fewest_25 (by decide) (fun c_3 => ?_) (fun c_3 => ?_)
          · have hne : ¬ y = jn := by omega
            refine lv_aload_n hx hb dX3_fewest_30 rfl (lv_at hl 0 rfl) ?_
            refine x_get E hw (C := RX3) (T := TX3) (N := 9) hinX3 0 rfl rfl 4 (by decide) rfl (List.mem_of_getElem? (i := 2) rfl) dX3_fewest_31 ?_
            refine lv_iload_n hx hb dX3_fewest_34 rfl (lv_at hl 2 rfl) ?_
            refine x_cfSi E hw hl.1 (As := [.int (nI pa), .int (nI y)]) (rest := []) (c_X3_ruled l G pa y (by omega)) 2 gX3_fewest_X3_ruled rfl rfl rfl (by decide) ⟨Nat.le_of_ble_eq_true rfl, Nat.le_of_ble_eq_true rfl⟩ ⟨Nat.le_of_ble_eq_true rfl, Nat.le_of_ble_eq_true rfl⟩ rfl [] [0] rfl rfl rfl rfl rfl [0] [(x, .inr (3, [.ref tx, .ref o, .ref o1, .ref o2, .int (nI pa), .int (nI pt), .int (nI off), .int (nI ha), .long tr]))] rfl rfl rfl (Nat.le_of_ble_eq_true rfl) dX3_fewest_35 (fun H locs hw => ?_)
            refine lv_istore_n (lv' := [(2, .int (nI (gz pa y))), (0, .ref x), (1, .int (nI jn)), (3, .int (nI k))]) hx hb dX3_fewest_38 rfl hl (by decide) rfl (fun ls hl => ?_)
            refine lv_iinc (v := (nI (k + 1))) (lv' := [(3, .int (nI (k + 1))), (2, .int (nI (gz pa y))), (0, .ref x), (1, .int (nI jn))]) hx hb dX3_fewest_39 hl (k := 3) rfl (x_inc1 _) (by decide) rfl (fun ls hl => ?_)
            refine lv_goto (tgt := 17) hx hb dX3_fewest_42 (by decide) ?_
            exact ih_17 (gz pa y) (k + 1) (by omega) (gz_lt hy) ((ffL_step (by omega) hne).symm.trans hinv) (by omega) _ _ _ hw (lv_sub hl [2, 3, 1, 0] rfl)
          · obtain rfl : y = jn := by omega
            refine lv_iload_n hx hb dX3_fewest_28 rfl (lv_at hl 3 rfl) ?_
            exact hret (nI k) () _ _ _ _ dX3_fewest_29 rfl (ifT (by omega) (by rw [hjn2, tNat, ← hinv]; obtain ⟨f, hf⟩ : ∃ f, 63 - k = f + 1 := ⟨62 - k, by omega⟩; rw [hf, ffL_hit])) hw
    exact loop_17 (63 - 0 + 1) pt 0 (by omega) (by omega) rfl (Nat.lt_succ_self _) _ _ _ hw (lv_sub hl [2, 3, 1, 0] rfl)
  · refine lv_iconst (v := (-1 : Int32)) hx hb dX3_fewest_8 (by decide) ?_
    exact hret (-1 : Int32) () _ _ _ _ dX3_fewest_9 rfl (ifF (by omega) rfl) hw

abbrev rm_X3_near : Room := { frames := 0, cells := 0, slots := 0, locals := 0 }
set_option maxHeartbeats 4000000 in
set_option maxRecDepth 100000 in
theorem c_X3_near (l : Launch) (G : XG) (x : Nat) (tx : Nat) (o : Nat) (o1 : Nat) (o2 : Nat) (pa : Nat) (pt : Nat) (off : Nat) (ha : Nat) (tr : Int64) (t : Int32) (ho : off ≤ 99) : CfI l yX3_near wsX3_near rm_X3_near G [.ref x, .int t] [(x, .inr (3, [.ref tx, .ref o, .ref o1, .ref o2, .int (nI pa), .int (nI pt), .int (nI off), .int (nI ha), .long tr]))] (nearF off t.toInt) [(x, .inr (3, [.ref tx, .ref o, .ref o1, .ref o2, .int (nI pa), .int (nI pt), .int (nI off), .int (nI ha), .long tr]))] := by
  refine CtI.go (cc := cX3_near) (maxL := 3) RX3 rfl (by decide) rfl (Nat.le_of_ble_eq_true rfl) ?_
  intro p e s m args below meth c A Q ls E hw hl hret
  have hx := E.1
  have hb := E.2.1
  have hinX3 : ∀ w ∈ wsX30, w ∈ wsX3_near := (fun w h => List.mem_cons_of_mem _ (List.mem_append_right _ h))
  have hl : lv_has ls 3 [(0, .ref x), (1, .int t)] := hl
  refine lv_iload_n hx hb dX3_near_0 rfl (lv_at hl 1 rfl) ?_
  refine x_if_lt E rfl (tgt := 10) dX3_near_1 (by decide) (fun c_1 => ?_) (fun c_1 => ?_)
  · refine lv_iconst (v := (-1 : Int32)) hx hb dX3_near_10 (by decide) ?_
    exact hret (-1 : Int32) () _ _ _ _ dX3_near_11 rfl (ifF (by omega) rfl) hw
  · refine lv_iload_n hx hb dX3_near_4 rfl (lv_at hl 1 rfl) ?_
    refine lv_ldc (v := (99999)) hx hb E.2.2.2.1 (E.2.2.2.2 _ (List.mem_of_getElem? (i := 1) rfl)) dX3_near_5 ?_
    refine x_topi (v := nI 99999) (by decide) ?_
    refine x_icmp_le E rfl (nI_toI (by decide)) (tgt := 12) dX3_near_7 (by decide) (fun c_2 => ?_) (fun c_2 => ?_)
    · obtain ⟨tn, htn1, htn2, rfl⟩ := i_nI t (by omega)
      refine lv_iconst (v := (nI 0)) hx hb dX3_near_12 (by decide) ?_
      refine lv_istore_n (lv' := [(2, .int (nI 0)), (0, .ref x), (1, .int (nI tn))]) hx hb dX3_near_13 rfl hl (by decide) rfl (fun ls hl => ?_)
      have loop_14 : ∀ (n : Nat) (k : Nat), k ≤ 41 → nrL off tn (41 - k) k = nrL off tn 41 0 → 41 - k < n → ∀ (H : Heap) (locs : List Loc) (ls : Array Slot), Wd G s A [(x, .inr (3, [.ref tx, .ref o, .ref o1, .ref o2, .int (nI pa), .int (nI pt), .int (nI off), .int (nI ha), .long tr]))] H locs → lv_has ls 3 [(0, .ref x), (1, .int (nI tn)), (2, .int (nI k))] → W p l e rm_X3_near s m args below meth c H locs 0 0 Q (F0 m 14 ls []) := by
        intro n
        induction n with
        | zero =>
          intro k hk hinv hmu
          exact absurd hmu (Nat.not_lt_zero _)
        | succ n ih_14 =>
          intro k hk hinv hmu_14 H locs ls hw hl
          refine lv_iload_n hx hb dX3_near_14 rfl (lv_at hl 2 rfl) ?_
          refine lv_bipush (v := (nI 40)) hx hb dX3_near_15 (by decide) ?_
          refine x_icmp_gt E (nI_toI (show k < 2147483648 by omega)) (nI_toI (by decide)) (tgt := 45) dX3_near_17 (by decide) (fun c_3 => ?_) (fun c_3 => ?_)
          · refine lv_bipush (v := (-9 : Int32)) hx hb dX3_near_45 (by decide) ?_
            exact hret (-9 : Int32) () _ _ _ _ dX3_near_47 rfl (ifT (by omega) (by rw [htn2, tNat, ← hinv, show 41 - k = 0 by omega]; rfl)) hw
          · refine lv_aload_n hx hb dX3_near_20 rfl (lv_at hl 0 rfl) ?_
            refine x_get E hw (C := RX3) (T := TX3) (N := 9) hinX3 0 rfl rfl 6 (by decide) rfl (List.mem_of_getElem? (i := 2) rfl) dX3_near_21 ?_
            refine lv_i2l (v := (lN off)) hx hb dX3_near_24 (nI_l (by omega)) ?_
            refine lv_ldc2 (v := (1000)) hx hb E.2.2.2.1 (E.2.2.2.2 _ (List.mem_of_getElem? (i := 3) rfl)) dX3_near_25 ?_
            refine x_topl (v := lN 1000) (by decide) ?_
            refine x_lmul E (v := (lN (off * 1000))) dX3_near_28 (lN_mul _ _) ?_
            refine lv_iload_n hx hb dX3_near_29 rfl (lv_at hl 1 rfl) ?_
            refine lv_i2l (v := (lN tn)) hx hb dX3_near_30 (nI_l (by omega)) ?_
            refine lv_iload_n hx hb dX3_near_31 rfl (lv_at hl 2 rfl) ?_
            have hpw := pw40 (t := tn) (k := k) (by omega) (by omega)
            refine lv_lshl (v := (lN (tn * 2 ^ k))) hx hb dX3_near_32 (wb_shl _ (by omega)) ?_
            refine x_lc_gt E (lN_toI (show off * 1000 < 9223372036854775808 by omega)) (lN_toI (show tn * 2 ^ k < 9223372036854775808 by omega)) (tgt := 39) dX3_near_33 dX3_near_34 (by decide) (fun c_4 => ?_) (fun c_4 => ?_)
            · have hne : ¬ off * 1000 ≤ tn * 2 ^ k := by omega
              refine lv_iinc (v := (nI (k + 1))) (lv' := [(2, .int (nI (k + 1))), (0, .ref x), (1, .int (nI tn))]) hx hb dX3_near_39 hl (k := 2) rfl (x_inc1 _) (by decide) rfl (fun ls hl => ?_)
              refine lv_goto (tgt := 14) hx hb dX3_near_42 (by decide) ?_
              exact ih_14 (k + 1) (by omega) ((nrL_step (by omega) hne).symm.trans hinv) (by omega) _ _ _ hw (lv_sub hl [1, 2, 0] rfl)
            · have hle : off * 1000 ≤ tn * 2 ^ k := by omega
              refine lv_iload_n hx hb dX3_near_37 rfl (lv_at hl 2 rfl) ?_
              exact hret (nI k) () _ _ _ _ dX3_near_38 rfl (ifT (by omega) (by rw [htn2, tNat, ← hinv, nrL_hit (by omega) hle])) hw
      exact loop_14 (41 - 0 + 1) 0 (by omega) rfl (Nat.lt_succ_self _) _ _ _ hw (lv_sub hl [1, 2, 0] rfl)
    · refine lv_iconst (v := (-1 : Int32)) hx hb dX3_near_10 (by decide) ?_
      exact hret (-1 : Int32) () _ _ _ _ dX3_near_11 rfl (ifF (by omega) rfl) hw

abbrev rm_X3_says : Room := { frames := 1, cells := 0, slots := 0, locals := 21 }
set_option maxHeartbeats 4000000 in
set_option maxRecDepth 100000 in
theorem c_X3_says (l : Launch) (G : XG) (x : Nat) (tx : Nat) (o : Nat) (o1 : Nat) (o2 : Nat) (pa : Nat) (pt : Nat) (off : Nat) (ha : Nat) (tr : Int64) (j : Int32) (hpa : pa ≤ 63) : CfI l yX3_says wsX3_says rm_X3_says G [.ref x, .int j] [(x, .inr (3, [.ref tx, .ref o, .ref o1, .ref o2, .int (nI pa), .int (nI pt), .int (nI off), .int (nI ha), .long tr]))] (saysF pa j.toInt) [(x, .inr (3, [.ref tx, .ref o, .ref o1, .ref o2, .int (nI pa), .int (nI pt), .int (nI off), .int (nI ha), .long tr]))] := by
  refine CtI.go (cc := cX3_says) (maxL := 2) RX3 rfl (by decide) rfl (Nat.le_of_ble_eq_true rfl) ?_
  intro p e s m args below meth c A Q ls E hw hl hret
  have hx := E.1
  have hb := E.2.1
  have hl : lv_has ls 2 [(0, .ref x), (1, .int j)] := hl
  refine lv_aload_n hx hb dX3_says_0 rfl (lv_at hl 0 rfl) ?_
  refine lv_iload_n hx hb dX3_says_1 rfl (lv_at hl 1 rfl) ?_
  refine x_cfVi E hw hl.1 (As := [.int j]) (rest := []) (c_X3_isInner l G x tx o o1 o2 pa pt off ha tr j (by omega)) 1 gX3_says_X3_isInner rfl rfl rfl (by decide) ⟨Nat.le_of_ble_eq_true rfl, Nat.le_of_ble_eq_true rfl⟩ ⟨Nat.le_of_ble_eq_true rfl, Nat.le_of_ble_eq_true rfl⟩ rfl 0 (ci := 3) (C := RX3) (T := TX3) (N := 9) rfl rfl [0] [] rfl rfl rfl rfl rfl [0] [(x, .inr (3, [.ref tx, .ref o, .ref o1, .ref o2, .int (nI pa), .int (nI pt), .int (nI off), .int (nI ha), .long tr]))] rfl rfl rfl (Nat.le_of_ble_eq_true rfl) dX3_says_2 (fun H locs hw => ?_)
  refine x_ifb_eq E (P := 1 ≤ j.toInt ∧ j.toInt < (pa : Int)) (tgt := 15) dX3_says_5 (by decide) (fun c_1 => ?_) (fun c_1 => ?_)
  · refine lv_iconst (v := (-1 : Int32)) hx hb dX3_says_15 (by decide) ?_
    exact hret (-1 : Int32) () _ _ _ _ dX3_says_16 rfl (ifF (by omega) rfl) hw
  · obtain ⟨jn, hjn1, hjn2, rfl⟩ := i_nI j (by omega)
    refine lv_iload_n hx hb dX3_says_8 rfl (lv_at hl 1 rfl) ?_
    refine x_cfSi E hw hl.1 (As := [.int (nI jn)]) (rest := []) (c_X3_sideAt l G jn (by omega)) 1 gX3_says_X3_sideAt rfl rfl rfl (by decide) ⟨Nat.le_of_ble_eq_true rfl, Nat.le_of_ble_eq_true rfl⟩ ⟨Nat.le_of_ble_eq_true rfl, Nat.le_of_ble_eq_true rfl⟩ rfl [] [0] rfl rfl rfl rfl rfl [0] [(x, .inr (3, [.ref tx, .ref o, .ref o1, .ref o2, .int (nI pa), .int (nI pt), .int (nI off), .int (nI ha), .long tr]))] rfl rfl rfl (Nat.le_of_ble_eq_true rfl) dX3_says_9 (fun H locs hw => ?_)
    refine lv_goto (tgt := 16) hx hb dX3_says_12 (by decide) ?_
    exact hret (nI (jn % 2)) () _ _ _ _ dX3_says_16 rfl (ifT (by omega) (by rw [hjn2, tNat])) hw

abbrev rm_X3_round : Room := { frames := 3, cells := 0, slots := 0, locals := 64 }
set_option maxHeartbeats 4000000 in
set_option maxRecDepth 100000 in
theorem c_X3_round (l : Launch) (G : XG) (x : Nat) (tx : Nat) (o : Nat) (o1 : Nat) (o2 : Nat) (pa : Nat) (pt : Nat) (off : Nat) (ha : Nat) (tr : Int64) (j : Int32) (hpa : pa ≤ 63) : CfI l yX3_round wsX3_round rm_X3_round G [.ref x, .int j] [(x, .inr (3, [.ref tx, .ref o, .ref o1, .ref o2, .int (nI pa), .int (nI pt), .int (nI off), .int (nI ha), .long tr]))] (roundF pa j.toInt) [(x, .inr (3, [.ref tx, .ref o, .ref o1, .ref o2, .int (nI pa), .int (nI pt), .int (nI off), .int (nI ha), .long tr]))] := by
  refine CtI.go (cc := cX3_round) (maxL := 2) RX3 rfl (by decide) rfl (Nat.le_of_ble_eq_true rfl) ?_
  intro p e s m args below meth c A Q ls E hw hl hret
  have hx := E.1
  have hb := E.2.1
  have hl : lv_has ls 2 [(0, .ref x), (1, .int j)] := hl
  refine lv_aload_n hx hb dX3_round_0 rfl (lv_at hl 0 rfl) ?_
  refine lv_iload_n hx hb dX3_round_1 rfl (lv_at hl 1 rfl) ?_
  refine x_cfVi E hw hl.1 (As := [.int j]) (rest := []) (c_X3_isInner l G x tx o o1 o2 pa pt off ha tr j (by omega)) 1 gX3_round_X3_isInner rfl rfl rfl (by decide) ⟨Nat.le_of_ble_eq_true rfl, Nat.le_of_ble_eq_true rfl⟩ ⟨Nat.le_of_ble_eq_true rfl, Nat.le_of_ble_eq_true rfl⟩ rfl 0 (ci := 3) (C := RX3) (T := TX3) (N := 9) rfl rfl [0] [] rfl rfl rfl rfl rfl [0] [(x, .inr (3, [.ref tx, .ref o, .ref o1, .ref o2, .int (nI pa), .int (nI pt), .int (nI off), .int (nI ha), .long tr]))] rfl rfl rfl (Nat.le_of_ble_eq_true rfl) dX3_round_2 (fun H locs hw => ?_)
  refine x_ifb_eq E (P := 1 ≤ j.toInt ∧ j.toInt < (pa : Int)) (tgt := 16) dX3_round_5 (by decide) (fun c_1 => ?_) (fun c_1 => ?_)
  · refine lv_iconst (v := (-1 : Int32)) hx hb dX3_round_16 (by decide) ?_
    exact hret (-1 : Int32) () _ _ _ _ dX3_round_17 rfl (ifF (by omega) rfl) hw
  · obtain ⟨jn, hjn1, hjn2, rfl⟩ := i_nI j (by omega)
    refine lv_aload_n hx hb dX3_round_8 rfl (lv_at hl 0 rfl) ?_
    refine lv_iload_n hx hb dX3_round_9 rfl (lv_at hl 1 rfl) ?_
    refine x_cfVi E hw hl.1 (As := [.int (nI jn)]) (rest := []) (c_X3_foldsAround l G x tx o o1 o2 pa pt off ha tr jn (by omega) (by omega)) 1 gX3_round_X3_foldsAround rfl rfl rfl (by decide) ⟨Nat.le_of_ble_eq_true rfl, Nat.le_of_ble_eq_true rfl⟩ ⟨Nat.le_of_ble_eq_true rfl, Nat.le_of_ble_eq_true rfl⟩ rfl 0 (ci := 3) (C := RX3) (T := TX3) (N := 9) rfl rfl [0] [] rfl rfl rfl rfl rfl [0] [(x, .inr (3, [.ref tx, .ref o, .ref o1, .ref o2, .int (nI pa), .int (nI pt), .int (nI off), .int (nI ha), .long tr]))] rfl rfl rfl (Nat.le_of_ble_eq_true rfl) dX3_round_10 (fun H locs hw => ?_)
    refine lv_goto (tgt := 17) hx hb dX3_round_13 (by decide) ?_
    exact hret (nI (faX pa jn)) () _ _ _ _ dX3_round_17 rfl (ifT (by omega) (by rw [hjn2, tNat])) hw

abbrev rm_X3_told : Room := { frames := 0, cells := 0, slots := 0, locals := 0 }
set_option maxHeartbeats 4000000 in
set_option maxRecDepth 100000 in
theorem c_X3_told (l : Launch) (G : XG) (x : Nat) (tx : Nat) (o : Nat) (o1 : Nat) (o2 : Nat) (pa : Nat) (pt : Nat) (off : Nat) (ha : Nat) (tr : Int64) (k : Int32)  : CfI l yX3_told wsX3_told rm_X3_told G [.ref x, .int k] [(x, .inr (3, [.ref tx, .ref o, .ref o1, .ref o2, .int (nI pa), .int (nI pt), .int (nI off), .int (nI ha), .long tr]))] (toldF pa pt off ha k.toInt) [(x, .inr (3, [.ref tx, .ref o, .ref o1, .ref o2, .int (nI pa), .int (nI pt), .int (nI off), .int (nI ha), .long tr]))] := by
  refine CtI.go (cc := cX3_told) (maxL := 2) RX3 rfl (by decide) rfl (Nat.le_of_ble_eq_true rfl) ?_
  intro p e s m args below meth c A Q ls E hw hl hret
  have hx := E.1
  have hb := E.2.1
  have hinX3 : ∀ w ∈ wsX30, w ∈ wsX3_told := (fun w h => List.mem_cons_of_mem _ (List.mem_append_right _ h))
  have hl : lv_has ls 2 [(0, .ref x), (1, .int k)] := hl
  refine lv_iload_n hx hb dX3_told_0 rfl (lv_at hl 1 rfl) ?_
  rcases (show k.toInt = 0 ∨ k.toInt = 1 ∨ k.toInt = 2 ∨ k.toInt = 3 ∨ (k.toInt < 0 ∨ 3 < k.toInt) by omega) with c_1 | c_1 | c_1 | c_1 | c_1
  · refine x_tsw E (rfl.trans c_1) (tgt := 32) dX3_told_1 (by decide) (by decide) rfl (by decide) ?_
    refine lv_aload_n hx hb dX3_told_32 rfl (lv_at hl 0 rfl) ?_
    refine x_get E hw (C := RX3) (T := TX3) (N := 9) hinX3 0 rfl rfl 4 (by decide) rfl (List.mem_of_getElem? (i := 1) rfl) dX3_told_33 ?_
    exact hret (nI pa) () _ _ _ _ dX3_told_36 rfl (by rw [c_1]; rfl) hw
  · refine x_tsw E (rfl.trans c_1) (tgt := 37) dX3_told_1 (by decide) (by decide) rfl (by decide) ?_
    refine lv_aload_n hx hb dX3_told_37 rfl (lv_at hl 0 rfl) ?_
    refine x_get E hw (C := RX3) (T := TX3) (N := 9) hinX3 0 rfl rfl 5 (by decide) rfl (List.mem_of_getElem? (i := 2) rfl) dX3_told_38 ?_
    exact hret (nI pt) () _ _ _ _ dX3_told_41 rfl (by rw [c_1]; rfl) hw
  · refine x_tsw E (rfl.trans c_1) (tgt := 42) dX3_told_1 (by decide) (by decide) rfl (by decide) ?_
    refine lv_aload_n hx hb dX3_told_42 rfl (lv_at hl 0 rfl) ?_
    refine x_get E hw (C := RX3) (T := TX3) (N := 9) hinX3 0 rfl rfl 6 (by decide) rfl (List.mem_of_getElem? (i := 3) rfl) dX3_told_43 ?_
    exact hret (nI off) () _ _ _ _ dX3_told_46 rfl (by rw [c_1]; rfl) hw
  · refine x_tsw E (rfl.trans c_1) (tgt := 47) dX3_told_1 (by decide) (by decide) rfl (by decide) ?_
    refine lv_aload_n hx hb dX3_told_47 rfl (lv_at hl 0 rfl) ?_
    refine x_get E hw (C := RX3) (T := TX3) (N := 9) hinX3 0 rfl rfl 7 (by decide) rfl (List.mem_of_getElem? (i := 4) rfl) dX3_told_48 ?_
    exact hret (nI ha) () _ _ _ _ dX3_told_51 rfl (by rw [c_1]; rfl) hw
  · refine x_tswD E rfl dX3_told_1 (tgt := 52) c_1 (by decide) ?_
    refine lv_iconst (v := (-1 : Int32)) hx hb dX3_told_52 (by decide) ?_
    exact hret (-1 : Int32) () _ _ _ _ dX3_told_53 rfl (by unfold toldF; rw [if_neg (by omega), if_neg (by omega), if_neg (by omega), if_neg (by omega)]) hw
