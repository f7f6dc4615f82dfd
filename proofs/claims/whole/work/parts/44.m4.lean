abbrev rm_X4_takes : Room := { frames := 2, cells := 0, slots := 0, locals := 41 }
set_option maxHeartbeats 4000000 in
set_option maxRecDepth 100000 in
theorem c_X4_takes (l : Launch) (G : XG) (x : Nat) (xt : Nat) (xw : Nat) (xo : Nat) (xh : Nat) (xr : Nat) (xs : Nat) (xi : Nat) (xd : Nat) (xf : Nat) (nb : Nat) (pa : Nat) (pt : Nat) (off : Nat) (ha : Nat) (n : Nat) (nl : Nat) (ns : Nat) (tr : Int64) (u1 : Int32) (u2 : Int32) (u3 : Int32) (u4 : Int64) (u5 : Int32) (gb : Nat → Nat) (z0 : Nat) (lo : Nat) (hi : Nat) (hN : nb ≤ 200) (hgb : ∀ q, gb q < 256) (hz0 : z0 ≤ nb) (hhi : hi ≤ 99) (hlo : lo ≤ 99) : CfI l yX4_takes wsX4_takes rm_X4_takes G [.ref x, .int (nI lo), .int (nI hi)] [(x, .inr (4, [.ref xt, .int (nI nb), .int (nI pa), .int (nI pt), .int (nI off), .int (nI ha), .int (nI n), .ref xw, .ref xo, .ref xh, .int (nI nl), .ref xr, .int (nI ns), .ref xs, .ref xi, .long tr, .int (nI z0), .int u2, .int u3, .long u4, .ref xd, .int u5, .ref xf])), (xt, .inl (cI G, 200, .inl (fI gb)))] (if tk gb nb (sk gb nb z0) = 5 ∧ lo ≤ (nv gb nb (sk gb nb z0)) ∧ (nv gb nb (sk gb nb z0)) ≤ hi then 1 else 0) [(x, .inr (4, [.ref xt, .int (nI nb), .int (nI pa), .int (nI pt), .int (nI off), .int (nI ha), .int (nI n), .ref xw, .ref xo, .ref xh, .int (nI nl), .ref xr, .int (nI ns), .ref xs, .ref xi, .long tr, .int (nI (atM gb nb (sk gb nb z0))), .int (nI (sk gb nb z0)), .int (nI (kdM gb nb (sk gb nb z0))), .long (vlM gb nb (sk gb nb z0)), .ref xd, .int u5, .ref xf])), (xt, .inl (cI G, 200, .inl (fI gb)))] := by
  have hP0 := sk_le gb hz0
  have hA0 := atM_le (gb := gb) hP0
  have hK0 := kdM_le gb nb (sk gb nb z0)
  have h5 := tk5 (N := nb) (p := (sk gb nb z0)) (lo := lo) hhi hgb
  refine CtI.go (cc := cX4_takes) (maxL := 3) RX4 rfl (by decide) rfl (Nat.le_of_ble_eq_true rfl) ?_
  intro p e s m args below meth c A Q ls E hw hl hret
  have hx := E.1
  have hb := E.2.1
  have hinX4 : ∀ w ∈ wsX40, w ∈ wsX4_takes := (fun w h => List.mem_cons_of_mem _ (List.mem_append_right _ h))
  have hl : lv_has ls 3 [(0, .ref x), (1, .int (nI lo)), (2, .int (nI hi))] := hl
  refine lv_aload_n hx hb dX4_takes_0 rfl (lv_at hl 0 rfl) ?_
  refine x_cfVv E hw hl.1 (As := []) (rest := []) (c_X4_next l G x xt xw xo xh xr xs xi xd xf nb pa pt off ha n nl ns tr 0 u2 u3 u4 u5 gb z0 (by omega) hgb (by omega)) 0 gX4_takes_X4_next rfl rfl rfl (by decide) ⟨Nat.le_of_ble_eq_true rfl, Nat.le_of_ble_eq_true rfl⟩ ⟨Nat.le_of_ble_eq_true rfl, Nat.le_of_ble_eq_true rfl⟩ rfl 0 (ci := 4) (C := RX4) (T := TX4) (N := 23) rfl rfl [0, 1] [] rfl rfl rfl rfl rfl [0, 1] [(x, .inr (4, [.ref xt, .int (nI nb), .int (nI pa), .int (nI pt), .int (nI off), .int (nI ha), .int (nI n), .ref xw, .ref xo, .ref xh, .int (nI nl), .ref xr, .int (nI ns), .ref xs, .ref xi, .long tr, .int (nI (atM gb nb (sk gb nb z0))), .int (nI (sk gb nb z0)), .int (nI (kdM gb nb (sk gb nb z0))), .long (vlM gb nb (sk gb nb z0)), .ref xd, .int u5, .ref xf])), (xt, .inl (cI G, 200, .inl (fI gb)))] rfl rfl rfl (Nat.le_of_ble_eq_true rfl) dX4_takes_1 (fun H locs hw => ?_)
  refine lv_aload_n hx hb dX4_takes_4 rfl (lv_at hl 0 rfl) ?_
  refine x_get E hw (C := RX4) (T := TX4) (N := 23) hinX4 0 rfl rfl 18 (by decide) rfl (List.mem_of_getElem? (i := 1) rfl) dX4_takes_5 ?_
  refine lv_iconst (v := (nI 2)) hx hb dX4_takes_8 (by decide) ?_
  refine x_icmp_ne E (nI_toI (show (kdM gb nb (sk gb nb z0)) < 2147483648 by omega)) (nI_toI (by decide)) (tgt := 30) dX4_takes_9 (by decide) (fun c_1 => ?_) (fun c_1 => ?_)
  · refine lv_iconst (v := (nI 0)) hx hb dX4_takes_30 (by decide) ?_
    exact hret (nI 0) () _ _ _ _ dX4_takes_31 rfl ((if_neg (fun h => by have h9 := h5.mpr h; omega)).symm) hw
  · refine lv_aload_n hx hb dX4_takes_12 rfl (lv_at hl 0 rfl) ?_
    refine x_get E hw (C := RX4) (T := TX4) (N := 23) hinX4 0 rfl rfl 19 (by decide) rfl (List.mem_of_getElem? (i := 2) rfl) dX4_takes_13 ?_
    refine lv_iload_n hx hb dX4_takes_16 rfl (lv_at hl 1 rfl) ?_
    refine lv_i2l (v := (lN lo)) hx hb dX4_takes_17 (nI_l (by omega)) ?_
    refine lv_iload_n hx hb dX4_takes_18 rfl (lv_at hl 2 rfl) ?_
    refine lv_i2l (v := (lN hi)) hx hb dX4_takes_19 (nI_l (by omega)) ?_
    refine x_cfSi E hw hl.1 (As := [.long (vlM gb nb (sk gb nb z0)), .long (lN lo), .long (lN hi)]) (rest := []) (c_X4_in l G (vlM gb nb (sk gb nb z0)) (lN lo) (lN hi) ((vlM gb nb (sk gb nb z0)).toInt) ((lo : Nat) : Int) ((hi : Nat) : Int) rfl (lN_toI (show lo < 9223372036854775808 by omega)) (lN_toI (show hi < 9223372036854775808 by omega))) 3 gX4_takes_X4_in rfl rfl rfl (by decide) ⟨Nat.le_of_ble_eq_true rfl, Nat.le_of_ble_eq_true rfl⟩ ⟨Nat.le_of_ble_eq_true rfl, Nat.le_of_ble_eq_true rfl⟩ rfl [] [0, 1] rfl rfl rfl rfl rfl [0, 1] [(x, .inr (4, [.ref xt, .int (nI nb), .int (nI pa), .int (nI pt), .int (nI off), .int (nI ha), .int (nI n), .ref xw, .ref xo, .ref xh, .int (nI nl), .ref xr, .int (nI ns), .ref xs, .ref xi, .long tr, .int (nI (atM gb nb (sk gb nb z0))), .int (nI (sk gb nb z0)), .int (nI (kdM gb nb (sk gb nb z0))), .long (vlM gb nb (sk gb nb z0)), .ref xd, .int u5, .ref xf])), (xt, .inl (cI G, 200, .inl (fI gb)))] rfl rfl rfl (Nat.le_of_ble_eq_true rfl) dX4_takes_20 (fun H locs hw => ?_)
    refine x_ifb_eq E (P := ((lo : Nat) : Int) ≤ ((vlM gb nb (sk gb nb z0)).toInt) ∧ ((vlM gb nb (sk gb nb z0)).toInt) ≤ ((hi : Nat) : Int)) (tgt := 30) dX4_takes_23 (by decide) (fun c_2 => ?_) (fun c_2 => ?_)
    · refine lv_iconst (v := (nI 0)) hx hb dX4_takes_30 (by decide) ?_
      exact hret (nI 0) () _ _ _ _ dX4_takes_31 rfl ((if_neg (fun h => by have h9 := h5.mpr h; omega)).symm) hw
    · refine lv_iconst (v := (nI 1)) hx hb dX4_takes_26 (by decide) ?_
      refine lv_goto (tgt := 31) hx hb dX4_takes_27 (by decide) ?_
      exact hret (nI 1) () _ _ _ _ dX4_takes_31 rfl ((if_pos (h5.mp ⟨by omega, by omega, by omega⟩)).symm) hw

abbrev rm_X4_stops : Room := { frames := 2, cells := 0, slots := 0, locals := 41 }
set_option maxHeartbeats 4000000 in
set_option maxRecDepth 100000 in
theorem c_X4_stops (l : Launch) (G : XG) (x : Nat) (xt : Nat) (xw : Nat) (xo : Nat) (xh : Nat) (xr : Nat) (xs : Nat) (xi : Nat) (xd : Nat) (xf : Nat) (nb : Nat) (pa : Nat) (pt : Nat) (off : Nat) (ha : Nat) (n : Nat) (nl : Nat) (ns : Nat) (tr : Int64) (u1 : Int32) (u2 : Int32) (u3 : Int32) (u4 : Int64) (u5 : Int32) (gb : Nat → Nat) (z0 : Nat) (hN : nb ≤ 200) (hgb : ∀ q, gb q < 256) (hz0 : z0 ≤ nb) : CfI l yX4_stops wsX4_stops rm_X4_stops G [.ref x] [(x, .inr (4, [.ref xt, .int (nI nb), .int (nI pa), .int (nI pt), .int (nI off), .int (nI ha), .int (nI n), .ref xw, .ref xo, .ref xh, .int (nI nl), .ref xr, .int (nI ns), .ref xs, .ref xi, .long tr, .int (nI z0), .int u2, .int u3, .long u4, .ref xd, .int u5, .ref xf])), (xt, .inl (cI G, 200, .inl (fI gb)))] (if tk gb nb (sk gb nb z0) = 6 then 1 else 0) [(x, .inr (4, [.ref xt, .int (nI nb), .int (nI pa), .int (nI pt), .int (nI off), .int (nI ha), .int (nI n), .ref xw, .ref xo, .ref xh, .int (nI nl), .ref xr, .int (nI ns), .ref xs, .ref xi, .long tr, .int (nI (atM gb nb (sk gb nb z0))), .int (nI (sk gb nb z0)), .int (nI (kdM gb nb (sk gb nb z0))), .long (vlM gb nb (sk gb nb z0)), .ref xd, .int u5, .ref xf])), (xt, .inl (cI G, 200, .inl (fI gb)))] := by
  have hP0 := sk_le gb hz0
  have hA0 := atM_le (gb := gb) hP0
  have hK0 := kdM_le gb nb (sk gb nb z0)
  have h6 := tk6 (gb := gb) (N := nb) (p := (sk gb nb z0))
  refine CtI.go (cc := cX4_stops) (maxL := 1) RX4 rfl (by decide) rfl (Nat.le_of_ble_eq_true rfl) ?_
  intro p e s m args below meth c A Q ls E hw hl hret
  have hx := E.1
  have hb := E.2.1
  have hinX4 : ∀ w ∈ wsX40, w ∈ wsX4_stops := (fun w h => List.mem_cons_of_mem _ (List.mem_append_right _ h))
  have hl : lv_has ls 1 [(0, .ref x)] := hl
  refine lv_aload_n hx hb dX4_stops_0 rfl (lv_at hl 0 rfl) ?_
  refine x_cfVv E hw hl.1 (As := []) (rest := []) (c_X4_next l G x xt xw xo xh xr xs xi xd xf nb pa pt off ha n nl ns tr 0 u2 u3 u4 u5 gb z0 (by omega) hgb (by omega)) 0 gX4_stops_X4_next rfl rfl rfl (by decide) ⟨Nat.le_of_ble_eq_true rfl, Nat.le_of_ble_eq_true rfl⟩ ⟨Nat.le_of_ble_eq_true rfl, Nat.le_of_ble_eq_true rfl⟩ rfl 0 (ci := 4) (C := RX4) (T := TX4) (N := 23) rfl rfl [0, 1] [] rfl rfl rfl rfl rfl [0, 1] [(x, .inr (4, [.ref xt, .int (nI nb), .int (nI pa), .int (nI pt), .int (nI off), .int (nI ha), .int (nI n), .ref xw, .ref xo, .ref xh, .int (nI nl), .ref xr, .int (nI ns), .ref xs, .ref xi, .long tr, .int (nI (atM gb nb (sk gb nb z0))), .int (nI (sk gb nb z0)), .int (nI (kdM gb nb (sk gb nb z0))), .long (vlM gb nb (sk gb nb z0)), .ref xd, .int u5, .ref xf])), (xt, .inl (cI G, 200, .inl (fI gb)))] rfl rfl rfl (Nat.le_of_ble_eq_true rfl) dX4_stops_1 (fun H locs hw => ?_)
  refine lv_aload_n hx hb dX4_stops_4 rfl (lv_at hl 0 rfl) ?_
  refine x_get E hw (C := RX4) (T := TX4) (N := 23) hinX4 0 rfl rfl 18 (by decide) rfl (List.mem_of_getElem? (i := 1) rfl) dX4_stops_5 ?_
  refine lv_iconst (v := (nI 3)) hx hb dX4_stops_8 (by decide) ?_
  refine x_icmp_ne E (nI_toI (show (kdM gb nb (sk gb nb z0)) < 2147483648 by omega)) (nI_toI (by decide)) (tgt := 16) dX4_stops_9 (by decide) (fun c_1 => ?_) (fun c_1 => ?_)
  · refine lv_iconst (v := (nI 0)) hx hb dX4_stops_16 (by decide) ?_
    exact hret (nI 0) () _ _ _ _ dX4_stops_17 rfl ((if_neg (fun h => by have h9 := h6.mpr h; omega)).symm) hw
  · refine lv_iconst (v := (nI 1)) hx hb dX4_stops_12 (by decide) ?_
    refine lv_goto (tgt := 17) hx hb dX4_stops_13 (by decide) ?_
    exact hret (nI 1) () _ _ _ _ dX4_stops_17 rfl ((if_pos (h6.mp (by omega))).symm) hw

abbrev rm_X4_readParts : Room := { frames := 0, cells := 0, slots := 0, locals := 0 }
set_option maxHeartbeats 4000000 in
set_option maxRecDepth 100000 in
theorem c_X4_readParts (l : Launch) (G : XG) (x : Nat) (xt : Nat) (xw : Nat) (xo : Nat) (xh : Nat) (xr : Nat) (xs : Nat) (xi : Nat) (xd : Nat) (xf : Nat) (nb : Nat) (pa : Nat) (pt : Nat) (off : Nat) (ha : Nat) (n : Nat) (nl : Nat) (ns : Nat) (tr : Int64) (u1 : Int32) (u2 : Int32) (u3 : Int32) (u4 : Int64) (u5 : Int32) (t : Nat → Nat) (ht0 : t 0 ≤ 100) : CfI l yX4_readParts wsX4_readParts rm_X4_readParts G [.ref x] [(x, .inr (4, [.ref xt, .int (nI nb), .int (nI pa), .int (nI pt), .int (nI off), .int (nI ha), .int (nI n), .ref xw, .ref xo, .ref xh, .int (nI nl), .ref xr, .int (nI ns), .ref xs, .ref xi, .long tr, .int u1, .int u2, .int u3, .long u4, .ref xd, .int u5, .ref xf])), (xd, .inl (cI G, 4, .inl ((tA t))))] (nI (pvT t)) [(x, .inr (4, [.ref xt, .int (nI nb), .int (nI pa), .int (nI pt), .int (nI off), .int (nI ha), .int (nI n), .ref xw, .ref xo, .ref xh, .int (nI nl), .ref xr, .int (nI ns), .ref xs, .ref xi, .long tr, .int u1, .int u2, .int u3, .long u4, .ref xd, .int u5, .ref xf])), (xd, .inl (cI G, 4, .inl ((tA t))))] := by
  refine CtI.go (cc := cX4_readParts) (maxL := 1) RX4 rfl (by decide) rfl (Nat.le_of_ble_eq_true rfl) ?_
  intro p e s m args below meth c A Q ls E hw hl hret
  have hx := E.1
  have hb := E.2.1
  have hinX4 : ∀ w ∈ wsX40, w ∈ wsX4_readParts := (fun w h => List.mem_cons_of_mem _ (List.mem_append_right _ h))
  have hl : lv_has ls 1 [(0, .ref x)] := hl
  refine lv_aload_n hx hb dX4_readParts_0 rfl (lv_at hl 0 rfl) ?_
  refine x_get E hw (C := RX4) (T := TX4) (N := 23) hinX4 0 rfl rfl 20 (by decide) rfl (List.mem_of_getElem? (i := 1) rfl) dX4_readParts_1 ?_
  refine lv_iconst (v := (nI 0)) hx hb dX4_readParts_4 (by decide) ?_
  refine x_iald E hw 1 (a := xd) (v := (tI (t 0))) rfl rfl (show 0 < 4 by omega) (by omega) rfl dX4_readParts_5 ?_
  refine x_if_ge E (tI_toI (show t 0 < 2147483648 by omega)) (tgt := 13) dX4_readParts_6 (by decide) (fun c_1 => ?_) (fun c_1 => ?_)
  · refine lv_aload_n hx hb dX4_readParts_13 rfl (lv_at hl 0 rfl) ?_
    refine x_get E hw (C := RX4) (T := TX4) (N := 23) hinX4 0 rfl rfl 20 (by decide) rfl (List.mem_of_getElem? (i := 1) rfl) dX4_readParts_14 ?_
    refine lv_iconst (v := (nI 0)) hx hb dX4_readParts_17 (by decide) ?_
    refine x_iald E hw 1 (a := xd) (v := (tI (t 0))) rfl rfl (show 0 < 4 by omega) (by omega) rfl dX4_readParts_18 ?_
    exact hret (tI (t 0)) () _ _ _ _ dX4_readParts_19 rfl (by unfold pvT; rw [if_neg (by omega)]; exact tI_pos (by omega)) hw
  · refine lv_iconst (v := (nI 5)) hx hb dX4_readParts_9 (by decide) ?_
    refine lv_goto (tgt := 19) hx hb dX4_readParts_10 (by decide) ?_
    exact hret (nI 5) () _ _ _ _ dX4_readParts_19 rfl (by unfold pvT; rw [if_pos (by omega)]) hw

abbrev rm_X4_told_bad_0 : Room := { frames := 0, cells := 0, slots := 0, locals := 0 }
set_option maxHeartbeats 4000000 in
set_option maxRecDepth 100000 in
theorem c_X4_told_bad_0 (l : Launch) (G : XG) (x : Nat) (xt : Nat) (xw : Nat) (xo : Nat) (xh : Nat) (xr : Nat) (xs : Nat) (xi : Nat) (xd : Nat) (xf : Nat) (nb : Nat) (pa : Nat) (pt : Nat) (off : Nat) (ha : Nat) (n : Nat) (nl : Nat) (ns : Nat) (tr : Int64) (u1 : Int32) (u2 : Int32) (u3 : Int32) (u4 : Int64) (u5 : Int32) (gb : Nat → Nat) (z0 : Nat) (nf : Nat) (t : Nat → Nat) (hN : nb ≤ 200) (hgb : ∀ q, gb q < 256) (hz0 : z0 ≤ nb) (hnf : nf ≤ 20) (ht : ∀ j, t j ≤ 100) (hpv : pvT t ≤ 63) (hpv3 : 3 ≤ pvT t) (hw : ¬ (nf = 0 ∧ t 0 = 0 ∧ t 1 = 0)) : CfI l yX4_takesTold wsX4_takesTold rm_X4_told_bad_0 G [.ref x, .int (nI 0)] [(x, .inr (4, [.ref xt, .int (nI nb), .int (nI pa), .int (nI pt), .int (nI off), .int (nI ha), .int (nI n), .ref xw, .ref xo, .ref xh, .int (nI nl), .ref xr, .int (nI ns), .ref xs, .ref xi, .long tr, .int (nI z0), .int u2, .int u3, .long u4, .ref xd, .int (nI nf), .ref xf])), (xt, .inl (cI G, 200, .inl (fI gb))), (xd, .inl (cI G, 4, .inl ((tA t))))] (nI 0) [(x, .inr (4, [.ref xt, .int (nI nb), .int (nI pa), .int (nI pt), .int (nI off), .int (nI ha), .int (nI n), .ref xw, .ref xo, .ref xh, .int (nI nl), .ref xr, .int (nI ns), .ref xs, .ref xi, .long tr, .int (nI z0), .int u2, .int u3, .long u4, .ref xd, .int (nI nf), .ref xf])), (xt, .inl (cI G, 200, .inl (fI gb))), (xd, .inl (cI G, 4, .inl ((tA t))))] := by
  have ht0 := ht 0
  have ht1 := ht 1
  refine CtI.go (cc := cX4_takesTold) (maxL := 4) RX4 rfl (by decide) rfl (Nat.le_of_ble_eq_true rfl) ?_
  intro p e s m args below meth c A Q ls E hw hl hret
  have hx := E.1
  have hb := E.2.1
  have hinX4 : ∀ w ∈ wsX40, w ∈ wsX4_takesTold := (fun w h => List.mem_cons_of_mem _ (List.mem_append_right _ h))
  have hl : lv_has ls 4 [(0, .ref x), (1, .int (nI 0))] := hl
  refine lv_aload_n hx hb dX4_takesTold_0 rfl (lv_at hl 0 rfl) ?_
  refine x_get E hw (C := RX4) (T := TX4) (N := 23) hinX4 0 rfl rfl 21 (by decide) rfl (List.mem_of_getElem? (i := 1) rfl) dX4_takesTold_1 ?_
  refine x_if_gt E (nI_toI (show nf < 2147483648 by omega)) (tgt := 29) dX4_takesTold_4 (by decide) (fun c_1 => ?_) (fun c_1 => ?_)
  · refine lv_iconst (v := (nI 0)) hx hb dX4_takesTold_29 (by decide) ?_
    exact hret (nI 0) () _ _ _ _ dX4_takesTold_30 rfl rfl hw
  · refine lv_aload_n hx hb dX4_takesTold_7 rfl (lv_at hl 0 rfl) ?_
    refine x_get E hw (C := RX4) (T := TX4) (N := 23) hinX4 0 rfl rfl 20 (by decide) rfl (List.mem_of_getElem? (i := 2) rfl) dX4_takesTold_8 ?_
    refine lv_iload_n hx hb dX4_takesTold_11 rfl (lv_at hl 1 rfl) ?_
    refine x_iald E hw 2 (a := xd) (v := (tI (t 0))) rfl rfl (show 0 < 4 by omega) (by omega) rfl dX4_takesTold_12 ?_
    refine x_if_ge E (tI_toI (show t 0 < 2147483648 by omega)) (tgt := 29) dX4_takesTold_13 (by decide) (fun c_2 => ?_) (fun c_2 => ?_)
    · refine lv_iconst (v := (nI 0)) hx hb dX4_takesTold_29 (by decide) ?_
      exact hret (nI 0) () _ _ _ _ dX4_takesTold_30 rfl rfl hw
    · refine lv_iload_n hx hb dX4_takesTold_16 rfl (lv_at hl 1 rfl) ?_
      refine x_if_ne E (nI_toI (by decide)) (tgt := 31) dX4_takesTold_17 (by decide) (fun c_3 => ?_) (fun c_3 => ?_)
      · exact absurd c_3 (by decide)
      · refine lv_aload_n hx hb dX4_takesTold_20 rfl (lv_at hl 0 rfl) ?_
        refine x_get E hw (C := RX4) (T := TX4) (N := 23) hinX4 0 rfl rfl 20 (by decide) rfl (List.mem_of_getElem? (i := 2) rfl) dX4_takesTold_21 ?_
        refine lv_iconst (v := (nI 1)) hx hb dX4_takesTold_24 (by decide) ?_
        refine x_iald E hw 2 (a := xd) (v := (tI (t 1))) rfl rfl (show 1 < 4 by omega) (by omega) rfl dX4_takesTold_25 ?_
        refine x_if_lt E (tI_toI (show t 1 < 2147483648 by omega)) (tgt := 31) dX4_takesTold_26 (by decide) (fun c_4 => ?_) (fun c_4 => ?_)
        · exfalso; omega
        · refine lv_iconst (v := (nI 0)) hx hb dX4_takesTold_29 (by decide) ?_
          exact hret (nI 0) () _ _ _ _ dX4_takesTold_30 rfl rfl hw

abbrev rm_X4_told_no_0 : Room := { frames := 3, cells := 0, slots := 0, locals := 63 }
set_option maxHeartbeats 4000000 in
set_option maxRecDepth 100000 in
theorem c_X4_told_no_0 (l : Launch) (G : XG) (x : Nat) (xt : Nat) (xw : Nat) (xo : Nat) (xh : Nat) (xr : Nat) (xs : Nat) (xi : Nat) (xd : Nat) (xf : Nat) (nb : Nat) (pa : Nat) (pt : Nat) (off : Nat) (ha : Nat) (n : Nat) (nl : Nat) (ns : Nat) (tr : Int64) (u1 : Int32) (u2 : Int32) (u3 : Int32) (u4 : Int64) (u5 : Int32) (gb : Nat → Nat) (z0 : Nat) (nf : Nat) (t : Nat → Nat) (hN : nb ≤ 200) (hgb : ∀ q, gb q < 256) (hz0 : z0 ≤ nb) (hnf : nf ≤ 20) (ht : ∀ j, t j ≤ 100) (hpv : pvT t ≤ 63) (hpv3 : 3 ≤ pvT t) (hw : nf = 0 ∧ t 0 = 0 ∧ t 1 = 0) (hno : ¬ (tk gb nb (sk gb nb z0) = 5 ∧ 3 ≤ (nv gb nb (sk gb nb z0)) ∧ (nv gb nb (sk gb nb z0)) ≤ 63 ∧ (nv gb nb (sk gb nb z0)) % 2 = 1)) : CfI l yX4_takesTold wsX4_takesTold rm_X4_told_no_0 G [.ref x, .int (nI 0)] [(x, .inr (4, [.ref xt, .int (nI nb), .int (nI pa), .int (nI pt), .int (nI off), .int (nI ha), .int (nI n), .ref xw, .ref xo, .ref xh, .int (nI nl), .ref xr, .int (nI ns), .ref xs, .ref xi, .long tr, .int (nI z0), .int u2, .int u3, .long u4, .ref xd, .int (nI nf), .ref xf])), (xt, .inl (cI G, 200, .inl (fI gb))), (xd, .inl (cI G, 4, .inl ((tA t))))] (nI 0) [(x, .inr (4, [.ref xt, .int (nI nb), .int (nI pa), .int (nI pt), .int (nI off), .int (nI ha), .int (nI n), .ref xw, .ref xo, .ref xh, .int (nI nl), .ref xr, .int (nI ns), .ref xs, .ref xi, .long tr, .int (nI (atM gb nb (sk gb nb z0))), .int (nI (sk gb nb z0)), .int (nI (kdM gb nb (sk gb nb z0))), .long (vlM gb nb (sk gb nb z0)), .ref xd, .int (nI nf), .ref xf])), (xt, .inl (cI G, 200, .inl (fI gb))), (xd, .inl (cI G, 4, .inl ((tA t))))] := by
  have ht0 := ht 0
  have ht1 := ht 1
  have hP0 := sk_le gb hz0
  have hA0 := atM_le (gb := gb) hP0
  have hK0 := kdM_le gb nb (sk gb nb z0)
  refine CtI.go (cc := cX4_takesTold) (maxL := 4) RX4 rfl (by decide) rfl (Nat.le_of_ble_eq_true rfl) ?_
  intro p e s m args below meth c A Q ls E hw hl hret
  have hx := E.1
  have hb := E.2.1
  have hinX4 : ∀ w ∈ wsX40, w ∈ wsX4_takesTold := (fun w h => List.mem_cons_of_mem _ (List.mem_append_right _ h))
  have hl : lv_has ls 4 [(0, .ref x), (1, .int (nI 0))] := hl
  refine lv_aload_n hx hb dX4_takesTold_0 rfl (lv_at hl 0 rfl) ?_
  refine x_get E hw (C := RX4) (T := TX4) (N := 23) hinX4 0 rfl rfl 21 (by decide) rfl (List.mem_of_getElem? (i := 1) rfl) dX4_takesTold_1 ?_
  refine x_if_gt E (nI_toI (show nf < 2147483648 by omega)) (tgt := 29) dX4_takesTold_4 (by decide) (fun c_1 => ?_) (fun c_1 => ?_)
  · exfalso; omega
  · refine lv_aload_n hx hb dX4_takesTold_7 rfl (lv_at hl 0 rfl) ?_
    refine x_get E hw (C := RX4) (T := TX4) (N := 23) hinX4 0 rfl rfl 20 (by decide) rfl (List.mem_of_getElem? (i := 2) rfl) dX4_takesTold_8 ?_
    refine lv_iload_n hx hb dX4_takesTold_11 rfl (lv_at hl 1 rfl) ?_
    refine x_iald E hw 2 (a := xd) (v := (tI (t 0))) rfl rfl (show 0 < 4 by omega) (by omega) rfl dX4_takesTold_12 ?_
    refine x_if_ge E (tI_toI (show t 0 < 2147483648 by omega)) (tgt := 29) dX4_takesTold_13 (by decide) (fun c_2 => ?_) (fun c_2 => ?_)
    · exfalso; omega
    · refine lv_iload_n hx hb dX4_takesTold_16 rfl (lv_at hl 1 rfl) ?_
      refine x_if_ne E (nI_toI (by decide)) (tgt := 31) dX4_takesTold_17 (by decide) (fun c_3 => ?_) (fun c_3 => ?_)
      · exact absurd c_3 (by decide)
      · refine lv_aload_n hx hb dX4_takesTold_20 rfl (lv_at hl 0 rfl) ?_
        refine x_get E hw (C := RX4) (T := TX4) (N := 23) hinX4 0 rfl rfl 20 (by decide) rfl (List.mem_of_getElem? (i := 2) rfl) dX4_takesTold_21 ?_
        refine lv_iconst (v := (nI 1)) hx hb dX4_takesTold_24 (by decide) ?_
        refine x_iald E hw 2 (a := xd) (v := (tI (t 1))) rfl rfl (show 1 < 4 by omega) (by omega) rfl dX4_takesTold_25 ?_
        refine x_if_lt E (tI_toI (show t 1 < 2147483648 by omega)) (tgt := 31) dX4_takesTold_26 (by decide) (fun c_4 => ?_) (fun c_4 => ?_)
        · refine lv_iload_n hx hb dX4_takesTold_31 rfl (lv_at hl 1 rfl) ?_
          refine x_if_ne E (nI_toI (by decide)) (tgt := 39) dX4_takesTold_32 (by decide) (fun c_5 => ?_) (fun c_5 => ?_)
          · exact absurd c_5 (by decide)
          · refine lv_iconst (v := (nI 3)) hx hb dX4_takesTold_35 (by decide) ?_
            refine lv_goto (tgt := 49) hx hb dX4_takesTold_36 (by decide) ?_
            refine lv_istore_n (lv' := [(2, .int (nI 3)), (0, .ref x), (1, .int (nI 0))]) hx hb dX4_takesTold_49 rfl hl (by decide) rfl (fun ls hl => ?_)
            refine lv_iload_n hx hb dX4_takesTold_50 rfl (lv_at hl 2 rfl) ?_
            refine x_if_ne E (nI_toI (by decide)) (tgt := 59) dX4_takesTold_51 (by decide) (fun c_6 => ?_) (fun c_6 => ?_)
            · exact absurd c_6 (by decide)
            · refine lv_bipush (v := (nI 63)) hx hb dX4_takesTold_54 (by decide) ?_
              refine lv_goto (tgt := 85) hx hb dX4_takesTold_56 (by decide) ?_
              refine lv_istore_n (lv' := [(3, .int (nI 63)), (2, .int (nI 3)), (0, .ref x), (1, .int (nI 0))]) hx hb dX4_takesTold_85 rfl hl (by decide) rfl (fun ls hl => ?_)
              refine lv_aload_n hx hb dX4_takesTold_86 rfl (lv_at hl 2 rfl) ?_
              refine lv_iload_n hx hb dX4_takesTold_87 rfl (lv_at hl 1 rfl) ?_
              refine lv_iload_n hx hb dX4_takesTold_88 rfl (lv_at hl 0 rfl) ?_
              refine x_cfVi E hw hl.1 (As := [.int (nI 3), .int (nI 63)]) (rest := []) (c_X4_takes l G x xt xw xo xh xr xs xi xd xf nb pa pt off ha n nl ns tr 0 u2 u3 u4 (nI nf) gb z0 3 63 (by omega) hgb (by omega) (by omega) (by omega)) 2 gX4_takesTold_X4_takes rfl rfl rfl (by decide) ⟨Nat.le_of_ble_eq_true rfl, Nat.le_of_ble_eq_true rfl⟩ ⟨Nat.le_of_ble_eq_true rfl, Nat.le_of_ble_eq_true rfl⟩ rfl 0 (ci := 4) (C := RX4) (T := TX4) (N := 23) rfl rfl [0, 1] [2] rfl rfl rfl rfl rfl [1, 2, 0] [(x, .inr (4, [.ref xt, .int (nI nb), .int (nI pa), .int (nI pt), .int (nI off), .int (nI ha), .int (nI n), .ref xw, .ref xo, .ref xh, .int (nI nl), .ref xr, .int (nI ns), .ref xs, .ref xi, .long tr, .int (nI (atM gb nb (sk gb nb z0))), .int (nI (sk gb nb z0)), .int (nI (kdM gb nb (sk gb nb z0))), .long (vlM gb nb (sk gb nb z0)), .ref xd, .int (nI nf), .ref xf])), (xt, .inl (cI G, 200, .inl (fI gb))), (xd, .inl (cI G, 4, .inl ((tA t))))] rfl rfl rfl (Nat.le_of_ble_eq_true rfl) dX4_takesTold_89 (fun H locs hw => ?_)
              refine x_ifb_eq E (P := tk gb nb (sk gb nb z0) = 5 ∧ 3 ≤ (nv gb nb (sk gb nb z0)) ∧ (nv gb nb (sk gb nb z0)) ≤ 63) (tgt := 112) dX4_takesTold_92 (by decide) (fun h5 => ?_) (fun h5 => ?_)
              · refine lv_iconst (v := (nI 0)) hx hb dX4_takesTold_112 (by decide) ?_
                exact hret (nI 0) () _ _ _ _ dX4_takesTold_113 rfl rfl hw
              · refine lv_iload_n hx hb dX4_takesTold_95 rfl (lv_at hl 3 rfl) ?_
                refine x_if_ne E (nI_toI (by decide)) (tgt := 114) dX4_takesTold_96 (by decide) (fun c_7 => ?_) (fun c_7 => ?_)
                · exact absurd c_7 (by decide)
                · refine lv_aload_n hx hb dX4_takesTold_99 rfl (lv_at hl 2 rfl) ?_
                  refine x_get E hw (C := RX4) (T := TX4) (N := 23) hinX4 0 rfl rfl 19 (by decide) rfl (List.mem_of_getElem? (i := 3) rfl) dX4_takesTold_100 ?_
                  have hv5 := (tk5v hgb (show tk gb nb (sk gb nb z0) = 5 from h5.1)).2.2
                  refine x_topl (v := lN (nv gb nb (sk gb nb z0))) (tk5v hgb h5.1).1 ?_
                  refine lv_ldc2 (v := (2)) hx hb E.2.2.2.1 (E.2.2.2.2 _ (List.mem_of_getElem? (i := 4) rfl)) dX4_takesTold_103 ?_
                  refine x_topl (v := lN 2) (by decide) ?_
                  refine x_lrem E (v := (lN ((nv gb nb (sk gb nb z0)) % 2))) dX4_takesTold_106 (by decide) (pk_lRem (by omega) (by omega) (by omega)) ?_
                  refine lv_lconst (v := (lN 0)) hx hb dX4_takesTold_107 (by decide) ?_
                  refine x_lc_ne E (lN_toI (show (nv gb nb (sk gb nb z0)) % 2 < 9223372036854775808 by omega)) (lN_toI (by decide)) (tgt := 114) dX4_takesTold_108 dX4_takesTold_109 (by decide) (fun c_8 => ?_) (fun c_8 => ?_)
                  · exfalso; omega
                  · refine lv_iconst (v := (nI 0)) hx hb dX4_takesTold_112 (by decide) ?_
                    exact hret (nI 0) () _ _ _ _ dX4_takesTold_113 rfl rfl hw
        · exfalso; omega

abbrev rm_X4_told_0 : Room := { frames := 3, cells := 0, slots := 0, locals := 63 }
set_option maxHeartbeats 4000000 in
set_option maxRecDepth 100000 in
theorem c_X4_told_0 (l : Launch) (G : XG) (x : Nat) (xt : Nat) (xw : Nat) (xo : Nat) (xh : Nat) (xr : Nat) (xs : Nat) (xi : Nat) (xd : Nat) (xf : Nat) (nb : Nat) (pa : Nat) (pt : Nat) (off : Nat) (ha : Nat) (n : Nat) (nl : Nat) (ns : Nat) (tr : Int64) (u1 : Int32) (u2 : Int32) (u3 : Int32) (u4 : Int64) (u5 : Int32) (gb : Nat → Nat) (z0 : Nat) (nf : Nat) (t : Nat → Nat) (hN : nb ≤ 200) (hgb : ∀ q, gb q < 256) (hz0 : z0 ≤ nb) (hnf : nf ≤ 20) (ht : ∀ j, t j ≤ 100) (hpv : pvT t ≤ 63) (hpv3 : 3 ≤ pvT t) (hw : nf = 0 ∧ t 0 = 0 ∧ t 1 = 0) (hok : tk gb nb (sk gb nb z0) = 5 ∧ 3 ≤ (nv gb nb (sk gb nb z0)) ∧ (nv gb nb (sk gb nb z0)) ≤ 63 ∧ (nv gb nb (sk gb nb z0)) % 2 = 1) : CfI l yX4_takesTold wsX4_takesTold rm_X4_told_0 G [.ref x, .int (nI 0)] [(x, .inr (4, [.ref xt, .int (nI nb), .int (nI pa), .int (nI pt), .int (nI off), .int (nI ha), .int (nI n), .ref xw, .ref xo, .ref xh, .int (nI nl), .ref xr, .int (nI ns), .ref xs, .ref xi, .long tr, .int (nI z0), .int u2, .int u3, .long u4, .ref xd, .int (nI nf), .ref xf])), (xt, .inl (cI G, 200, .inl (fI gb))), (xd, .inl (cI G, 4, .inl ((tA t))))] (if tk gb nb (sk gb nb (atM gb nb (sk gb nb z0))) = 6 then 1 else 0) [(x, .inr (4, [.ref xt, .int (nI nb), .int (nI pa), .int (nI pt), .int (nI off), .int (nI ha), .int (nI n), .ref xw, .ref xo, .ref xh, .int (nI nl), .ref xr, .int (nI ns), .ref xs, .ref xi, .long tr, .int (nI (atM gb nb (sk gb nb (atM gb nb (sk gb nb z0))))), .int (nI (sk gb nb (atM gb nb (sk gb nb z0)))), .int (nI (kdM gb nb (sk gb nb (atM gb nb (sk gb nb z0))))), .long (vlM gb nb (sk gb nb (atM gb nb (sk gb nb z0)))), .ref xd, .int (nI nf), .ref xf])), (xt, .inl (cI G, 200, .inl (fI gb))), (xd, .inl (cI G, 4, .inl ((tA (va_up t 0 ((nv gb nb (sk gb nb z0)) + 1))))))] := by
  have ht0 := ht 0
  have ht1 := ht 1
  have hP0 := sk_le gb hz0
  have hA0 := atM_le (gb := gb) hP0
  have hK0 := kdM_le gb nb (sk gb nb z0)
  refine CtI.go (cc := cX4_takesTold) (maxL := 4) RX4 rfl (by decide) rfl (Nat.le_of_ble_eq_true rfl) ?_
  intro p e s m args below meth c A Q ls E hw hl hret
  have hx := E.1
  have hb := E.2.1
  have hinX4 : ∀ w ∈ wsX40, w ∈ wsX4_takesTold := (fun w h => List.mem_cons_of_mem _ (List.mem_append_right _ h))
  have hl : lv_has ls 4 [(0, .ref x), (1, .int (nI 0))] := hl
  refine lv_aload_n hx hb dX4_takesTold_0 rfl (lv_at hl 0 rfl) ?_
  refine x_get E hw (C := RX4) (T := TX4) (N := 23) hinX4 0 rfl rfl 21 (by decide) rfl (List.mem_of_getElem? (i := 1) rfl) dX4_takesTold_1 ?_
  refine x_if_gt E (nI_toI (show nf < 2147483648 by omega)) (tgt := 29) dX4_takesTold_4 (by decide) (fun c_1 => ?_) (fun c_1 => ?_)
  · exfalso; omega
  · refine lv_aload_n hx hb dX4_takesTold_7 rfl (lv_at hl 0 rfl) ?_
    refine x_get E hw (C := RX4) (T := TX4) (N := 23) hinX4 0 rfl rfl 20 (by decide) rfl (List.mem_of_getElem? (i := 2) rfl) dX4_takesTold_8 ?_
    refine lv_iload_n hx hb dX4_takesTold_11 rfl (lv_at hl 1 rfl) ?_
    refine x_iald E hw 2 (a := xd) (v := (tI (t 0))) rfl rfl (show 0 < 4 by omega) (by omega) rfl dX4_takesTold_12 ?_
    refine x_if_ge E (tI_toI (show t 0 < 2147483648 by omega)) (tgt := 29) dX4_takesTold_13 (by decide) (fun c_2 => ?_) (fun c_2 => ?_)
    · exfalso; omega
    · refine lv_iload_n hx hb dX4_takesTold_16 rfl (lv_at hl 1 rfl) ?_
      refine x_if_ne E (nI_toI (by decide)) (tgt := 31) dX4_takesTold_17 (by decide) (fun c_3 => ?_) (fun c_3 => ?_)
      · exact absurd c_3 (by decide)
      · refine lv_aload_n hx hb dX4_takesTold_20 rfl (lv_at hl 0 rfl) ?_
        refine x_get E hw (C := RX4) (T := TX4) (N := 23) hinX4 0 rfl rfl 20 (by decide) rfl (List.mem_of_getElem? (i := 2) rfl) dX4_takesTold_21 ?_
        refine lv_iconst (v := (nI 1)) hx hb dX4_takesTold_24 (by decide) ?_
        refine x_iald E hw 2 (a := xd) (v := (tI (t 1))) rfl rfl (show 1 < 4 by omega) (by omega) rfl dX4_takesTold_25 ?_
        refine x_if_lt E (tI_toI (show t 1 < 2147483648 by omega)) (tgt := 31) dX4_takesTold_26 (by decide) (fun c_4 => ?_) (fun c_4 => ?_)
        · refine lv_iload_n hx hb dX4_takesTold_31 rfl (lv_at hl 1 rfl) ?_
          refine x_if_ne E (nI_toI (by decide)) (tgt := 39) dX4_takesTold_32 (by decide) (fun c_5 => ?_) (fun c_5 => ?_)
          · exact absurd c_5 (by decide)
          · refine lv_iconst (v := (nI 3)) hx hb dX4_takesTold_35 (by decide) ?_
            refine lv_goto (tgt := 49) hx hb dX4_takesTold_36 (by decide) ?_
            refine lv_istore_n (lv' := [(2, .int (nI 3)), (0, .ref x), (1, .int (nI 0))]) hx hb dX4_takesTold_49 rfl hl (by decide) rfl (fun ls hl => ?_)
            refine lv_iload_n hx hb dX4_takesTold_50 rfl (lv_at hl 2 rfl) ?_
            refine x_if_ne E (nI_toI (by decide)) (tgt := 59) dX4_takesTold_51 (by decide) (fun c_6 => ?_) (fun c_6 => ?_)
            · exact absurd c_6 (by decide)
            · refine lv_bipush (v := (nI 63)) hx hb dX4_takesTold_54 (by decide) ?_
              refine lv_goto (tgt := 85) hx hb dX4_takesTold_56 (by decide) ?_
              refine lv_istore_n (lv' := [(3, .int (nI 63)), (2, .int (nI 3)), (0, .ref x), (1, .int (nI 0))]) hx hb dX4_takesTold_85 rfl hl (by decide) rfl (fun ls hl => ?_)
              refine lv_aload_n hx hb dX4_takesTold_86 rfl (lv_at hl 2 rfl) ?_
              refine lv_iload_n hx hb dX4_takesTold_87 rfl (lv_at hl 1 rfl) ?_
              refine lv_iload_n hx hb dX4_takesTold_88 rfl (lv_at hl 0 rfl) ?_
              refine x_cfVi E hw hl.1 (As := [.int (nI 3), .int (nI 63)]) (rest := []) (c_X4_takes l G x xt xw xo xh xr xs xi xd xf nb pa pt off ha n nl ns tr 0 u2 u3 u4 (nI nf) gb z0 3 63 (by omega) hgb (by omega) (by omega) (by omega)) 2 gX4_takesTold_X4_takes rfl rfl rfl (by decide) ⟨Nat.le_of_ble_eq_true rfl, Nat.le_of_ble_eq_true rfl⟩ ⟨Nat.le_of_ble_eq_true rfl, Nat.le_of_ble_eq_true rfl⟩ rfl 0 (ci := 4) (C := RX4) (T := TX4) (N := 23) rfl rfl [0, 1] [2] rfl rfl rfl rfl rfl [1, 2, 0] [(x, .inr (4, [.ref xt, .int (nI nb), .int (nI pa), .int (nI pt), .int (nI off), .int (nI ha), .int (nI n), .ref xw, .ref xo, .ref xh, .int (nI nl), .ref xr, .int (nI ns), .ref xs, .ref xi, .long tr, .int (nI (atM gb nb (sk gb nb z0))), .int (nI (sk gb nb z0)), .int (nI (kdM gb nb (sk gb nb z0))), .long (vlM gb nb (sk gb nb z0)), .ref xd, .int (nI nf), .ref xf])), (xt, .inl (cI G, 200, .inl (fI gb))), (xd, .inl (cI G, 4, .inl ((tA t))))] rfl rfl rfl (Nat.le_of_ble_eq_true rfl) dX4_takesTold_89 (fun H locs hw => ?_)
              refine x_ifb_eq E (P := tk gb nb (sk gb nb z0) = 5 ∧ 3 ≤ (nv gb nb (sk gb nb z0)) ∧ (nv gb nb (sk gb nb z0)) ≤ 63) (tgt := 112) dX4_takesTold_92 (by decide) (fun h5 => ?_) (fun h5 => ?_)
              · exfalso; omega
              · have hv5 := (tk5v hgb (show tk gb nb (sk gb nb z0) = 5 from h5.1)).2.2
                refine lv_iload_n hx hb dX4_takesTold_95 rfl (lv_at hl 3 rfl) ?_
                refine x_if_ne E (nI_toI (by decide)) (tgt := 114) dX4_takesTold_96 (by decide) (fun c_7 => ?_) (fun c_7 => ?_)
                · exact absurd c_7 (by decide)
                · refine lv_aload_n hx hb dX4_takesTold_99 rfl (lv_at hl 2 rfl) ?_
                  refine x_get E hw (C := RX4) (T := TX4) (N := 23) hinX4 0 rfl rfl 19 (by decide) rfl (List.mem_of_getElem? (i := 3) rfl) dX4_takesTold_100 ?_
                  refine x_topl (v := lN (nv gb nb (sk gb nb z0))) (tk5v hgb h5.1).1 ?_
                  refine lv_ldc2 (v := (2)) hx hb E.2.2.2.1 (E.2.2.2.2 _ (List.mem_of_getElem? (i := 4) rfl)) dX4_takesTold_103 ?_
                  refine x_topl (v := lN 2) (by decide) ?_
                  refine x_lrem E (v := (lN ((nv gb nb (sk gb nb z0)) % 2))) dX4_takesTold_106 (by decide) (pk_lRem (by omega) (by omega) (by omega)) ?_
                  refine lv_lconst (v := (lN 0)) hx hb dX4_takesTold_107 (by decide) ?_
                  refine x_lc_ne E (lN_toI (show (nv gb nb (sk gb nb z0)) % 2 < 9223372036854775808 by omega)) (lN_toI (by decide)) (tgt := 114) dX4_takesTold_108 dX4_takesTold_109 (by decide) (fun c_8 => ?_) (fun c_8 => ?_)
                  · refine lv_aload_n hx hb dX4_takesTold_114 rfl (lv_at hl 2 rfl) ?_
                    refine x_get E hw (C := RX4) (T := TX4) (N := 23) hinX4 0 rfl rfl 20 (by decide) rfl (List.mem_of_getElem? (i := 2) rfl) dX4_takesTold_115 ?_
                    refine lv_iload_n hx hb dX4_takesTold_118 rfl (lv_at hl 3 rfl) ?_
                    refine lv_aload_n hx hb dX4_takesTold_119 rfl (lv_at hl 2 rfl) ?_
                    refine x_get E hw (C := RX4) (T := TX4) (N := 23) hinX4 0 rfl rfl 19 (by decide) rfl (List.mem_of_getElem? (i := 3) rfl) dX4_takesTold_120 ?_
                    refine x_topl (v := lN (nv gb nb (sk gb nb z0))) (tk5v hgb h5.1).1 ?_
                    refine lv_l2i (v := (nI (nv gb nb (sk gb nb z0)))) hx hb dX4_takesTold_123 (lN_i _) ?_
                    refine x_iast E hw 2 (a := xd) (ws1 := [(x, .inr (4, [.ref xt, .int (nI nb), .int (nI pa), .int (nI pt), .int (nI off), .int (nI ha), .int (nI n), .ref xw, .ref xo, .ref xh, .int (nI nl), .ref xr, .int (nI ns), .ref xs, .ref xi, .long tr, .int (nI (atM gb nb (sk gb nb z0))), .int (nI (sk gb nb z0)), .int (nI (kdM gb nb (sk gb nb z0))), .long (vlM gb nb (sk gb nb z0)), .ref xd, .int (nI nf), .ref xf])), (xt, .inl (cI G, 200, .inl (fI gb))), (xd, .inl (cI G, 4, .inl ((tA (va_up t 0 ((nv gb nb (sk gb nb z0)) + 1))))))]) rfl rfl (show 0 < 4 by omega) (by omega) (tA_up _ _ _) rfl dX4_takesTold_124 (fun H locs hw => ?_)
                    refine lv_aload_n hx hb dX4_takesTold_125 rfl (lv_at hl 2 rfl) ?_
                    refine x_cfVi E hw hl.1 (As := []) (rest := []) (c_X4_stops l G x xt xw xo xh xr xs xi xd xf nb pa pt off ha n nl ns tr 0 (nI (sk gb nb z0)) (nI (kdM gb nb (sk gb nb z0))) (vlM gb nb (sk gb nb z0)) (nI nf) gb (atM gb nb (sk gb nb z0)) (by omega) hgb (by omega)) 0 gX4_takesTold_X4_stops rfl rfl rfl (by decide) ⟨Nat.le_of_ble_eq_true rfl, Nat.le_of_ble_eq_true rfl⟩ ⟨Nat.le_of_ble_eq_true rfl, Nat.le_of_ble_eq_true rfl⟩ rfl 0 (ci := 4) (C := RX4) (T := TX4) (N := 23) rfl rfl [0, 1] [2] rfl rfl rfl rfl rfl [1, 2, 0] [(x, .inr (4, [.ref xt, .int (nI nb), .int (nI pa), .int (nI pt), .int (nI off), .int (nI ha), .int (nI n), .ref xw, .ref xo, .ref xh, .int (nI nl), .ref xr, .int (nI ns), .ref xs, .ref xi, .long tr, .int (nI (atM gb nb (sk gb nb (atM gb nb (sk gb nb z0))))), .int (nI (sk gb nb (atM gb nb (sk gb nb z0)))), .int (nI (kdM gb nb (sk gb nb (atM gb nb (sk gb nb z0))))), .long (vlM gb nb (sk gb nb (atM gb nb (sk gb nb z0)))), .ref xd, .int (nI nf), .ref xf])), (xt, .inl (cI G, 200, .inl (fI gb))), (xd, .inl (cI G, 4, .inl ((tA (va_up t 0 ((nv gb nb (sk gb nb z0)) + 1))))))] rfl rfl rfl (Nat.le_of_ble_eq_true rfl) dX4_takesTold_126 (fun H locs hw => ?_)
                    exact hret (if tk gb nb (sk gb nb (atM gb nb (sk gb nb z0))) = 6 then 1 else 0) () _ _ _ _ dX4_takesTold_129 x_narZ rfl hw
                  · exfalso; omega
        · exfalso; omega

abbrev rm_X4_told_bad_1 : Room := { frames := 0, cells := 0, slots := 0, locals := 0 }
set_option maxHeartbeats 4000000 in
set_option maxRecDepth 100000 in
theorem c_X4_told_bad_1 (l : Launch) (G : XG) (x : Nat) (xt : Nat) (xw : Nat) (xo : Nat) (xh : Nat) (xr : Nat) (xs : Nat) (xi : Nat) (xd : Nat) (xf : Nat) (nb : Nat) (pa : Nat) (pt : Nat) (off : Nat) (ha : Nat) (n : Nat) (nl : Nat) (ns : Nat) (tr : Int64) (u1 : Int32) (u2 : Int32) (u3 : Int32) (u4 : Int64) (u5 : Int32) (gb : Nat → Nat) (z0 : Nat) (nf : Nat) (t : Nat → Nat) (hN : nb ≤ 200) (hgb : ∀ q, gb q < 256) (hz0 : z0 ≤ nb) (hnf : nf ≤ 20) (ht : ∀ j, t j ≤ 100) (hpv : pvT t ≤ 63) (hpv3 : 3 ≤ pvT t) (hw : ¬ (nf = 0 ∧ t 1 = 0)) : CfI l yX4_takesTold wsX4_takesTold rm_X4_told_bad_1 G [.ref x, .int (nI 1)] [(x, .inr (4, [.ref xt, .int (nI nb), .int (nI pa), .int (nI pt), .int (nI off), .int (nI ha), .int (nI n), .ref xw, .ref xo, .ref xh, .int (nI nl), .ref xr, .int (nI ns), .ref xs, .ref xi, .long tr, .int (nI z0), .int u2, .int u3, .long u4, .ref xd, .int (nI nf), .ref xf])), (xt, .inl (cI G, 200, .inl (fI gb))), (xd, .inl (cI G, 4, .inl ((tA t))))] (nI 0) [(x, .inr (4, [.ref xt, .int (nI nb), .int (nI pa), .int (nI pt), .int (nI off), .int (nI ha), .int (nI n), .ref xw, .ref xo, .ref xh, .int (nI nl), .ref xr, .int (nI ns), .ref xs, .ref xi, .long tr, .int (nI z0), .int u2, .int u3, .long u4, .ref xd, .int (nI nf), .ref xf])), (xt, .inl (cI G, 200, .inl (fI gb))), (xd, .inl (cI G, 4, .inl ((tA t))))] := by
  have ht0 := ht 0
  have ht1 := ht 1
  refine CtI.go (cc := cX4_takesTold) (maxL := 4) RX4 rfl (by decide) rfl (Nat.le_of_ble_eq_true rfl) ?_
  intro p e s m args below meth c A Q ls E hw hl hret
  have hx := E.1
  have hb := E.2.1
  have hinX4 : ∀ w ∈ wsX40, w ∈ wsX4_takesTold := (fun w h => List.mem_cons_of_mem _ (List.mem_append_right _ h))
  have hl : lv_has ls 4 [(0, .ref x), (1, .int (nI 1))] := hl
  refine lv_aload_n hx hb dX4_takesTold_0 rfl (lv_at hl 0 rfl) ?_
  refine x_get E hw (C := RX4) (T := TX4) (N := 23) hinX4 0 rfl rfl 21 (by decide) rfl (List.mem_of_getElem? (i := 1) rfl) dX4_takesTold_1 ?_
  refine x_if_gt E (nI_toI (show nf < 2147483648 by omega)) (tgt := 29) dX4_takesTold_4 (by decide) (fun c_1 => ?_) (fun c_1 => ?_)
  · refine lv_iconst (v := (nI 0)) hx hb dX4_takesTold_29 (by decide) ?_
    exact hret (nI 0) () _ _ _ _ dX4_takesTold_30 rfl rfl hw
  · refine lv_aload_n hx hb dX4_takesTold_7 rfl (lv_at hl 0 rfl) ?_
    refine x_get E hw (C := RX4) (T := TX4) (N := 23) hinX4 0 rfl rfl 20 (by decide) rfl (List.mem_of_getElem? (i := 2) rfl) dX4_takesTold_8 ?_
    refine lv_iload_n hx hb dX4_takesTold_11 rfl (lv_at hl 1 rfl) ?_
    refine x_iald E hw 2 (a := xd) (v := (tI (t 1))) rfl rfl (show 1 < 4 by omega) (by omega) rfl dX4_takesTold_12 ?_
    refine x_if_ge E (tI_toI (show t 1 < 2147483648 by omega)) (tgt := 29) dX4_takesTold_13 (by decide) (fun c_2 => ?_) (fun c_2 => ?_)
    · refine lv_iconst (v := (nI 0)) hx hb dX4_takesTold_29 (by decide) ?_
      exact hret (nI 0) () _ _ _ _ dX4_takesTold_30 rfl rfl hw
    · refine lv_iload_n hx hb dX4_takesTold_16 rfl (lv_at hl 1 rfl) ?_
      refine x_if_ne E (nI_toI (by decide)) (tgt := 31) dX4_takesTold_17 (by decide) (fun c_3 => ?_) (fun c_3 => ?_)
      · exfalso; omega
      · exact absurd c_3 (by decide)

abbrev rm_X4_told_no_1 : Room := { frames := 3, cells := 0, slots := 0, locals := 63 }
set_option maxHeartbeats 4000000 in
set_option maxRecDepth 100000 in
theorem c_X4_told_no_1 (l : Launch) (G : XG) (x : Nat) (xt : Nat) (xw : Nat) (xo : Nat) (xh : Nat) (xr : Nat) (xs : Nat) (xi : Nat) (xd : Nat) (xf : Nat) (nb : Nat) (pa : Nat) (pt : Nat) (off : Nat) (ha : Nat) (n : Nat) (nl : Nat) (ns : Nat) (tr : Int64) (u1 : Int32) (u2 : Int32) (u3 : Int32) (u4 : Int64) (u5 : Int32) (gb : Nat → Nat) (z0 : Nat) (nf : Nat) (t : Nat → Nat) (hN : nb ≤ 200) (hgb : ∀ q, gb q < 256) (hz0 : z0 ≤ nb) (hnf : nf ≤ 20) (ht : ∀ j, t j ≤ 100) (hpv : pvT t ≤ 63) (hpv3 : 3 ≤ pvT t) (hw : nf = 0 ∧ t 1 = 0) (hno : ¬ (tk gb nb (sk gb nb z0) = 5 ∧ 1 ≤ (nv gb nb (sk gb nb z0)) ∧ (nv gb nb (sk gb nb z0)) ≤ pvT t - 1)) : CfI l yX4_takesTold wsX4_takesTold rm_X4_told_no_1 G [.ref x, .int (nI 1)] [(x, .inr (4, [.ref xt, .int (nI nb), .int (nI pa), .int (nI pt), .int (nI off), .int (nI ha), .int (nI n), .ref xw, .ref xo, .ref xh, .int (nI nl), .ref xr, .int (nI ns), .ref xs, .ref xi, .long tr, .int (nI z0), .int u2, .int u3, .long u4, .ref xd, .int (nI nf), .ref xf])), (xt, .inl (cI G, 200, .inl (fI gb))), (xd, .inl (cI G, 4, .inl ((tA t))))] (nI 0) [(x, .inr (4, [.ref xt, .int (nI nb), .int (nI pa), .int (nI pt), .int (nI off), .int (nI ha), .int (nI n), .ref xw, .ref xo, .ref xh, .int (nI nl), .ref xr, .int (nI ns), .ref xs, .ref xi, .long tr, .int (nI (atM gb nb (sk gb nb z0))), .int (nI (sk gb nb z0)), .int (nI (kdM gb nb (sk gb nb z0))), .long (vlM gb nb (sk gb nb z0)), .ref xd, .int (nI nf), .ref xf])), (xt, .inl (cI G, 200, .inl (fI gb))), (xd, .inl (cI G, 4, .inl ((tA t))))] := by
  have ht0 := ht 0
  have ht1 := ht 1
  have hP0 := sk_le gb hz0
  have hA0 := atM_le (gb := gb) hP0
  have hK0 := kdM_le gb nb (sk gb nb z0)
  refine CtI.go (cc := cX4_takesTold) (maxL := 4) RX4 rfl (by decide) rfl (Nat.le_of_ble_eq_true rfl) ?_
  intro p e s m args below meth c A Q ls E hw hl hret
  have hx := E.1
  have hb := E.2.1
  have hinX4 : ∀ w ∈ wsX40, w ∈ wsX4_takesTold := (fun w h => List.mem_cons_of_mem _ (List.mem_append_right _ h))
  have hl : lv_has ls 4 [(0, .ref x), (1, .int (nI 1))] := hl
  refine lv_aload_n hx hb dX4_takesTold_0 rfl (lv_at hl 0 rfl) ?_
  refine x_get E hw (C := RX4) (T := TX4) (N := 23) hinX4 0 rfl rfl 21 (by decide) rfl (List.mem_of_getElem? (i := 1) rfl) dX4_takesTold_1 ?_
  refine x_if_gt E (nI_toI (show nf < 2147483648 by omega)) (tgt := 29) dX4_takesTold_4 (by decide) (fun c_1 => ?_) (fun c_1 => ?_)
  · exfalso; omega
  · refine lv_aload_n hx hb dX4_takesTold_7 rfl (lv_at hl 0 rfl) ?_
    refine x_get E hw (C := RX4) (T := TX4) (N := 23) hinX4 0 rfl rfl 20 (by decide) rfl (List.mem_of_getElem? (i := 2) rfl) dX4_takesTold_8 ?_
    refine lv_iload_n hx hb dX4_takesTold_11 rfl (lv_at hl 1 rfl) ?_
    refine x_iald E hw 2 (a := xd) (v := (tI (t 1))) rfl rfl (show 1 < 4 by omega) (by omega) rfl dX4_takesTold_12 ?_
    refine x_if_ge E (tI_toI (show t 1 < 2147483648 by omega)) (tgt := 29) dX4_takesTold_13 (by decide) (fun c_2 => ?_) (fun c_2 => ?_)
    · exfalso; omega
    · refine lv_iload_n hx hb dX4_takesTold_16 rfl (lv_at hl 1 rfl) ?_
      refine x_if_ne E (nI_toI (by decide)) (tgt := 31) dX4_takesTold_17 (by decide) (fun c_3 => ?_) (fun c_3 => ?_)
      · refine lv_iload_n hx hb dX4_takesTold_31 rfl (lv_at hl 1 rfl) ?_
        refine x_if_ne E (nI_toI (by decide)) (tgt := 39) dX4_takesTold_32 (by decide) (fun c_4 => ?_) (fun c_4 => ?_)
        · refine lv_iload_n hx hb dX4_takesTold_39 rfl (lv_at hl 1 rfl) ?_
          refine lv_iconst (v := (nI 1)) hx hb dX4_takesTold_40 (by decide) ?_
          refine x_icmp_ne E (nI_toI (by decide)) (nI_toI (by decide)) (tgt := 48) dX4_takesTold_41 (by decide) (fun c_5 => ?_) (fun c_5 => ?_)
          · exact absurd c_5 (by decide)
          · refine lv_iconst (v := (nI 1)) hx hb dX4_takesTold_44 (by decide) ?_
            refine lv_goto (tgt := 49) hx hb dX4_takesTold_45 (by decide) ?_
            refine lv_istore_n (lv' := [(2, .int (nI 1)), (0, .ref x), (1, .int (nI 1))]) hx hb dX4_takesTold_49 rfl hl (by decide) rfl (fun ls hl => ?_)
            refine lv_iload_n hx hb dX4_takesTold_50 rfl (lv_at hl 2 rfl) ?_
            refine x_if_ne E (nI_toI (by decide)) (tgt := 59) dX4_takesTold_51 (by decide) (fun c_6 => ?_) (fun c_6 => ?_)
            · refine lv_iload_n hx hb dX4_takesTold_59 rfl (lv_at hl 2 rfl) ?_
              refine lv_iconst (v := (nI 1)) hx hb dX4_takesTold_60 (by decide) ?_
              refine x_icmp_ne E (nI_toI (by decide)) (nI_toI (by decide)) (tgt := 73) dX4_takesTold_61 (by decide) (fun c_7 => ?_) (fun c_7 => ?_)
              · exact absurd c_7 (by decide)
              · refine lv_aload_n hx hb dX4_takesTold_64 rfl (lv_at hl 1 rfl) ?_
                refine x_cfVi E hw hl.1 (As := []) (rest := []) (c_X4_readParts l G x xt xw xo xh xr xs xi xd xf nb pa pt off ha n nl ns tr (nI z0) u2 u3 u4 (nI nf) t (by omega)) 0 gX4_takesTold_X4_readParts rfl rfl rfl (by decide) ⟨Nat.le_of_ble_eq_true rfl, Nat.le_of_ble_eq_true rfl⟩ ⟨Nat.le_of_ble_eq_true rfl, Nat.le_of_ble_eq_true rfl⟩ rfl 0 (ci := 4) (C := RX4) (T := TX4) (N := 23) rfl rfl [0, 2] [1] rfl rfl rfl rfl rfl [1, 0, 2] [(x, .inr (4, [.ref xt, .int (nI nb), .int (nI pa), .int (nI pt), .int (nI off), .int (nI ha), .int (nI n), .ref xw, .ref xo, .ref xh, .int (nI nl), .ref xr, .int (nI ns), .ref xs, .ref xi, .long tr, .int (nI z0), .int u2, .int u3, .long u4, .ref xd, .int (nI nf), .ref xf])), (xt, .inl (cI G, 200, .inl (fI gb))), (xd, .inl (cI G, 4, .inl ((tA t))))] rfl rfl rfl (Nat.le_of_ble_eq_true rfl) dX4_takesTold_65 (fun H locs hw => ?_)
                refine lv_iconst (v := (nI 1)) hx hb dX4_takesTold_68 (by decide) ?_
                refine x_isub E (v := (nI ((pvT t) - 1))) dX4_takesTold_69 (pk_sub (by omega)) ?_
                refine lv_goto (tgt := 85) hx hb dX4_takesTold_70 (by decide) ?_
                refine lv_istore_n (lv' := [(3, .int (nI ((pvT t) - 1))), (2, .int (nI 1)), (0, .ref x), (1, .int (nI 1))]) hx hb dX4_takesTold_85 rfl hl (by decide) rfl (fun ls hl => ?_)
                refine lv_aload_n hx hb dX4_takesTold_86 rfl (lv_at hl 2 rfl) ?_
                refine lv_iload_n hx hb dX4_takesTold_87 rfl (lv_at hl 1 rfl) ?_
                refine lv_iload_n hx hb dX4_takesTold_88 rfl (lv_at hl 0 rfl) ?_
                refine x_cfVi E hw hl.1 (As := [.int (nI 1), .int (nI ((pvT t) - 1))]) (rest := []) (c_X4_takes l G x xt xw xo xh xr xs xi xd xf nb pa pt off ha n nl ns tr 0 u2 u3 u4 (nI nf) gb z0 1 ((pvT t) - 1) (by omega) hgb (by omega) (by omega) (by omega)) 2 gX4_takesTold_X4_takes rfl rfl rfl (by decide) ⟨Nat.le_of_ble_eq_true rfl, Nat.le_of_ble_eq_true rfl⟩ ⟨Nat.le_of_ble_eq_true rfl, Nat.le_of_ble_eq_true rfl⟩ rfl 0 (ci := 4) (C := RX4) (T := TX4) (N := 23) rfl rfl [0, 1] [2] rfl rfl rfl rfl rfl [1, 2, 0] [(x, .inr (4, [.ref xt, .int (nI nb), .int (nI pa), .int (nI pt), .int (nI off), .int (nI ha), .int (nI n), .ref xw, .ref xo, .ref xh, .int (nI nl), .ref xr, .int (nI ns), .ref xs, .ref xi, .long tr, .int (nI (atM gb nb (sk gb nb z0))), .int (nI (sk gb nb z0)), .int (nI (kdM gb nb (sk gb nb z0))), .long (vlM gb nb (sk gb nb z0)), .ref xd, .int (nI nf), .ref xf])), (xt, .inl (cI G, 200, .inl (fI gb))), (xd, .inl (cI G, 4, .inl ((tA t))))] rfl rfl rfl (Nat.le_of_ble_eq_true rfl) dX4_takesTold_89 (fun H locs hw => ?_)
                refine x_ifb_eq E (P := tk gb nb (sk gb nb z0) = 5 ∧ 1 ≤ (nv gb nb (sk gb nb z0)) ∧ (nv gb nb (sk gb nb z0)) ≤ ((pvT t) - 1)) (tgt := 112) dX4_takesTold_92 (by decide) (fun h5 => ?_) (fun h5 => ?_)
                · refine lv_iconst (v := (nI 0)) hx hb dX4_takesTold_112 (by decide) ?_
                  exact hret (nI 0) () _ _ _ _ dX4_takesTold_113 rfl rfl hw
                · exfalso; omega
            · exact absurd c_6 (by decide)
        · exact absurd c_4 (by decide)
      · exact absurd c_3 (by decide)

abbrev rm_X4_told_1 : Room := { frames := 3, cells := 0, slots := 0, locals := 63 }
set_option maxHeartbeats 4000000 in
set_option maxRecDepth 100000 in
theorem c_X4_told_1 (l : Launch) (G : XG) (x : Nat) (xt : Nat) (xw : Nat) (xo : Nat) (xh : Nat) (xr : Nat) (xs : Nat) (xi : Nat) (xd : Nat) (xf : Nat) (nb : Nat) (pa : Nat) (pt : Nat) (off : Nat) (ha : Nat) (n : Nat) (nl : Nat) (ns : Nat) (tr : Int64) (u1 : Int32) (u2 : Int32) (u3 : Int32) (u4 : Int64) (u5 : Int32) (gb : Nat → Nat) (z0 : Nat) (nf : Nat) (t : Nat → Nat) (hN : nb ≤ 200) (hgb : ∀ q, gb q < 256) (hz0 : z0 ≤ nb) (hnf : nf ≤ 20) (ht : ∀ j, t j ≤ 100) (hpv : pvT t ≤ 63) (hpv3 : 3 ≤ pvT t) (hw : nf = 0 ∧ t 1 = 0) (hok : tk gb nb (sk gb nb z0) = 5 ∧ 1 ≤ (nv gb nb (sk gb nb z0)) ∧ (nv gb nb (sk gb nb z0)) ≤ pvT t - 1) : CfI l yX4_takesTold wsX4_takesTold rm_X4_told_1 G [.ref x, .int (nI 1)] [(x, .inr (4, [.ref xt, .int (nI nb), .int (nI pa), .int (nI pt), .int (nI off), .int (nI ha), .int (nI n), .ref xw, .ref xo, .ref xh, .int (nI nl), .ref xr, .int (nI ns), .ref xs, .ref xi, .long tr, .int (nI z0), .int u2, .int u3, .long u4, .ref xd, .int (nI nf), .ref xf])), (xt, .inl (cI G, 200, .inl (fI gb))), (xd, .inl (cI G, 4, .inl ((tA t))))] (if tk gb nb (sk gb nb (atM gb nb (sk gb nb z0))) = 6 then 1 else 0) [(x, .inr (4, [.ref xt, .int (nI nb), .int (nI pa), .int (nI pt), .int (nI off), .int (nI ha), .int (nI n), .ref xw, .ref xo, .ref xh, .int (nI nl), .ref xr, .int (nI ns), .ref xs, .ref xi, .long tr, .int (nI (atM gb nb (sk gb nb (atM gb nb (sk gb nb z0))))), .int (nI (sk gb nb (atM gb nb (sk gb nb z0)))), .int (nI (kdM gb nb (sk gb nb (atM gb nb (sk gb nb z0))))), .long (vlM gb nb (sk gb nb (atM gb nb (sk gb nb z0)))), .ref xd, .int (nI nf), .ref xf])), (xt, .inl (cI G, 200, .inl (fI gb))), (xd, .inl (cI G, 4, .inl ((tA (va_up t 1 ((nv gb nb (sk gb nb z0)) + 1))))))] := by
  have ht0 := ht 0
  have ht1 := ht 1
  have hP0 := sk_le gb hz0
  have hA0 := atM_le (gb := gb) hP0
  have hK0 := kdM_le gb nb (sk gb nb z0)
  refine CtI.go (cc := cX4_takesTold) (maxL := 4) RX4 rfl (by decide) rfl (Nat.le_of_ble_eq_true rfl) ?_
  intro p e s m args below meth c A Q ls E hw hl hret
  have hx := E.1
  have hb := E.2.1
  have hinX4 : ∀ w ∈ wsX40, w ∈ wsX4_takesTold := (fun w h => List.mem_cons_of_mem _ (List.mem_append_right _ h))
  have hl : lv_has ls 4 [(0, .ref x), (1, .int (nI 1))] := hl
  refine lv_aload_n hx hb dX4_takesTold_0 rfl (lv_at hl 0 rfl) ?_
  refine x_get E hw (C := RX4) (T := TX4) (N := 23) hinX4 0 rfl rfl 21 (by decide) rfl (List.mem_of_getElem? (i := 1) rfl) dX4_takesTold_1 ?_
  refine x_if_gt E (nI_toI (show nf < 2147483648 by omega)) (tgt := 29) dX4_takesTold_4 (by decide) (fun c_1 => ?_) (fun c_1 => ?_)
  · exfalso; omega
  · refine lv_aload_n hx hb dX4_takesTold_7 rfl (lv_at hl 0 rfl) ?_
    refine x_get E hw (C := RX4) (T := TX4) (N := 23) hinX4 0 rfl rfl 20 (by decide) rfl (List.mem_of_getElem? (i := 2) rfl) dX4_takesTold_8 ?_
    refine lv_iload_n hx hb dX4_takesTold_11 rfl (lv_at hl 1 rfl) ?_
    refine x_iald E hw 2 (a := xd) (v := (tI (t 1))) rfl rfl (show 1 < 4 by omega) (by omega) rfl dX4_takesTold_12 ?_
    refine x_if_ge E (tI_toI (show t 1 < 2147483648 by omega)) (tgt := 29) dX4_takesTold_13 (by decide) (fun c_2 => ?_) (fun c_2 => ?_)
    · exfalso; omega
    · refine lv_iload_n hx hb dX4_takesTold_16 rfl (lv_at hl 1 rfl) ?_
      refine x_if_ne E (nI_toI (by decide)) (tgt := 31) dX4_takesTold_17 (by decide) (fun c_3 => ?_) (fun c_3 => ?_)
      · refine lv_iload_n hx hb dX4_takesTold_31 rfl (lv_at hl 1 rfl) ?_
        refine x_if_ne E (nI_toI (by decide)) (tgt := 39) dX4_takesTold_32 (by decide) (fun c_4 => ?_) (fun c_4 => ?_)
        · refine lv_iload_n hx hb dX4_takesTold_39 rfl (lv_at hl 1 rfl) ?_
          refine lv_iconst (v := (nI 1)) hx hb dX4_takesTold_40 (by decide) ?_
          refine x_icmp_ne E (nI_toI (by decide)) (nI_toI (by decide)) (tgt := 48) dX4_takesTold_41 (by decide) (fun c_5 => ?_) (fun c_5 => ?_)
          · exact absurd c_5 (by decide)
          · refine lv_iconst (v := (nI 1)) hx hb dX4_takesTold_44 (by decide) ?_
            refine lv_goto (tgt := 49) hx hb dX4_takesTold_45 (by decide) ?_
            refine lv_istore_n (lv' := [(2, .int (nI 1)), (0, .ref x), (1, .int (nI 1))]) hx hb dX4_takesTold_49 rfl hl (by decide) rfl (fun ls hl => ?_)
            refine lv_iload_n hx hb dX4_takesTold_50 rfl (lv_at hl 2 rfl) ?_
            refine x_if_ne E (nI_toI (by decide)) (tgt := 59) dX4_takesTold_51 (by decide) (fun c_6 => ?_) (fun c_6 => ?_)
            · refine lv_iload_n hx hb dX4_takesTold_59 rfl (lv_at hl 2 rfl) ?_
              refine lv_iconst (v := (nI 1)) hx hb dX4_takesTold_60 (by decide) ?_
              refine x_icmp_ne E (nI_toI (by decide)) (nI_toI (by decide)) (tgt := 73) dX4_takesTold_61 (by decide) (fun c_7 => ?_) (fun c_7 => ?_)
              · exact absurd c_7 (by decide)
              · refine lv_aload_n hx hb dX4_takesTold_64 rfl (lv_at hl 1 rfl) ?_
                refine x_cfVi E hw hl.1 (As := []) (rest := []) (c_X4_readParts l G x xt xw xo xh xr xs xi xd xf nb pa pt off ha n nl ns tr (nI z0) u2 u3 u4 (nI nf) t (by omega)) 0 gX4_takesTold_X4_readParts rfl rfl rfl (by decide) ⟨Nat.le_of_ble_eq_true rfl, Nat.le_of_ble_eq_true rfl⟩ ⟨Nat.le_of_ble_eq_true rfl, Nat.le_of_ble_eq_true rfl⟩ rfl 0 (ci := 4) (C := RX4) (T := TX4) (N := 23) rfl rfl [0, 2] [1] rfl rfl rfl rfl rfl [1, 0, 2] [(x, .inr (4, [.ref xt, .int (nI nb), .int (nI pa), .int (nI pt), .int (nI off), .int (nI ha), .int (nI n), .ref xw, .ref xo, .ref xh, .int (nI nl), .ref xr, .int (nI ns), .ref xs, .ref xi, .long tr, .int (nI z0), .int u2, .int u3, .long u4, .ref xd, .int (nI nf), .ref xf])), (xt, .inl (cI G, 200, .inl (fI gb))), (xd, .inl (cI G, 4, .inl ((tA t))))] rfl rfl rfl (Nat.le_of_ble_eq_true rfl) dX4_takesTold_65 (fun H locs hw => ?_)
                refine lv_iconst (v := (nI 1)) hx hb dX4_takesTold_68 (by decide) ?_
                refine x_isub E (v := (nI ((pvT t) - 1))) dX4_takesTold_69 (pk_sub (by omega)) ?_
                refine lv_goto (tgt := 85) hx hb dX4_takesTold_70 (by decide) ?_
                refine lv_istore_n (lv' := [(3, .int (nI ((pvT t) - 1))), (2, .int (nI 1)), (0, .ref x), (1, .int (nI 1))]) hx hb dX4_takesTold_85 rfl hl (by decide) rfl (fun ls hl => ?_)
                refine lv_aload_n hx hb dX4_takesTold_86 rfl (lv_at hl 2 rfl) ?_
                refine lv_iload_n hx hb dX4_takesTold_87 rfl (lv_at hl 1 rfl) ?_
                refine lv_iload_n hx hb dX4_takesTold_88 rfl (lv_at hl 0 rfl) ?_
                refine x_cfVi E hw hl.1 (As := [.int (nI 1), .int (nI ((pvT t) - 1))]) (rest := []) (c_X4_takes l G x xt xw xo xh xr xs xi xd xf nb pa pt off ha n nl ns tr 0 u2 u3 u4 (nI nf) gb z0 1 ((pvT t) - 1) (by omega) hgb (by omega) (by omega) (by omega)) 2 gX4_takesTold_X4_takes rfl rfl rfl (by decide) ⟨Nat.le_of_ble_eq_true rfl, Nat.le_of_ble_eq_true rfl⟩ ⟨Nat.le_of_ble_eq_true rfl, Nat.le_of_ble_eq_true rfl⟩ rfl 0 (ci := 4) (C := RX4) (T := TX4) (N := 23) rfl rfl [0, 1] [2] rfl rfl rfl rfl rfl [1, 2, 0] [(x, .inr (4, [.ref xt, .int (nI nb), .int (nI pa), .int (nI pt), .int (nI off), .int (nI ha), .int (nI n), .ref xw, .ref xo, .ref xh, .int (nI nl), .ref xr, .int (nI ns), .ref xs, .ref xi, .long tr, .int (nI (atM gb nb (sk gb nb z0))), .int (nI (sk gb nb z0)), .int (nI (kdM gb nb (sk gb nb z0))), .long (vlM gb nb (sk gb nb z0)), .ref xd, .int (nI nf), .ref xf])), (xt, .inl (cI G, 200, .inl (fI gb))), (xd, .inl (cI G, 4, .inl ((tA t))))] rfl rfl rfl (Nat.le_of_ble_eq_true rfl) dX4_takesTold_89 (fun H locs hw => ?_)
                refine x_ifb_eq E (P := tk gb nb (sk gb nb z0) = 5 ∧ 1 ≤ (nv gb nb (sk gb nb z0)) ∧ (nv gb nb (sk gb nb z0)) ≤ ((pvT t) - 1)) (tgt := 112) dX4_takesTold_92 (by decide) (fun h5 => ?_) (fun h5 => ?_)
                · exfalso; omega
                · have hv5 := (tk5v hgb (show tk gb nb (sk gb nb z0) = 5 from h5.1)).2.2
                  refine lv_iload_n hx hb dX4_takesTold_95 rfl (lv_at hl 3 rfl) ?_
                  refine x_if_ne E (nI_toI (by decide)) (tgt := 114) dX4_takesTold_96 (by decide) (fun c_8 => ?_) (fun c_8 => ?_)
                  · refine lv_aload_n hx hb dX4_takesTold_114 rfl (lv_at hl 2 rfl) ?_
                    refine x_get E hw (C := RX4) (T := TX4) (N := 23) hinX4 0 rfl rfl 20 (by decide) rfl (List.mem_of_getElem? (i := 2) rfl) dX4_takesTold_115 ?_
                    refine lv_iload_n hx hb dX4_takesTold_118 rfl (lv_at hl 3 rfl) ?_
                    refine lv_aload_n hx hb dX4_takesTold_119 rfl (lv_at hl 2 rfl) ?_
                    refine x_get E hw (C := RX4) (T := TX4) (N := 23) hinX4 0 rfl rfl 19 (by decide) rfl (List.mem_of_getElem? (i := 3) rfl) dX4_takesTold_120 ?_
                    refine x_topl (v := lN (nv gb nb (sk gb nb z0))) (tk5v hgb h5.1).1 ?_
                    refine lv_l2i (v := (nI (nv gb nb (sk gb nb z0)))) hx hb dX4_takesTold_123 (lN_i _) ?_
                    refine x_iast E hw 2 (a := xd) (ws1 := [(x, .inr (4, [.ref xt, .int (nI nb), .int (nI pa), .int (nI pt), .int (nI off), .int (nI ha), .int (nI n), .ref xw, .ref xo, .ref xh, .int (nI nl), .ref xr, .int (nI ns), .ref xs, .ref xi, .long tr, .int (nI (atM gb nb (sk gb nb z0))), .int (nI (sk gb nb z0)), .int (nI (kdM gb nb (sk gb nb z0))), .long (vlM gb nb (sk gb nb z0)), .ref xd, .int (nI nf), .ref xf])), (xt, .inl (cI G, 200, .inl (fI gb))), (xd, .inl (cI G, 4, .inl ((tA (va_up t 1 ((nv gb nb (sk gb nb z0)) + 1))))))]) rfl rfl (show 1 < 4 by omega) (by omega) (tA_up _ _ _) rfl dX4_takesTold_124 (fun H locs hw => ?_)
                    refine lv_aload_n hx hb dX4_takesTold_125 rfl (lv_at hl 2 rfl) ?_
                    refine x_cfVi E hw hl.1 (As := []) (rest := []) (c_X4_stops l G x xt xw xo xh xr xs xi xd xf nb pa pt off ha n nl ns tr 0 (nI (sk gb nb z0)) (nI (kdM gb nb (sk gb nb z0))) (vlM gb nb (sk gb nb z0)) (nI nf) gb (atM gb nb (sk gb nb z0)) (by omega) hgb (by omega)) 0 gX4_takesTold_X4_stops rfl rfl rfl (by decide) ⟨Nat.le_of_ble_eq_true rfl, Nat.le_of_ble_eq_true rfl⟩ ⟨Nat.le_of_ble_eq_true rfl, Nat.le_of_ble_eq_true rfl⟩ rfl 0 (ci := 4) (C := RX4) (T := TX4) (N := 23) rfl rfl [0, 1] [2] rfl rfl rfl rfl rfl [1, 2, 0] [(x, .inr (4, [.ref xt, .int (nI nb), .int (nI pa), .int (nI pt), .int (nI off), .int (nI ha), .int (nI n), .ref xw, .ref xo, .ref xh, .int (nI nl), .ref xr, .int (nI ns), .ref xs, .ref xi, .long tr, .int (nI (atM gb nb (sk gb nb (atM gb nb (sk gb nb z0))))), .int (nI (sk gb nb (atM gb nb (sk gb nb z0)))), .int (nI (kdM gb nb (sk gb nb (atM gb nb (sk gb nb z0))))), .long (vlM gb nb (sk gb nb (atM gb nb (sk gb nb z0)))), .ref xd, .int (nI nf), .ref xf])), (xt, .inl (cI G, 200, .inl (fI gb))), (xd, .inl (cI G, 4, .inl ((tA (va_up t 1 ((nv gb nb (sk gb nb z0)) + 1))))))] rfl rfl rfl (Nat.le_of_ble_eq_true rfl) dX4_takesTold_126 (fun H locs hw => ?_)
                    exact hret (if tk gb nb (sk gb nb (atM gb nb (sk gb nb z0))) = 6 then 1 else 0) () _ _ _ _ dX4_takesTold_129 x_narZ rfl hw
                  · exact absurd c_8 (by decide)
            · exact absurd c_6 (by decide)
        · exact absurd c_4 (by decide)
      · exact absurd c_3 (by decide)

abbrev rm_X4_told_bad_2 : Room := { frames := 0, cells := 0, slots := 0, locals := 0 }
set_option maxHeartbeats 4000000 in
set_option maxRecDepth 100000 in
theorem c_X4_told_bad_2 (l : Launch) (G : XG) (x : Nat) (xt : Nat) (xw : Nat) (xo : Nat) (xh : Nat) (xr : Nat) (xs : Nat) (xi : Nat) (xd : Nat) (xf : Nat) (nb : Nat) (pa : Nat) (pt : Nat) (off : Nat) (ha : Nat) (n : Nat) (nl : Nat) (ns : Nat) (tr : Int64) (u1 : Int32) (u2 : Int32) (u3 : Int32) (u4 : Int64) (u5 : Int32) (gb : Nat → Nat) (z0 : Nat) (nf : Nat) (t : Nat → Nat) (hN : nb ≤ 200) (hgb : ∀ q, gb q < 256) (hz0 : z0 ≤ nb) (hnf : nf ≤ 20) (ht : ∀ j, t j ≤ 100) (hpv : pvT t ≤ 63) (hpv3 : 3 ≤ pvT t) (hw : ¬ (nf = 0 ∧ t 2 = 0)) : CfI l yX4_takesTold wsX4_takesTold rm_X4_told_bad_2 G [.ref x, .int (nI 2)] [(x, .inr (4, [.ref xt, .int (nI nb), .int (nI pa), .int (nI pt), .int (nI off), .int (nI ha), .int (nI n), .ref xw, .ref xo, .ref xh, .int (nI nl), .ref xr, .int (nI ns), .ref xs, .ref xi, .long tr, .int (nI z0), .int u2, .int u3, .long u4, .ref xd, .int (nI nf), .ref xf])), (xt, .inl (cI G, 200, .inl (fI gb))), (xd, .inl (cI G, 4, .inl ((tA t))))] (nI 0) [(x, .inr (4, [.ref xt, .int (nI nb), .int (nI pa), .int (nI pt), .int (nI off), .int (nI ha), .int (nI n), .ref xw, .ref xo, .ref xh, .int (nI nl), .ref xr, .int (nI ns), .ref xs, .ref xi, .long tr, .int (nI z0), .int u2, .int u3, .long u4, .ref xd, .int (nI nf), .ref xf])), (xt, .inl (cI G, 200, .inl (fI gb))), (xd, .inl (cI G, 4, .inl ((tA t))))] := by
  have ht0 := ht 0
  have ht1 := ht 1
  have htk := ht 2
  refine CtI.go (cc := cX4_takesTold) (maxL := 4) RX4 rfl (by decide) rfl (Nat.le_of_ble_eq_true rfl) ?_
  intro p e s m args below meth c A Q ls E hw hl hret
  have hx := E.1
  have hb := E.2.1
  have hinX4 : ∀ w ∈ wsX40, w ∈ wsX4_takesTold := (fun w h => List.mem_cons_of_mem _ (List.mem_append_right _ h))
  have hl : lv_has ls 4 [(0, .ref x), (1, .int (nI 2))] := hl
  refine lv_aload_n hx hb dX4_takesTold_0 rfl (lv_at hl 0 rfl) ?_
  refine x_get E hw (C := RX4) (T := TX4) (N := 23) hinX4 0 rfl rfl 21 (by decide) rfl (List.mem_of_getElem? (i := 1) rfl) dX4_takesTold_1 ?_
  refine x_if_gt E (nI_toI (show nf < 2147483648 by omega)) (tgt := 29) dX4_takesTold_4 (by decide) (fun c_1 => ?_) (fun c_1 => ?_)
  · refine lv_iconst (v := (nI 0)) hx hb dX4_takesTold_29 (by decide) ?_
    exact hret (nI 0) () _ _ _ _ dX4_takesTold_30 rfl rfl hw
  · refine lv_aload_n hx hb dX4_takesTold_7 rfl (lv_at hl 0 rfl) ?_
    refine x_get E hw (C := RX4) (T := TX4) (N := 23) hinX4 0 rfl rfl 20 (by decide) rfl (List.mem_of_getElem? (i := 2) rfl) dX4_takesTold_8 ?_
    refine lv_iload_n hx hb dX4_takesTold_11 rfl (lv_at hl 1 rfl) ?_
    refine x_iald E hw 2 (a := xd) (v := (tI (t 2))) rfl rfl (show 2 < 4 by omega) (by omega) rfl dX4_takesTold_12 ?_
    refine x_if_ge E (tI_toI (show t 2 < 2147483648 by omega)) (tgt := 29) dX4_takesTold_13 (by decide) (fun c_2 => ?_) (fun c_2 => ?_)
    · refine lv_iconst (v := (nI 0)) hx hb dX4_takesTold_29 (by decide) ?_
      exact hret (nI 0) () _ _ _ _ dX4_takesTold_30 rfl rfl hw
    · refine lv_iload_n hx hb dX4_takesTold_16 rfl (lv_at hl 1 rfl) ?_
      refine x_if_ne E (nI_toI (by decide)) (tgt := 31) dX4_takesTold_17 (by decide) (fun c_3 => ?_) (fun c_3 => ?_)
      · exfalso; omega
      · exact absurd c_3 (by decide)

abbrev rm_X4_told_no_2 : Room := { frames := 3, cells := 0, slots := 0, locals := 63 }
set_option maxHeartbeats 4000000 in
set_option maxRecDepth 100000 in
theorem c_X4_told_no_2 (l : Launch) (G : XG) (x : Nat) (xt : Nat) (xw : Nat) (xo : Nat) (xh : Nat) (xr : Nat) (xs : Nat) (xi : Nat) (xd : Nat) (xf : Nat) (nb : Nat) (pa : Nat) (pt : Nat) (off : Nat) (ha : Nat) (n : Nat) (nl : Nat) (ns : Nat) (tr : Int64) (u1 : Int32) (u2 : Int32) (u3 : Int32) (u4 : Int64) (u5 : Int32) (gb : Nat → Nat) (z0 : Nat) (nf : Nat) (t : Nat → Nat) (hN : nb ≤ 200) (hgb : ∀ q, gb q < 256) (hz0 : z0 ≤ nb) (hnf : nf ≤ 20) (ht : ∀ j, t j ≤ 100) (hpv : pvT t ≤ 63) (hpv3 : 3 ≤ pvT t) (hw : nf = 0 ∧ t 2 = 0) (hno : ¬ (tk gb nb (sk gb nb z0) = 5 ∧ 0 ≤ (nv gb nb (sk gb nb z0)) ∧ (nv gb nb (sk gb nb z0)) ≤ 99)) : CfI l yX4_takesTold wsX4_takesTold rm_X4_told_no_2 G [.ref x, .int (nI 2)] [(x, .inr (4, [.ref xt, .int (nI nb), .int (nI pa), .int (nI pt), .int (nI off), .int (nI ha), .int (nI n), .ref xw, .ref xo, .ref xh, .int (nI nl), .ref xr, .int (nI ns), .ref xs, .ref xi, .long tr, .int (nI z0), .int u2, .int u3, .long u4, .ref xd, .int (nI nf), .ref xf])), (xt, .inl (cI G, 200, .inl (fI gb))), (xd, .inl (cI G, 4, .inl ((tA t))))] (nI 0) [(x, .inr (4, [.ref xt, .int (nI nb), .int (nI pa), .int (nI pt), .int (nI off), .int (nI ha), .int (nI n), .ref xw, .ref xo, .ref xh, .int (nI nl), .ref xr, .int (nI ns), .ref xs, .ref xi, .long tr, .int (nI (atM gb nb (sk gb nb z0))), .int (nI (sk gb nb z0)), .int (nI (kdM gb nb (sk gb nb z0))), .long (vlM gb nb (sk gb nb z0)), .ref xd, .int (nI nf), .ref xf])), (xt, .inl (cI G, 200, .inl (fI gb))), (xd, .inl (cI G, 4, .inl ((tA t))))] := by
  have ht0 := ht 0
  have ht1 := ht 1
  have htk := ht 2
  have hP0 := sk_le gb hz0
  have hA0 := atM_le (gb := gb) hP0
  have hK0 := kdM_le gb nb (sk gb nb z0)
  refine CtI.go (cc := cX4_takesTold) (maxL := 4) RX4 rfl (by decide) rfl (Nat.le_of_ble_eq_true rfl) ?_
  intro p e s m args below meth c A Q ls E hw hl hret
  have hx := E.1
  have hb := E.2.1
  have hinX4 : ∀ w ∈ wsX40, w ∈ wsX4_takesTold := (fun w h => List.mem_cons_of_mem _ (List.mem_append_right _ h))
  have hl : lv_has ls 4 [(0, .ref x), (1, .int (nI 2))] := hl
  refine lv_aload_n hx hb dX4_takesTold_0 rfl (lv_at hl 0 rfl) ?_
  refine x_get E hw (C := RX4) (T := TX4) (N := 23) hinX4 0 rfl rfl 21 (by decide) rfl (List.mem_of_getElem? (i := 1) rfl) dX4_takesTold_1 ?_
  refine x_if_gt E (nI_toI (show nf < 2147483648 by omega)) (tgt := 29) dX4_takesTold_4 (by decide) (fun c_1 => ?_) (fun c_1 => ?_)
  · exfalso; omega
  · refine lv_aload_n hx hb dX4_takesTold_7 rfl (lv_at hl 0 rfl) ?_
    refine x_get E hw (C := RX4) (T := TX4) (N := 23) hinX4 0 rfl rfl 20 (by decide) rfl (List.mem_of_getElem? (i := 2) rfl) dX4_takesTold_8 ?_
    refine lv_iload_n hx hb dX4_takesTold_11 rfl (lv_at hl 1 rfl) ?_
    refine x_iald E hw 2 (a := xd) (v := (tI (t 2))) rfl rfl (show 2 < 4 by omega) (by omega) rfl dX4_takesTold_12 ?_
    refine x_if_ge E (tI_toI (show t 2 < 2147483648 by omega)) (tgt := 29) dX4_takesTold_13 (by decide) (fun c_2 => ?_) (fun c_2 => ?_)
    · exfalso; omega
    · refine lv_iload_n hx hb dX4_takesTold_16 rfl (lv_at hl 1 rfl) ?_
      refine x_if_ne E (nI_toI (by decide)) (tgt := 31) dX4_takesTold_17 (by decide) (fun c_3 => ?_) (fun c_3 => ?_)
      · refine lv_iload_n hx hb dX4_takesTold_31 rfl (lv_at hl 1 rfl) ?_
        refine x_if_ne E (nI_toI (by decide)) (tgt := 39) dX4_takesTold_32 (by decide) (fun c_4 => ?_) (fun c_4 => ?_)
        · refine lv_iload_n hx hb dX4_takesTold_39 rfl (lv_at hl 1 rfl) ?_
          refine lv_iconst (v := (nI 1)) hx hb dX4_takesTold_40 (by decide) ?_
          refine x_icmp_ne E (nI_toI (by decide)) (nI_toI (by decide)) (tgt := 48) dX4_takesTold_41 (by decide) (fun c_5 => ?_) (fun c_5 => ?_)
          · refine lv_iconst (v := (nI 0)) hx hb dX4_takesTold_48 (by decide) ?_
            refine lv_istore_n (lv' := [(2, .int (nI 0)), (0, .ref x), (1, .int (nI 2))]) hx hb dX4_takesTold_49 rfl hl (by decide) rfl (fun ls hl => ?_)
            refine lv_iload_n hx hb dX4_takesTold_50 rfl (lv_at hl 2 rfl) ?_
            refine x_if_ne E (nI_toI (by decide)) (tgt := 59) dX4_takesTold_51 (by decide) (fun c_6 => ?_) (fun c_6 => ?_)
            · refine lv_iload_n hx hb dX4_takesTold_59 rfl (lv_at hl 2 rfl) ?_
              refine lv_iconst (v := (nI 1)) hx hb dX4_takesTold_60 (by decide) ?_
              refine x_icmp_ne E (nI_toI (by decide)) (nI_toI (by decide)) (tgt := 73) dX4_takesTold_61 (by decide) (fun c_7 => ?_) (fun c_7 => ?_)
              · refine lv_iload_n hx hb dX4_takesTold_73 rfl (lv_at hl 2 rfl) ?_
                refine lv_iconst (v := (nI 2)) hx hb dX4_takesTold_74 (by decide) ?_
                refine x_icmp_ne E (nI_toI (by decide)) (nI_toI (by decide)) (tgt := 83) dX4_takesTold_75 (by decide) (fun c_8 => ?_) (fun c_8 => ?_)
                · exact absurd c_8 (by decide)
                · refine lv_bipush (v := (nI 99)) hx hb dX4_takesTold_78 (by decide) ?_
                  refine lv_goto (tgt := 85) hx hb dX4_takesTold_80 (by decide) ?_
                  refine lv_istore_n (lv' := [(3, .int (nI 99)), (2, .int (nI 0)), (0, .ref x), (1, .int (nI 2))]) hx hb dX4_takesTold_85 rfl hl (by decide) rfl (fun ls hl => ?_)
                  refine lv_aload_n hx hb dX4_takesTold_86 rfl (lv_at hl 2 rfl) ?_
                  refine lv_iload_n hx hb dX4_takesTold_87 rfl (lv_at hl 1 rfl) ?_
                  refine lv_iload_n hx hb dX4_takesTold_88 rfl (lv_at hl 0 rfl) ?_
                  refine x_cfVi E hw hl.1 (As := [.int (nI 0), .int (nI 99)]) (rest := []) (c_X4_takes l G x xt xw xo xh xr xs xi xd xf nb pa pt off ha n nl ns tr 0 u2 u3 u4 (nI nf) gb z0 0 99 (by omega) hgb (by omega) (by omega) (by omega)) 2 gX4_takesTold_X4_takes rfl rfl rfl (by decide) ⟨Nat.le_of_ble_eq_true rfl, Nat.le_of_ble_eq_true rfl⟩ ⟨Nat.le_of_ble_eq_true rfl, Nat.le_of_ble_eq_true rfl⟩ rfl 0 (ci := 4) (C := RX4) (T := TX4) (N := 23) rfl rfl [0, 1] [2] rfl rfl rfl rfl rfl [1, 2, 0] [(x, .inr (4, [.ref xt, .int (nI nb), .int (nI pa), .int (nI pt), .int (nI off), .int (nI ha), .int (nI n), .ref xw, .ref xo, .ref xh, .int (nI nl), .ref xr, .int (nI ns), .ref xs, .ref xi, .long tr, .int (nI (atM gb nb (sk gb nb z0))), .int (nI (sk gb nb z0)), .int (nI (kdM gb nb (sk gb nb z0))), .long (vlM gb nb (sk gb nb z0)), .ref xd, .int (nI nf), .ref xf])), (xt, .inl (cI G, 200, .inl (fI gb))), (xd, .inl (cI G, 4, .inl ((tA t))))] rfl rfl rfl (Nat.le_of_ble_eq_true rfl) dX4_takesTold_89 (fun H locs hw => ?_)
                  refine x_ifb_eq E (P := tk gb nb (sk gb nb z0) = 5 ∧ 0 ≤ (nv gb nb (sk gb nb z0)) ∧ (nv gb nb (sk gb nb z0)) ≤ 99) (tgt := 112) dX4_takesTold_92 (by decide) (fun h5 => ?_) (fun h5 => ?_)
                  · refine lv_iconst (v := (nI 0)) hx hb dX4_takesTold_112 (by decide) ?_
                    exact hret (nI 0) () _ _ _ _ dX4_takesTold_113 rfl rfl hw
                  · exfalso; omega
              · exact absurd c_7 (by decide)
            · exact absurd c_6 (by decide)
          · exact absurd c_5 (by decide)
        · exact absurd c_4 (by decide)
      · exact absurd c_3 (by decide)

abbrev rm_X4_told_2 : Room := { frames := 3, cells := 0, slots := 0, locals := 63 }
set_option maxHeartbeats 4000000 in
set_option maxRecDepth 100000 in
theorem c_X4_told_2 (l : Launch) (G : XG) (x : Nat) (xt : Nat) (xw : Nat) (xo : Nat) (xh : Nat) (xr : Nat) (xs : Nat) (xi : Nat) (xd : Nat) (xf : Nat) (nb : Nat) (pa : Nat) (pt : Nat) (off : Nat) (ha : Nat) (n : Nat) (nl : Nat) (ns : Nat) (tr : Int64) (u1 : Int32) (u2 : Int32) (u3 : Int32) (u4 : Int64) (u5 : Int32) (gb : Nat → Nat) (z0 : Nat) (nf : Nat) (t : Nat → Nat) (hN : nb ≤ 200) (hgb : ∀ q, gb q < 256) (hz0 : z0 ≤ nb) (hnf : nf ≤ 20) (ht : ∀ j, t j ≤ 100) (hpv : pvT t ≤ 63) (hpv3 : 3 ≤ pvT t) (hw : nf = 0 ∧ t 2 = 0) (hok : tk gb nb (sk gb nb z0) = 5 ∧ 0 ≤ (nv gb nb (sk gb nb z0)) ∧ (nv gb nb (sk gb nb z0)) ≤ 99) : CfI l yX4_takesTold wsX4_takesTold rm_X4_told_2 G [.ref x, .int (nI 2)] [(x, .inr (4, [.ref xt, .int (nI nb), .int (nI pa), .int (nI pt), .int (nI off), .int (nI ha), .int (nI n), .ref xw, .ref xo, .ref xh, .int (nI nl), .ref xr, .int (nI ns), .ref xs, .ref xi, .long tr, .int (nI z0), .int u2, .int u3, .long u4, .ref xd, .int (nI nf), .ref xf])), (xt, .inl (cI G, 200, .inl (fI gb))), (xd, .inl (cI G, 4, .inl ((tA t))))] (if tk gb nb (sk gb nb (atM gb nb (sk gb nb z0))) = 6 then 1 else 0) [(x, .inr (4, [.ref xt, .int (nI nb), .int (nI pa), .int (nI pt), .int (nI off), .int (nI ha), .int (nI n), .ref xw, .ref xo, .ref xh, .int (nI nl), .ref xr, .int (nI ns), .ref xs, .ref xi, .long tr, .int (nI (atM gb nb (sk gb nb (atM gb nb (sk gb nb z0))))), .int (nI (sk gb nb (atM gb nb (sk gb nb z0)))), .int (nI (kdM gb nb (sk gb nb (atM gb nb (sk gb nb z0))))), .long (vlM gb nb (sk gb nb (atM gb nb (sk gb nb z0)))), .ref xd, .int (nI nf), .ref xf])), (xt, .inl (cI G, 200, .inl (fI gb))), (xd, .inl (cI G, 4, .inl ((tA (va_up t 2 ((nv gb nb (sk gb nb z0)) + 1))))))] := by
  have ht0 := ht 0
  have ht1 := ht 1
  have htk := ht 2
  have hP0 := sk_le gb hz0
  have hA0 := atM_le (gb := gb) hP0
  have hK0 := kdM_le gb nb (sk gb nb z0)
  refine CtI.go (cc := cX4_takesTold) (maxL := 4) RX4 rfl (by decide) rfl (Nat.le_of_ble_eq_true rfl) ?_
  intro p e s m args below meth c A Q ls E hw hl hret
  have hx := E.1
  have hb := E.2.1
  have hinX4 : ∀ w ∈ wsX40, w ∈ wsX4_takesTold := (fun w h => List.mem_cons_of_mem _ (List.mem_append_right _ h))
  have hl : lv_has ls 4 [(0, .ref x), (1, .int (nI 2))] := hl
  refine lv_aload_n hx hb dX4_takesTold_0 rfl (lv_at hl 0 rfl) ?_
  refine x_get E hw (C := RX4) (T := TX4) (N := 23) hinX4 0 rfl rfl 21 (by decide) rfl (List.mem_of_getElem? (i := 1) rfl) dX4_takesTold_1 ?_
  refine x_if_gt E (nI_toI (show nf < 2147483648 by omega)) (tgt := 29) dX4_takesTold_4 (by decide) (fun c_1 => ?_) (fun c_1 => ?_)
  · exfalso; omega
  · refine lv_aload_n hx hb dX4_takesTold_7 rfl (lv_at hl 0 rfl) ?_
    refine x_get E hw (C := RX4) (T := TX4) (N := 23) hinX4 0 rfl rfl 20 (by decide) rfl (List.mem_of_getElem? (i := 2) rfl) dX4_takesTold_8 ?_
    refine lv_iload_n hx hb dX4_takesTold_11 rfl (lv_at hl 1 rfl) ?_
    refine x_iald E hw 2 (a := xd) (v := (tI (t 2))) rfl rfl (show 2 < 4 by omega) (by omega) rfl dX4_takesTold_12 ?_
    refine x_if_ge E (tI_toI (show t 2 < 2147483648 by omega)) (tgt := 29) dX4_takesTold_13 (by decide) (fun c_2 => ?_) (fun c_2 => ?_)
    · exfalso; omega
    · refine lv_iload_n hx hb dX4_takesTold_16 rfl (lv_at hl 1 rfl) ?_
      refine x_if_ne E (nI_toI (by decide)) (tgt := 31) dX4_takesTold_17 (by decide) (fun c_3 => ?_) (fun c_3 => ?_)
      · refine lv_iload_n hx hb dX4_takesTold_31 rfl (lv_at hl 1 rfl) ?_
        refine x_if_ne E (nI_toI (by decide)) (tgt := 39) dX4_takesTold_32 (by decide) (fun c_4 => ?_) (fun c_4 => ?_)
        · refine lv_iload_n hx hb dX4_takesTold_39 rfl (lv_at hl 1 rfl) ?_
          refine lv_iconst (v := (nI 1)) hx hb dX4_takesTold_40 (by decide) ?_
          refine x_icmp_ne E (nI_toI (by decide)) (nI_toI (by decide)) (tgt := 48) dX4_takesTold_41 (by decide) (fun c_5 => ?_) (fun c_5 => ?_)
          · refine lv_iconst (v := (nI 0)) hx hb dX4_takesTold_48 (by decide) ?_
            refine lv_istore_n (lv' := [(2, .int (nI 0)), (0, .ref x), (1, .int (nI 2))]) hx hb dX4_takesTold_49 rfl hl (by decide) rfl (fun ls hl => ?_)
            refine lv_iload_n hx hb dX4_takesTold_50 rfl (lv_at hl 2 rfl) ?_
            refine x_if_ne E (nI_toI (by decide)) (tgt := 59) dX4_takesTold_51 (by decide) (fun c_6 => ?_) (fun c_6 => ?_)
            · refine lv_iload_n hx hb dX4_takesTold_59 rfl (lv_at hl 2 rfl) ?_
              refine lv_iconst (v := (nI 1)) hx hb dX4_takesTold_60 (by decide) ?_
              refine x_icmp_ne E (nI_toI (by decide)) (nI_toI (by decide)) (tgt := 73) dX4_takesTold_61 (by decide) (fun c_7 => ?_) (fun c_7 => ?_)
              · refine lv_iload_n hx hb dX4_takesTold_73 rfl (lv_at hl 2 rfl) ?_
                refine lv_iconst (v := (nI 2)) hx hb dX4_takesTold_74 (by decide) ?_
                refine x_icmp_ne E (nI_toI (by decide)) (nI_toI (by decide)) (tgt := 83) dX4_takesTold_75 (by decide) (fun c_8 => ?_) (fun c_8 => ?_)
                · exact absurd c_8 (by decide)
                · refine lv_bipush (v := (nI 99)) hx hb dX4_takesTold_78 (by decide) ?_
                  refine lv_goto (tgt := 85) hx hb dX4_takesTold_80 (by decide) ?_
                  refine lv_istore_n (lv' := [(3, .int (nI 99)), (2, .int (nI 0)), (0, .ref x), (1, .int (nI 2))]) hx hb dX4_takesTold_85 rfl hl (by decide) rfl (fun ls hl => ?_)
                  refine lv_aload_n hx hb dX4_takesTold_86 rfl (lv_at hl 2 rfl) ?_
                  refine lv_iload_n hx hb dX4_takesTold_87 rfl (lv_at hl 1 rfl) ?_
                  refine lv_iload_n hx hb dX4_takesTold_88 rfl (lv_at hl 0 rfl) ?_
                  refine x_cfVi E hw hl.1 (As := [.int (nI 0), .int (nI 99)]) (rest := []) (c_X4_takes l G x xt xw xo xh xr xs xi xd xf nb pa pt off ha n nl ns tr 0 u2 u3 u4 (nI nf) gb z0 0 99 (by omega) hgb (by omega) (by omega) (by omega)) 2 gX4_takesTold_X4_takes rfl rfl rfl (by decide) ⟨Nat.le_of_ble_eq_true rfl, Nat.le_of_ble_eq_true rfl⟩ ⟨Nat.le_of_ble_eq_true rfl, Nat.le_of_ble_eq_true rfl⟩ rfl 0 (ci := 4) (C := RX4) (T := TX4) (N := 23) rfl rfl [0, 1] [2] rfl rfl rfl rfl rfl [1, 2, 0] [(x, .inr (4, [.ref xt, .int (nI nb), .int (nI pa), .int (nI pt), .int (nI off), .int (nI ha), .int (nI n), .ref xw, .ref xo, .ref xh, .int (nI nl), .ref xr, .int (nI ns), .ref xs, .ref xi, .long tr, .int (nI (atM gb nb (sk gb nb z0))), .int (nI (sk gb nb z0)), .int (nI (kdM gb nb (sk gb nb z0))), .long (vlM gb nb (sk gb nb z0)), .ref xd, .int (nI nf), .ref xf])), (xt, .inl (cI G, 200, .inl (fI gb))), (xd, .inl (cI G, 4, .inl ((tA t))))] rfl rfl rfl (Nat.le_of_ble_eq_true rfl) dX4_takesTold_89 (fun H locs hw => ?_)
                  refine x_ifb_eq E (P := tk gb nb (sk gb nb z0) = 5 ∧ 0 ≤ (nv gb nb (sk gb nb z0)) ∧ (nv gb nb (sk gb nb z0)) ≤ 99) (tgt := 112) dX4_takesTold_92 (by decide) (fun h5 => ?_) (fun h5 => ?_)
                  · exfalso; omega
                  · have hv5 := (tk5v hgb (show tk gb nb (sk gb nb z0) = 5 from h5.1)).2.2
                    refine lv_iload_n hx hb dX4_takesTold_95 rfl (lv_at hl 3 rfl) ?_
                    refine x_if_ne E (nI_toI (by decide)) (tgt := 114) dX4_takesTold_96 (by decide) (fun c_9 => ?_) (fun c_9 => ?_)
                    · refine lv_aload_n hx hb dX4_takesTold_114 rfl (lv_at hl 2 rfl) ?_
                      refine x_get E hw (C := RX4) (T := TX4) (N := 23) hinX4 0 rfl rfl 20 (by decide) rfl (List.mem_of_getElem? (i := 2) rfl) dX4_takesTold_115 ?_
                      refine lv_iload_n hx hb dX4_takesTold_118 rfl (lv_at hl 3 rfl) ?_
                      refine lv_aload_n hx hb dX4_takesTold_119 rfl (lv_at hl 2 rfl) ?_
                      refine x_get E hw (C := RX4) (T := TX4) (N := 23) hinX4 0 rfl rfl 19 (by decide) rfl (List.mem_of_getElem? (i := 3) rfl) dX4_takesTold_120 ?_
                      refine x_topl (v := lN (nv gb nb (sk gb nb z0))) (tk5v hgb h5.1).1 ?_
                      refine lv_l2i (v := (nI (nv gb nb (sk gb nb z0)))) hx hb dX4_takesTold_123 (lN_i _) ?_
                      refine x_iast E hw 2 (a := xd) (ws1 := [(x, .inr (4, [.ref xt, .int (nI nb), .int (nI pa), .int (nI pt), .int (nI off), .int (nI ha), .int (nI n), .ref xw, .ref xo, .ref xh, .int (nI nl), .ref xr, .int (nI ns), .ref xs, .ref xi, .long tr, .int (nI (atM gb nb (sk gb nb z0))), .int (nI (sk gb nb z0)), .int (nI (kdM gb nb (sk gb nb z0))), .long (vlM gb nb (sk gb nb z0)), .ref xd, .int (nI nf), .ref xf])), (xt, .inl (cI G, 200, .inl (fI gb))), (xd, .inl (cI G, 4, .inl ((tA (va_up t 2 ((nv gb nb (sk gb nb z0)) + 1))))))]) rfl rfl (show 2 < 4 by omega) (by omega) (tA_up _ _ _) rfl dX4_takesTold_124 (fun H locs hw => ?_)
                      refine lv_aload_n hx hb dX4_takesTold_125 rfl (lv_at hl 2 rfl) ?_
                      refine x_cfVi E hw hl.1 (As := []) (rest := []) (c_X4_stops l G x xt xw xo xh xr xs xi xd xf nb pa pt off ha n nl ns tr 0 (nI (sk gb nb z0)) (nI (kdM gb nb (sk gb nb z0))) (vlM gb nb (sk gb nb z0)) (nI nf) gb (atM gb nb (sk gb nb z0)) (by omega) hgb (by omega)) 0 gX4_takesTold_X4_stops rfl rfl rfl (by decide) ⟨Nat.le_of_ble_eq_true rfl, Nat.le_of_ble_eq_true rfl⟩ ⟨Nat.le_of_ble_eq_true rfl, Nat.le_of_ble_eq_true rfl⟩ rfl 0 (ci := 4) (C := RX4) (T := TX4) (N := 23) rfl rfl [0, 1] [2] rfl rfl rfl rfl rfl [1, 2, 0] [(x, .inr (4, [.ref xt, .int (nI nb), .int (nI pa), .int (nI pt), .int (nI off), .int (nI ha), .int (nI n), .ref xw, .ref xo, .ref xh, .int (nI nl), .ref xr, .int (nI ns), .ref xs, .ref xi, .long tr, .int (nI (atM gb nb (sk gb nb (atM gb nb (sk gb nb z0))))), .int (nI (sk gb nb (atM gb nb (sk gb nb z0)))), .int (nI (kdM gb nb (sk gb nb (atM gb nb (sk gb nb z0))))), .long (vlM gb nb (sk gb nb (atM gb nb (sk gb nb z0)))), .ref xd, .int (nI nf), .ref xf])), (xt, .inl (cI G, 200, .inl (fI gb))), (xd, .inl (cI G, 4, .inl ((tA (va_up t 2 ((nv gb nb (sk gb nb z0)) + 1))))))] rfl rfl rfl (Nat.le_of_ble_eq_true rfl) dX4_takesTold_126 (fun H locs hw => ?_)
                      exact hret (if tk gb nb (sk gb nb (atM gb nb (sk gb nb z0))) = 6 then 1 else 0) () _ _ _ _ dX4_takesTold_129 x_narZ rfl hw
                    · exact absurd c_9 (by decide)
              · exact absurd c_7 (by decide)
            · exact absurd c_6 (by decide)
          · exact absurd c_5 (by decide)
        · exact absurd c_4 (by decide)
      · exact absurd c_3 (by decide)

abbrev rm_X4_told_bad_3 : Room := { frames := 0, cells := 0, slots := 0, locals := 0 }
set_option maxHeartbeats 4000000 in
set_option maxRecDepth 100000 in
theorem c_X4_told_bad_3 (l : Launch) (G : XG) (x : Nat) (xt : Nat) (xw : Nat) (xo : Nat) (xh : Nat) (xr : Nat) (xs : Nat) (xi : Nat) (xd : Nat) (xf : Nat) (nb : Nat) (pa : Nat) (pt : Nat) (off : Nat) (ha : Nat) (n : Nat) (nl : Nat) (ns : Nat) (tr : Int64) (u1 : Int32) (u2 : Int32) (u3 : Int32) (u4 : Int64) (u5 : Int32) (gb : Nat → Nat) (z0 : Nat) (nf : Nat) (t : Nat → Nat) (hN : nb ≤ 200) (hgb : ∀ q, gb q < 256) (hz0 : z0 ≤ nb) (hnf : nf ≤ 20) (ht : ∀ j, t j ≤ 100) (hpv : pvT t ≤ 63) (hpv3 : 3 ≤ pvT t) (hw : ¬ (nf = 0 ∧ t 3 = 0)) : CfI l yX4_takesTold wsX4_takesTold rm_X4_told_bad_3 G [.ref x, .int (nI 3)] [(x, .inr (4, [.ref xt, .int (nI nb), .int (nI pa), .int (nI pt), .int (nI off), .int (nI ha), .int (nI n), .ref xw, .ref xo, .ref xh, .int (nI nl), .ref xr, .int (nI ns), .ref xs, .ref xi, .long tr, .int (nI z0), .int u2, .int u3, .long u4, .ref xd, .int (nI nf), .ref xf])), (xt, .inl (cI G, 200, .inl (fI gb))), (xd, .inl (cI G, 4, .inl ((tA t))))] (nI 0) [(x, .inr (4, [.ref xt, .int (nI nb), .int (nI pa), .int (nI pt), .int (nI off), .int (nI ha), .int (nI n), .ref xw, .ref xo, .ref xh, .int (nI nl), .ref xr, .int (nI ns), .ref xs, .ref xi, .long tr, .int (nI z0), .int u2, .int u3, .long u4, .ref xd, .int (nI nf), .ref xf])), (xt, .inl (cI G, 200, .inl (fI gb))), (xd, .inl (cI G, 4, .inl ((tA t))))] := by
  have ht0 := ht 0
  have ht1 := ht 1
  have htk := ht 3
  refine CtI.go (cc := cX4_takesTold) (maxL := 4) RX4 rfl (by decide) rfl (Nat.le_of_ble_eq_true rfl) ?_
  intro p e s m args below meth c A Q ls E hw hl hret
  have hx := E.1
  have hb := E.2.1
  have hinX4 : ∀ w ∈ wsX40, w ∈ wsX4_takesTold := (fun w h => List.mem_cons_of_mem _ (List.mem_append_right _ h))
  have hl : lv_has ls 4 [(0, .ref x), (1, .int (nI 3))] := hl
  refine lv_aload_n hx hb dX4_takesTold_0 rfl (lv_at hl 0 rfl) ?_
  refine x_get E hw (C := RX4) (T := TX4) (N := 23) hinX4 0 rfl rfl 21 (by decide) rfl (List.mem_of_getElem? (i := 1) rfl) dX4_takesTold_1 ?_
  refine x_if_gt E (nI_toI (show nf < 2147483648 by omega)) (tgt := 29) dX4_takesTold_4 (by decide) (fun c_1 => ?_) (fun c_1 => ?_)
  · refine lv_iconst (v := (nI 0)) hx hb dX4_takesTold_29 (by decide) ?_
    exact hret (nI 0) () _ _ _ _ dX4_takesTold_30 rfl rfl hw
  · refine lv_aload_n hx hb dX4_takesTold_7 rfl (lv_at hl 0 rfl) ?_
    refine x_get E hw (C := RX4) (T := TX4) (N := 23) hinX4 0 rfl rfl 20 (by decide) rfl (List.mem_of_getElem? (i := 2) rfl) dX4_takesTold_8 ?_
    refine lv_iload_n hx hb dX4_takesTold_11 rfl (lv_at hl 1 rfl) ?_
    refine x_iald E hw 2 (a := xd) (v := (tI (t 3))) rfl rfl (show 3 < 4 by omega) (by omega) rfl dX4_takesTold_12 ?_
    refine x_if_ge E (tI_toI (show t 3 < 2147483648 by omega)) (tgt := 29) dX4_takesTold_13 (by decide) (fun c_2 => ?_) (fun c_2 => ?_)
    · refine lv_iconst (v := (nI 0)) hx hb dX4_takesTold_29 (by decide) ?_
      exact hret (nI 0) () _ _ _ _ dX4_takesTold_30 rfl rfl hw
    · refine lv_iload_n hx hb dX4_takesTold_16 rfl (lv_at hl 1 rfl) ?_
      refine x_if_ne E (nI_toI (by decide)) (tgt := 31) dX4_takesTold_17 (by decide) (fun c_3 => ?_) (fun c_3 => ?_)
      · exfalso; omega
      · exact absurd c_3 (by decide)

abbrev rm_X4_told_no_3 : Room := { frames := 3, cells := 0, slots := 0, locals := 63 }
set_option maxHeartbeats 4000000 in
set_option maxRecDepth 100000 in
theorem c_X4_told_no_3 (l : Launch) (G : XG) (x : Nat) (xt : Nat) (xw : Nat) (xo : Nat) (xh : Nat) (xr : Nat) (xs : Nat) (xi : Nat) (xd : Nat) (xf : Nat) (nb : Nat) (pa : Nat) (pt : Nat) (off : Nat) (ha : Nat) (n : Nat) (nl : Nat) (ns : Nat) (tr : Int64) (u1 : Int32) (u2 : Int32) (u3 : Int32) (u4 : Int64) (u5 : Int32) (gb : Nat → Nat) (z0 : Nat) (nf : Nat) (t : Nat → Nat) (hN : nb ≤ 200) (hgb : ∀ q, gb q < 256) (hz0 : z0 ≤ nb) (hnf : nf ≤ 20) (ht : ∀ j, t j ≤ 100) (hpv : pvT t ≤ 63) (hpv3 : 3 ≤ pvT t) (hw : nf = 0 ∧ t 3 = 0) (hno : ¬ (tk gb nb (sk gb nb z0) = 5 ∧ 0 ≤ (nv gb nb (sk gb nb z0)) ∧ (nv gb nb (sk gb nb z0)) ≤ 9)) : CfI l yX4_takesTold wsX4_takesTold rm_X4_told_no_3 G [.ref x, .int (nI 3)] [(x, .inr (4, [.ref xt, .int (nI nb), .int (nI pa), .int (nI pt), .int (nI off), .int (nI ha), .int (nI n), .ref xw, .ref xo, .ref xh, .int (nI nl), .ref xr, .int (nI ns), .ref xs, .ref xi, .long tr, .int (nI z0), .int u2, .int u3, .long u4, .ref xd, .int (nI nf), .ref xf])), (xt, .inl (cI G, 200, .inl (fI gb))), (xd, .inl (cI G, 4, .inl ((tA t))))] (nI 0) [(x, .inr (4, [.ref xt, .int (nI nb), .int (nI pa), .int (nI pt), .int (nI off), .int (nI ha), .int (nI n), .ref xw, .ref xo, .ref xh, .int (nI nl), .ref xr, .int (nI ns), .ref xs, .ref xi, .long tr, .int (nI (atM gb nb (sk gb nb z0))), .int (nI (sk gb nb z0)), .int (nI (kdM gb nb (sk gb nb z0))), .long (vlM gb nb (sk gb nb z0)), .ref xd, .int (nI nf), .ref xf])), (xt, .inl (cI G, 200, .inl (fI gb))), (xd, .inl (cI G, 4, .inl ((tA t))))] := by
  have ht0 := ht 0
  have ht1 := ht 1
  have htk := ht 3
  have hP0 := sk_le gb hz0
  have hA0 := atM_le (gb := gb) hP0
  have hK0 := kdM_le gb nb (sk gb nb z0)
  refine CtI.go (cc := cX4_takesTold) (maxL := 4) RX4 rfl (by decide) rfl (Nat.le_of_ble_eq_true rfl) ?_
  intro p e s m args below meth c A Q ls E hw hl hret
  have hx := E.1
  have hb := E.2.1
  have hinX4 : ∀ w ∈ wsX40, w ∈ wsX4_takesTold := (fun w h => List.mem_cons_of_mem _ (List.mem_append_right _ h))
  have hl : lv_has ls 4 [(0, .ref x), (1, .int (nI 3))] := hl
  refine lv_aload_n hx hb dX4_takesTold_0 rfl (lv_at hl 0 rfl) ?_
  refine x_get E hw (C := RX4) (T := TX4) (N := 23) hinX4 0 rfl rfl 21 (by decide) rfl (List.mem_of_getElem? (i := 1) rfl) dX4_takesTold_1 ?_
  refine x_if_gt E (nI_toI (show nf < 2147483648 by omega)) (tgt := 29) dX4_takesTold_4 (by decide) (fun c_1 => ?_) (fun c_1 => ?_)
  · exfalso; omega
  · refine lv_aload_n hx hb dX4_takesTold_7 rfl (lv_at hl 0 rfl) ?_
    refine x_get E hw (C := RX4) (T := TX4) (N := 23) hinX4 0 rfl rfl 20 (by decide) rfl (List.mem_of_getElem? (i := 2) rfl) dX4_takesTold_8 ?_
    refine lv_iload_n hx hb dX4_takesTold_11 rfl (lv_at hl 1 rfl) ?_
    refine x_iald E hw 2 (a := xd) (v := (tI (t 3))) rfl rfl (show 3 < 4 by omega) (by omega) rfl dX4_takesTold_12 ?_
    refine x_if_ge E (tI_toI (show t 3 < 2147483648 by omega)) (tgt := 29) dX4_takesTold_13 (by decide) (fun c_2 => ?_) (fun c_2 => ?_)
    · exfalso; omega
    · refine lv_iload_n hx hb dX4_takesTold_16 rfl (lv_at hl 1 rfl) ?_
      refine x_if_ne E (nI_toI (by decide)) (tgt := 31) dX4_takesTold_17 (by decide) (fun c_3 => ?_) (fun c_3 => ?_)
      · refine lv_iload_n hx hb dX4_takesTold_31 rfl (lv_at hl 1 rfl) ?_
        refine x_if_ne E (nI_toI (by decide)) (tgt := 39) dX4_takesTold_32 (by decide) (fun c_4 => ?_) (fun c_4 => ?_)
        · refine lv_iload_n hx hb dX4_takesTold_39 rfl (lv_at hl 1 rfl) ?_
          refine lv_iconst (v := (nI 1)) hx hb dX4_takesTold_40 (by decide) ?_
          refine x_icmp_ne E (nI_toI (by decide)) (nI_toI (by decide)) (tgt := 48) dX4_takesTold_41 (by decide) (fun c_5 => ?_) (fun c_5 => ?_)
          · refine lv_iconst (v := (nI 0)) hx hb dX4_takesTold_48 (by decide) ?_
            refine lv_istore_n (lv' := [(2, .int (nI 0)), (0, .ref x), (1, .int (nI 3))]) hx hb dX4_takesTold_49 rfl hl (by decide) rfl (fun ls hl => ?_)
            refine lv_iload_n hx hb dX4_takesTold_50 rfl (lv_at hl 2 rfl) ?_
            refine x_if_ne E (nI_toI (by decide)) (tgt := 59) dX4_takesTold_51 (by decide) (fun c_6 => ?_) (fun c_6 => ?_)
            · refine lv_iload_n hx hb dX4_takesTold_59 rfl (lv_at hl 2 rfl) ?_
              refine lv_iconst (v := (nI 1)) hx hb dX4_takesTold_60 (by decide) ?_
              refine x_icmp_ne E (nI_toI (by decide)) (nI_toI (by decide)) (tgt := 73) dX4_takesTold_61 (by decide) (fun c_7 => ?_) (fun c_7 => ?_)
              · refine lv_iload_n hx hb dX4_takesTold_73 rfl (lv_at hl 2 rfl) ?_
                refine lv_iconst (v := (nI 2)) hx hb dX4_takesTold_74 (by decide) ?_
                refine x_icmp_ne E (nI_toI (by decide)) (nI_toI (by decide)) (tgt := 83) dX4_takesTold_75 (by decide) (fun c_8 => ?_) (fun c_8 => ?_)
                · refine lv_bipush (v := (nI 9)) hx hb dX4_takesTold_83 (by decide) ?_
                  refine lv_istore_n (lv' := [(3, .int (nI 9)), (2, .int (nI 0)), (0, .ref x), (1, .int (nI 3))]) hx hb dX4_takesTold_85 rfl hl (by decide) rfl (fun ls hl => ?_)
                  refine lv_aload_n hx hb dX4_takesTold_86 rfl (lv_at hl 2 rfl) ?_
                  refine lv_iload_n hx hb dX4_takesTold_87 rfl (lv_at hl 1 rfl) ?_
                  refine lv_iload_n hx hb dX4_takesTold_88 rfl (lv_at hl 0 rfl) ?_
                  refine x_cfVi E hw hl.1 (As := [.int (nI 0), .int (nI 9)]) (rest := []) (c_X4_takes l G x xt xw xo xh xr xs xi xd xf nb pa pt off ha n nl ns tr 0 u2 u3 u4 (nI nf) gb z0 0 9 (by omega) hgb (by omega) (by omega) (by omega)) 2 gX4_takesTold_X4_takes rfl rfl rfl (by decide) ⟨Nat.le_of_ble_eq_true rfl, Nat.le_of_ble_eq_true rfl⟩ ⟨Nat.le_of_ble_eq_true rfl, Nat.le_of_ble_eq_true rfl⟩ rfl 0 (ci := 4) (C := RX4) (T := TX4) (N := 23) rfl rfl [0, 1] [2] rfl rfl rfl rfl rfl [1, 2, 0] [(x, .inr (4, [.ref xt, .int (nI nb), .int (nI pa), .int (nI pt), .int (nI off), .int (nI ha), .int (nI n), .ref xw, .ref xo, .ref xh, .int (nI nl), .ref xr, .int (nI ns), .ref xs, .ref xi, .long tr, .int (nI (atM gb nb (sk gb nb z0))), .int (nI (sk gb nb z0)), .int (nI (kdM gb nb (sk gb nb z0))), .long (vlM gb nb (sk gb nb z0)), .ref xd, .int (nI nf), .ref xf])), (xt, .inl (cI G, 200, .inl (fI gb))), (xd, .inl (cI G, 4, .inl ((tA t))))] rfl rfl rfl (Nat.le_of_ble_eq_true rfl) dX4_takesTold_89 (fun H locs hw => ?_)
                  refine x_ifb_eq E (P := tk gb nb (sk gb nb z0) = 5 ∧ 0 ≤ (nv gb nb (sk gb nb z0)) ∧ (nv gb nb (sk gb nb z0)) ≤ 9) (tgt := 112) dX4_takesTold_92 (by decide) (fun h5 => ?_) (fun h5 => ?_)
                  · refine lv_iconst (v := (nI 0)) hx hb dX4_takesTold_112 (by decide) ?_
                    exact hret (nI 0) () _ _ _ _ dX4_takesTold_113 rfl rfl hw
                  · exfalso; omega
                · exact absurd c_8 (by decide)
              · exact absurd c_7 (by decide)
            · exact absurd c_6 (by decide)
          · exact absurd c_5 (by decide)
        · exact absurd c_4 (by decide)
      · exact absurd c_3 (by decide)

abbrev rm_X4_told_3 : Room := { frames := 3, cells := 0, slots := 0, locals := 63 }
set_option maxHeartbeats 4000000 in
set_option maxRecDepth 100000 in
theorem c_X4_told_3 (l : Launch) (G : XG) (x : Nat) (xt : Nat) (xw : Nat) (xo : Nat) (xh : Nat) (xr : Nat) (xs : Nat) (xi : Nat) (xd : Nat) (xf : Nat) (nb : Nat) (pa : Nat) (pt : Nat) (off : Nat) (ha : Nat) (n : Nat) (nl : Nat) (ns : Nat) (tr : Int64) (u1 : Int32) (u2 : Int32) (u3 : Int32) (u4 : Int64) (u5 : Int32) (gb : Nat → Nat) (z0 : Nat) (nf : Nat) (t : Nat → Nat) (hN : nb ≤ 200) (hgb : ∀ q, gb q < 256) (hz0 : z0 ≤ nb) (hnf : nf ≤ 20) (ht : ∀ j, t j ≤ 100) (hpv : pvT t ≤ 63) (hpv3 : 3 ≤ pvT t) (hw : nf = 0 ∧ t 3 = 0) (hok : tk gb nb (sk gb nb z0) = 5 ∧ 0 ≤ (nv gb nb (sk gb nb z0)) ∧ (nv gb nb (sk gb nb z0)) ≤ 9) : CfI l yX4_takesTold wsX4_takesTold rm_X4_told_3 G [.ref x, .int (nI 3)] [(x, .inr (4, [.ref xt, .int (nI nb), .int (nI pa), .int (nI pt), .int (nI off), .int (nI ha), .int (nI n), .ref xw, .ref xo, .ref xh, .int (nI nl), .ref xr, .int (nI ns), .ref xs, .ref xi, .long tr, .int (nI z0), .int u2, .int u3, .long u4, .ref xd, .int (nI nf), .ref xf])), (xt, .inl (cI G, 200, .inl (fI gb))), (xd, .inl (cI G, 4, .inl ((tA t))))] (if tk gb nb (sk gb nb (atM gb nb (sk gb nb z0))) = 6 then 1 else 0) [(x, .inr (4, [.ref xt, .int (nI nb), .int (nI pa), .int (nI pt), .int (nI off), .int (nI ha), .int (nI n), .ref xw, .ref xo, .ref xh, .int (nI nl), .ref xr, .int (nI ns), .ref xs, .ref xi, .long tr, .int (nI (atM gb nb (sk gb nb (atM gb nb (sk gb nb z0))))), .int (nI (sk gb nb (atM gb nb (sk gb nb z0)))), .int (nI (kdM gb nb (sk gb nb (atM gb nb (sk gb nb z0))))), .long (vlM gb nb (sk gb nb (atM gb nb (sk gb nb z0)))), .ref xd, .int (nI nf), .ref xf])), (xt, .inl (cI G, 200, .inl (fI gb))), (xd, .inl (cI G, 4, .inl ((tA (va_up t 3 ((nv gb nb (sk gb nb z0)) + 1))))))] := by
  have ht0 := ht 0
  have ht1 := ht 1
  have htk := ht 3
  have hP0 := sk_le gb hz0
  have hA0 := atM_le (gb := gb) hP0
  have hK0 := kdM_le gb nb (sk gb nb z0)
  refine CtI.go (cc := cX4_takesTold) (maxL := 4) RX4 rfl (by decide) rfl (Nat.le_of_ble_eq_true rfl) ?_
  intro p e s m args below meth c A Q ls E hw hl hret
  have hx := E.1
  have hb := E.2.1
  have hinX4 : ∀ w ∈ wsX40, w ∈ wsX4_takesTold := (fun w h => List.mem_cons_of_mem _ (List.mem_append_right _ h))
  have hl : lv_has ls 4 [(0, .ref x), (1, .int (nI 3))] := hl
  refine lv_aload_n hx hb dX4_takesTold_0 rfl (lv_at hl 0 rfl) ?_
  refine x_get E hw (C := RX4) (T := TX4) (N := 23) hinX4 0 rfl rfl 21 (by decide) rfl (List.mem_of_getElem? (i := 1) rfl) dX4_takesTold_1 ?_
  refine x_if_gt E (nI_toI (show nf < 2147483648 by omega)) (tgt := 29) dX4_takesTold_4 (by decide) (fun c_1 => ?_) (fun c_1 => ?_)
  · exfalso; omega
  · refine lv_aload_n hx hb dX4_takesTold_7 rfl (lv_at hl 0 rfl) ?_
    refine x_get E hw (C := RX4) (T := TX4) (N := 23) hinX4 0 rfl rfl 20 (by decide) rfl (List.mem_of_getElem? (i := 2) rfl) dX4_takesTold_8 ?_
    refine lv_iload_n hx hb dX4_takesTold_11 rfl (lv_at hl 1 rfl) ?_
    refine x_iald E hw 2 (a := xd) (v := (tI (t 3))) rfl rfl (show 3 < 4 by omega) (by omega) rfl dX4_takesTold_12 ?_
    refine x_if_ge E (tI_toI (show t 3 < 2147483648 by omega)) (tgt := 29) dX4_takesTold_13 (by decide) (fun c_2 => ?_) (fun c_2 => ?_)
    · exfalso; omega
    · refine lv_iload_n hx hb dX4_takesTold_16 rfl (lv_at hl 1 rfl) ?_
      refine x_if_ne E (nI_toI (by decide)) (tgt := 31) dX4_takesTold_17 (by decide) (fun c_3 => ?_) (fun c_3 => ?_)
      · refine lv_iload_n hx hb dX4_takesTold_31 rfl (lv_at hl 1 rfl) ?_
        refine x_if_ne E (nI_toI (by decide)) (tgt := 39) dX4_takesTold_32 (by decide) (fun c_4 => ?_) (fun c_4 => ?_)
        · refine lv_iload_n hx hb dX4_takesTold_39 rfl (lv_at hl 1 rfl) ?_
          refine lv_iconst (v := (nI 1)) hx hb dX4_takesTold_40 (by decide) ?_
          refine x_icmp_ne E (nI_toI (by decide)) (nI_toI (by decide)) (tgt := 48) dX4_takesTold_41 (by decide) (fun c_5 => ?_) (fun c_5 => ?_)
          · refine lv_iconst (v := (nI 0)) hx hb dX4_takesTold_48 (by decide) ?_
            refine lv_istore_n (lv' := [(2, .int (nI 0)), (0, .ref x), (1, .int (nI 3))]) hx hb dX4_takesTold_49 rfl hl (by decide) rfl (fun ls hl => ?_)
            refine lv_iload_n hx hb dX4_takesTold_50 rfl (lv_at hl 2 rfl) ?_
            refine x_if_ne E (nI_toI (by decide)) (tgt := 59) dX4_takesTold_51 (by decide) (fun c_6 => ?_) (fun c_6 => ?_)
            · refine lv_iload_n hx hb dX4_takesTold_59 rfl (lv_at hl 2 rfl) ?_
              refine lv_iconst (v := (nI 1)) hx hb dX4_takesTold_60 (by decide) ?_
              refine x_icmp_ne E (nI_toI (by decide)) (nI_toI (by decide)) (tgt := 73) dX4_takesTold_61 (by decide) (fun c_7 => ?_) (fun c_7 => ?_)
              · refine lv_iload_n hx hb dX4_takesTold_73 rfl (lv_at hl 2 rfl) ?_
                refine lv_iconst (v := (nI 2)) hx hb dX4_takesTold_74 (by decide) ?_
                refine x_icmp_ne E (nI_toI (by decide)) (nI_toI (by decide)) (tgt := 83) dX4_takesTold_75 (by decide) (fun c_8 => ?_) (fun c_8 => ?_)
                · refine lv_bipush (v := (nI 9)) hx hb dX4_takesTold_83 (by decide) ?_
                  refine lv_istore_n (lv' := [(3, .int (nI 9)), (2, .int (nI 0)), (0, .ref x), (1, .int (nI 3))]) hx hb dX4_takesTold_85 rfl hl (by decide) rfl (fun ls hl => ?_)
                  refine lv_aload_n hx hb dX4_takesTold_86 rfl (lv_at hl 2 rfl) ?_
                  refine lv_iload_n hx hb dX4_takesTold_87 rfl (lv_at hl 1 rfl) ?_
                  refine lv_iload_n hx hb dX4_takesTold_88 rfl (lv_at hl 0 rfl) ?_
                  refine x_cfVi E hw hl.1 (As := [.int (nI 0), .int (nI 9)]) (rest := []) (c_X4_takes l G x xt xw xo xh xr xs xi xd xf nb pa pt off ha n nl ns tr 0 u2 u3 u4 (nI nf) gb z0 0 9 (by omega) hgb (by omega) (by omega) (by omega)) 2 gX4_takesTold_X4_takes rfl rfl rfl (by decide) ⟨Nat.le_of_ble_eq_true rfl, Nat.le_of_ble_eq_true rfl⟩ ⟨Nat.le_of_ble_eq_true rfl, Nat.le_of_ble_eq_true rfl⟩ rfl 0 (ci := 4) (C := RX4) (T := TX4) (N := 23) rfl rfl [0, 1] [2] rfl rfl rfl rfl rfl [1, 2, 0] [(x, .inr (4, [.ref xt, .int (nI nb), .int (nI pa), .int (nI pt), .int (nI off), .int (nI ha), .int (nI n), .ref xw, .ref xo, .ref xh, .int (nI nl), .ref xr, .int (nI ns), .ref xs, .ref xi, .long tr, .int (nI (atM gb nb (sk gb nb z0))), .int (nI (sk gb nb z0)), .int (nI (kdM gb nb (sk gb nb z0))), .long (vlM gb nb (sk gb nb z0)), .ref xd, .int (nI nf), .ref xf])), (xt, .inl (cI G, 200, .inl (fI gb))), (xd, .inl (cI G, 4, .inl ((tA t))))] rfl rfl rfl (Nat.le_of_ble_eq_true rfl) dX4_takesTold_89 (fun H locs hw => ?_)
                  refine x_ifb_eq E (P := tk gb nb (sk gb nb z0) = 5 ∧ 0 ≤ (nv gb nb (sk gb nb z0)) ∧ (nv gb nb (sk gb nb z0)) ≤ 9) (tgt := 112) dX4_takesTold_92 (by decide) (fun h5 => ?_) (fun h5 => ?_)
                  · exfalso; omega
                  · have hv5 := (tk5v hgb (show tk gb nb (sk gb nb z0) = 5 from h5.1)).2.2
                    refine lv_iload_n hx hb dX4_takesTold_95 rfl (lv_at hl 3 rfl) ?_
                    refine x_if_ne E (nI_toI (by decide)) (tgt := 114) dX4_takesTold_96 (by decide) (fun c_9 => ?_) (fun c_9 => ?_)
                    · refine lv_aload_n hx hb dX4_takesTold_114 rfl (lv_at hl 2 rfl) ?_
                      refine x_get E hw (C := RX4) (T := TX4) (N := 23) hinX4 0 rfl rfl 20 (by decide) rfl (List.mem_of_getElem? (i := 2) rfl) dX4_takesTold_115 ?_
                      refine lv_iload_n hx hb dX4_takesTold_118 rfl (lv_at hl 3 rfl) ?_
                      refine lv_aload_n hx hb dX4_takesTold_119 rfl (lv_at hl 2 rfl) ?_
                      refine x_get E hw (C := RX4) (T := TX4) (N := 23) hinX4 0 rfl rfl 19 (by decide) rfl (List.mem_of_getElem? (i := 3) rfl) dX4_takesTold_120 ?_
                      refine x_topl (v := lN (nv gb nb (sk gb nb z0))) (tk5v hgb h5.1).1 ?_
                      refine lv_l2i (v := (nI (nv gb nb (sk gb nb z0)))) hx hb dX4_takesTold_123 (lN_i _) ?_
                      refine x_iast E hw 2 (a := xd) (ws1 := [(x, .inr (4, [.ref xt, .int (nI nb), .int (nI pa), .int (nI pt), .int (nI off), .int (nI ha), .int (nI n), .ref xw, .ref xo, .ref xh, .int (nI nl), .ref xr, .int (nI ns), .ref xs, .ref xi, .long tr, .int (nI (atM gb nb (sk gb nb z0))), .int (nI (sk gb nb z0)), .int (nI (kdM gb nb (sk gb nb z0))), .long (vlM gb nb (sk gb nb z0)), .ref xd, .int (nI nf), .ref xf])), (xt, .inl (cI G, 200, .inl (fI gb))), (xd, .inl (cI G, 4, .inl ((tA (va_up t 3 ((nv gb nb (sk gb nb z0)) + 1))))))]) rfl rfl (show 3 < 4 by omega) (by omega) (tA_up _ _ _) rfl dX4_takesTold_124 (fun H locs hw => ?_)
                      refine lv_aload_n hx hb dX4_takesTold_125 rfl (lv_at hl 2 rfl) ?_
                      refine x_cfVi E hw hl.1 (As := []) (rest := []) (c_X4_stops l G x xt xw xo xh xr xs xi xd xf nb pa pt off ha n nl ns tr 0 (nI (sk gb nb z0)) (nI (kdM gb nb (sk gb nb z0))) (vlM gb nb (sk gb nb z0)) (nI nf) gb (atM gb nb (sk gb nb z0)) (by omega) hgb (by omega)) 0 gX4_takesTold_X4_stops rfl rfl rfl (by decide) ⟨Nat.le_of_ble_eq_true rfl, Nat.le_of_ble_eq_true rfl⟩ ⟨Nat.le_of_ble_eq_true rfl, Nat.le_of_ble_eq_true rfl⟩ rfl 0 (ci := 4) (C := RX4) (T := TX4) (N := 23) rfl rfl [0, 1] [2] rfl rfl rfl rfl rfl [1, 2, 0] [(x, .inr (4, [.ref xt, .int (nI nb), .int (nI pa), .int (nI pt), .int (nI off), .int (nI ha), .int (nI n), .ref xw, .ref xo, .ref xh, .int (nI nl), .ref xr, .int (nI ns), .ref xs, .ref xi, .long tr, .int (nI (atM gb nb (sk gb nb (atM gb nb (sk gb nb z0))))), .int (nI (sk gb nb (atM gb nb (sk gb nb z0)))), .int (nI (kdM gb nb (sk gb nb (atM gb nb (sk gb nb z0))))), .long (vlM gb nb (sk gb nb (atM gb nb (sk gb nb z0)))), .ref xd, .int (nI nf), .ref xf])), (xt, .inl (cI G, 200, .inl (fI gb))), (xd, .inl (cI G, 4, .inl ((tA (va_up t 3 ((nv gb nb (sk gb nb z0)) + 1))))))] rfl rfl rfl (Nat.le_of_ble_eq_true rfl) dX4_takesTold_126 (fun H locs hw => ?_)
                      exact hret (if tk gb nb (sk gb nb (atM gb nb (sk gb nb z0))) = 6 then 1 else 0) () _ _ _ _ dX4_takesTold_129 x_narZ rfl hw
                    · exact absurd c_9 (by decide)
                · exact absurd c_8 (by decide)
              · exact absurd c_7 (by decide)
            · exact absurd c_6 (by decide)
          · exact absurd c_5 (by decide)
        · exact absurd c_4 (by decide)
      · exact absurd c_3 (by decide)

abbrev rm_X4_tfold_full0 : Room := { frames := 0, cells := 0, slots := 0, locals := 0 }
set_option maxHeartbeats 4000000 in
set_option maxRecDepth 100000 in
theorem c_X4_tfold_full0 (l : Launch) (G : XG) (x : Nat) (xt : Nat) (xw : Nat) (xo : Nat) (xh : Nat) (xr : Nat) (xs : Nat) (xi : Nat) (xd : Nat) (xf : Nat) (nb : Nat) (pa : Nat) (pt : Nat) (off : Nat) (ha : Nat) (n : Nat) (nl : Nat) (ns : Nat) (tr : Int64) (u1 : Int32) (u2 : Int32) (u3 : Int32) (u4 : Int64) (u5 : Int32) (gb : Nat → Nat) (z0 : Nat) (nf : Nat) (fa : Nat → Nat) (hnf : nf = 20) : CfI l yX4_takesFold wsX4_takesFold rm_X4_tfold_full0 G [.ref x] [(x, .inr (4, [.ref xt, .int (nI nb), .int (nI pa), .int (nI pt), .int (nI off), .int (nI ha), .int (nI n), .ref xw, .ref xo, .ref xh, .int (nI nl), .ref xr, .int (nI ns), .ref xs, .ref xi, .long tr, .int (nI z0), .int u2, .int u3, .long u4, .ref xd, .int (nI nf), .ref xf])), (xt, .inl (cI G, 200, .inl (fI gb))), (xf, .inl (cI G, 40, .inl (fI fa)))] (nI 0) [(x, .inr (4, [.ref xt, .int (nI nb), .int (nI pa), .int (nI pt), .int (nI off), .int (nI ha), .int (nI n), .ref xw, .ref xo, .ref xh, .int (nI nl), .ref xr, .int (nI ns), .ref xs, .ref xi, .long tr, .int (nI z0), .int u2, .int u3, .long u4, .ref xd, .int (nI nf), .ref xf])), (xt, .inl (cI G, 200, .inl (fI gb))), (xf, .inl (cI G, 40, .inl (fI fa)))] := by
  refine CtI.go (cc := cX4_takesFold) (maxL := 2) RX4 rfl (by decide) rfl (Nat.le_of_ble_eq_true rfl) ?_
  intro p e s m args below meth c A Q ls E hw hl hret
  have hx := E.1
  have hb := E.2.1
  have hinX4 : ∀ w ∈ wsX40, w ∈ wsX4_takesFold := (fun w h => List.mem_cons_of_mem _ (List.mem_append_right _ h))
  have hl : lv_has ls 2 [(0, .ref x)] := hl
  refine lv_aload_n hx hb dX4_takesFold_0 rfl (lv_at hl 0 rfl) ?_
  refine x_get E hw (C := RX4) (T := TX4) (N := 23) hinX4 0 rfl rfl 21 (by decide) rfl (List.mem_of_getElem? (i := 1) rfl) dX4_takesFold_1 ?_
  refine lv_bipush (v := (nI 20)) hx hb dX4_takesFold_4 (by decide) ?_
  refine x_icmp_eq E (nI_toI (show nf < 2147483648 by omega)) (nI_toI (by decide)) (tgt := 23) dX4_takesFold_6 (by decide) (fun c_1 => ?_) (fun c_1 => ?_)
  · refine lv_iconst (v := (nI 0)) hx hb dX4_takesFold_23 (by decide) ?_
    exact hret (nI 0) () _ _ _ _ dX4_takesFold_24 rfl rfl hw
  · exfalso; omega

abbrev rm_X4_tfold_no1 : Room := { frames := 3, cells := 0, slots := 0, locals := 63 }
set_option maxHeartbeats 4000000 in
set_option maxRecDepth 100000 in
theorem c_X4_tfold_no1 (l : Launch) (G : XG) (x : Nat) (xt : Nat) (xw : Nat) (xo : Nat) (xh : Nat) (xr : Nat) (xs : Nat) (xi : Nat) (xd : Nat) (xf : Nat) (nb : Nat) (pa : Nat) (pt : Nat) (off : Nat) (ha : Nat) (n : Nat) (nl : Nat) (ns : Nat) (tr : Int64) (u1 : Int32) (u2 : Int32) (u3 : Int32) (u4 : Int64) (u5 : Int32) (gb : Nat → Nat) (z0 : Nat) (nf : Nat) (fa : Nat → Nat) (hN : nb ≤ 200) (hgb : ∀ q, gb q < 256) (hz0 : z0 ≤ nb) (hnf : nf < 20) (hno : ¬ (tk gb nb (sk gb nb z0) = 5 ∧ (nv gb nb (sk gb nb z0)) < nf + 3)) : CfI l yX4_takesFold wsX4_takesFold rm_X4_tfold_no1 G [.ref x] [(x, .inr (4, [.ref xt, .int (nI nb), .int (nI pa), .int (nI pt), .int (nI off), .int (nI ha), .int (nI n), .ref xw, .ref xo, .ref xh, .int (nI nl), .ref xr, .int (nI ns), .ref xs, .ref xi, .long tr, .int (nI z0), .int u2, .int u3, .long u4, .ref xd, .int (nI nf), .ref xf])), (xt, .inl (cI G, 200, .inl (fI gb))), (xf, .inl (cI G, 40, .inl (fI fa)))] (nI 0) [(x, .inr (4, [.ref xt, .int (nI nb), .int (nI pa), .int (nI pt), .int (nI off), .int (nI ha), .int (nI n), .ref xw, .ref xo, .ref xh, .int (nI nl), .ref xr, .int (nI ns), .ref xs, .ref xi, .long tr, .int (nI (atM gb nb (sk gb nb z0))), .int (nI (sk gb nb z0)), .int (nI (kdM gb nb (sk gb nb z0))), .long (vlM gb nb (sk gb nb z0)), .ref xd, .int (nI nf), .ref xf])), (xt, .inl (cI G, 200, .inl (fI gb))), (xf, .inl (cI G, 40, .inl (fI fa)))] := by
  have hP0 := sk_le gb hz0
  have hA0 := atM_le (gb := gb) hP0
  have hK0 := kdM_le gb nb (sk gb nb z0)
  refine CtI.go (cc := cX4_takesFold) (maxL := 2) RX4 rfl (by decide) rfl (Nat.le_of_ble_eq_true rfl) ?_
  intro p e s m args below meth c A Q ls E hw hl hret
  have hx := E.1
  have hb := E.2.1
  have hinX4 : ∀ w ∈ wsX40, w ∈ wsX4_takesFold := (fun w h => List.mem_cons_of_mem _ (List.mem_append_right _ h))
  have hl : lv_has ls 2 [(0, .ref x)] := hl
  refine lv_aload_n hx hb dX4_takesFold_0 rfl (lv_at hl 0 rfl) ?_
  refine x_get E hw (C := RX4) (T := TX4) (N := 23) hinX4 0 rfl rfl 21 (by decide) rfl (List.mem_of_getElem? (i := 1) rfl) dX4_takesFold_1 ?_
  refine lv_bipush (v := (nI 20)) hx hb dX4_takesFold_4 (by decide) ?_
  refine x_icmp_eq E (nI_toI (show nf < 2147483648 by omega)) (nI_toI (by decide)) (tgt := 23) dX4_takesFold_6 (by decide) (fun c_1 => ?_) (fun c_1 => ?_)
  · exfalso; omega
  · refine lv_aload_n hx hb dX4_takesFold_9 rfl (lv_at hl 0 rfl) ?_
    refine lv_iconst (v := (nI 0)) hx hb dX4_takesFold_10 (by decide) ?_
    refine lv_aload_n hx hb dX4_takesFold_11 rfl (lv_at hl 0 rfl) ?_
    refine x_get E hw (C := RX4) (T := TX4) (N := 23) hinX4 0 rfl rfl 21 (by decide) rfl (List.mem_of_getElem? (i := 1) rfl) dX4_takesFold_12 ?_
    refine lv_iconst (v := (nI 2)) hx hb dX4_takesFold_15 (by decide) ?_
    refine x_iadd E (v := (nI (nf + 2))) dX4_takesFold_16 (nI_add _ _) ?_
    refine x_cfVi E hw hl.1 (As := [.int (nI 0), .int (nI (nf + 2))]) (rest := []) (c_X4_takes l G x xt xw xo xh xr xs xi xd xf nb pa pt off ha n nl ns tr 0 u2 u3 u4 (nI nf) gb z0 0 (nf + 2) (by omega) hgb (by omega) (by omega) (by omega)) 2 gX4_takesFold_X4_takes rfl rfl rfl (by decide) ⟨Nat.le_of_ble_eq_true rfl, Nat.le_of_ble_eq_true rfl⟩ ⟨Nat.le_of_ble_eq_true rfl, Nat.le_of_ble_eq_true rfl⟩ rfl 0 (ci := 4) (C := RX4) (T := TX4) (N := 23) rfl rfl [0, 1] [2] rfl rfl rfl rfl rfl [1, 2, 0] [(x, .inr (4, [.ref xt, .int (nI nb), .int (nI pa), .int (nI pt), .int (nI off), .int (nI ha), .int (nI n), .ref xw, .ref xo, .ref xh, .int (nI nl), .ref xr, .int (nI ns), .ref xs, .ref xi, .long tr, .int (nI (atM gb nb (sk gb nb z0))), .int (nI (sk gb nb z0)), .int (nI (kdM gb nb (sk gb nb z0))), .long (vlM gb nb (sk gb nb z0)), .ref xd, .int (nI nf), .ref xf])), (xt, .inl (cI G, 200, .inl (fI gb))), (xf, .inl (cI G, 40, .inl (fI fa)))] rfl rfl rfl (Nat.le_of_ble_eq_true rfl) dX4_takesFold_17 (fun H locs hw => ?_)
    refine x_ifb_ne E (P := tk gb nb (sk gb nb z0) = 5 ∧ 0 ≤ (nv gb nb (sk gb nb z0)) ∧ (nv gb nb (sk gb nb z0)) ≤ (nf + 2)) (tgt := 25) dX4_takesFold_20 (by decide) (fun h5 => ?_) (fun h5 => ?_)
    · exact absurd ⟨h5.1, by omega⟩ hno
    · refine lv_iconst (v := (nI 0)) hx hb dX4_takesFold_23 (by decide) ?_
      exact hret (nI 0) () _ _ _ _ dX4_takesFold_24 rfl rfl hw

abbrev rm_X4_tfold_no2 : Room := { frames := 3, cells := 0, slots := 0, locals := 63 }
set_option maxHeartbeats 4000000 in
set_option maxRecDepth 100000 in
theorem c_X4_tfold_no2 (l : Launch) (G : XG) (x : Nat) (xt : Nat) (xw : Nat) (xo : Nat) (xh : Nat) (xr : Nat) (xs : Nat) (xi : Nat) (xd : Nat) (xf : Nat) (nb : Nat) (pa : Nat) (pt : Nat) (off : Nat) (ha : Nat) (n : Nat) (nl : Nat) (ns : Nat) (tr : Int64) (u1 : Int32) (u2 : Int32) (u3 : Int32) (u4 : Int64) (u5 : Int32) (gb : Nat → Nat) (z0 : Nat) (nf : Nat) (fa : Nat → Nat) (hN : nb ≤ 200) (hgb : ∀ q, gb q < 256) (hz0 : z0 ≤ nb) (hnf : nf < 20) (hok : tk gb nb (sk gb nb z0) = 5 ∧ (nv gb nb (sk gb nb z0)) < nf + 3) (hno : ¬ (tk gb nb (sk gb nb (atM gb nb (sk gb nb z0))) = 5 ∧ (nv gb nb (sk gb nb (atM gb nb (sk gb nb z0)))) < nf + 3 ∧ (nv gb nb (sk gb nb (atM gb nb (sk gb nb z0)))) ≠ (nv gb nb (sk gb nb z0)))) : CfI l yX4_takesFold wsX4_takesFold rm_X4_tfold_no2 G [.ref x] [(x, .inr (4, [.ref xt, .int (nI nb), .int (nI pa), .int (nI pt), .int (nI off), .int (nI ha), .int (nI n), .ref xw, .ref xo, .ref xh, .int (nI nl), .ref xr, .int (nI ns), .ref xs, .ref xi, .long tr, .int (nI z0), .int u2, .int u3, .long u4, .ref xd, .int (nI nf), .ref xf])), (xt, .inl (cI G, 200, .inl (fI gb))), (xf, .inl (cI G, 40, .inl (fI fa)))] (nI 0) [(x, .inr (4, [.ref xt, .int (nI nb), .int (nI pa), .int (nI pt), .int (nI off), .int (nI ha), .int (nI n), .ref xw, .ref xo, .ref xh, .int (nI nl), .ref xr, .int (nI ns), .ref xs, .ref xi, .long tr, .int (nI (atM gb nb (sk gb nb (atM gb nb (sk gb nb z0))))), .int (nI (sk gb nb (atM gb nb (sk gb nb z0)))), .int (nI (kdM gb nb (sk gb nb (atM gb nb (sk gb nb z0))))), .long (vlM gb nb (sk gb nb (atM gb nb (sk gb nb z0)))), .ref xd, .int (nI nf), .ref xf])), (xt, .inl (cI G, 200, .inl (fI gb))), (xf, .inl (cI G, 40, .inl (fI fa)))] := by
  have hP0 := sk_le gb hz0
  have hA0 := atM_le (gb := gb) hP0
  have hK0 := kdM_le gb nb (sk gb nb z0)
  have hP1 := sk_le gb hA0
  have hA1 := atM_le (gb := gb) hP1
  have hK1 := kdM_le gb nb (sk gb nb (atM gb nb (sk gb nb z0)))
  refine CtI.go (cc := cX4_takesFold) (maxL := 2) RX4 rfl (by decide) rfl (Nat.le_of_ble_eq_true rfl) ?_
  intro p e s m args below meth c A Q ls E hw hl hret
  have hx := E.1
  have hb := E.2.1
  have hinX4 : ∀ w ∈ wsX40, w ∈ wsX4_takesFold := (fun w h => List.mem_cons_of_mem _ (List.mem_append_right _ h))
  have hl : lv_has ls 2 [(0, .ref x)] := hl
  refine lv_aload_n hx hb dX4_takesFold_0 rfl (lv_at hl 0 rfl) ?_
  refine x_get E hw (C := RX4) (T := TX4) (N := 23) hinX4 0 rfl rfl 21 (by decide) rfl (List.mem_of_getElem? (i := 1) rfl) dX4_takesFold_1 ?_
  refine lv_bipush (v := (nI 20)) hx hb dX4_takesFold_4 (by decide) ?_
  refine x_icmp_eq E (nI_toI (show nf < 2147483648 by omega)) (nI_toI (by decide)) (tgt := 23) dX4_takesFold_6 (by decide) (fun c_1 => ?_) (fun c_1 => ?_)
  · exfalso; omega
  · refine lv_aload_n hx hb dX4_takesFold_9 rfl (lv_at hl 0 rfl) ?_
    refine lv_iconst (v := (nI 0)) hx hb dX4_takesFold_10 (by decide) ?_
    refine lv_aload_n hx hb dX4_takesFold_11 rfl (lv_at hl 0 rfl) ?_
    refine x_get E hw (C := RX4) (T := TX4) (N := 23) hinX4 0 rfl rfl 21 (by decide) rfl (List.mem_of_getElem? (i := 1) rfl) dX4_takesFold_12 ?_
    refine lv_iconst (v := (nI 2)) hx hb dX4_takesFold_15 (by decide) ?_
    refine x_iadd E (v := (nI (nf + 2))) dX4_takesFold_16 (nI_add _ _) ?_
    refine x_cfVi E hw hl.1 (As := [.int (nI 0), .int (nI (nf + 2))]) (rest := []) (c_X4_takes l G x xt xw xo xh xr xs xi xd xf nb pa pt off ha n nl ns tr 0 u2 u3 u4 (nI nf) gb z0 0 (nf + 2) (by omega) hgb (by omega) (by omega) (by omega)) 2 gX4_takesFold_X4_takes rfl rfl rfl (by decide) ⟨Nat.le_of_ble_eq_true rfl, Nat.le_of_ble_eq_true rfl⟩ ⟨Nat.le_of_ble_eq_true rfl, Nat.le_of_ble_eq_true rfl⟩ rfl 0 (ci := 4) (C := RX4) (T := TX4) (N := 23) rfl rfl [0, 1] [2] rfl rfl rfl rfl rfl [1, 2, 0] [(x, .inr (4, [.ref xt, .int (nI nb), .int (nI pa), .int (nI pt), .int (nI off), .int (nI ha), .int (nI n), .ref xw, .ref xo, .ref xh, .int (nI nl), .ref xr, .int (nI ns), .ref xs, .ref xi, .long tr, .int (nI (atM gb nb (sk gb nb z0))), .int (nI (sk gb nb z0)), .int (nI (kdM gb nb (sk gb nb z0))), .long (vlM gb nb (sk gb nb z0)), .ref xd, .int (nI nf), .ref xf])), (xt, .inl (cI G, 200, .inl (fI gb))), (xf, .inl (cI G, 40, .inl (fI fa)))] rfl rfl rfl (Nat.le_of_ble_eq_true rfl) dX4_takesFold_17 (fun H locs hw => ?_)
    refine x_ifb_ne E (P := tk gb nb (sk gb nb z0) = 5 ∧ 0 ≤ (nv gb nb (sk gb nb z0)) ∧ (nv gb nb (sk gb nb z0)) ≤ (nf + 2)) (tgt := 25) dX4_takesFold_20 (by decide) (fun h5 => ?_) (fun h5 => ?_)
    · have hv5 := (tk5v hgb h5.1).2.2
      refine lv_aload_n hx hb dX4_takesFold_25 rfl (lv_at hl 0 rfl) ?_
      refine x_get E hw (C := RX4) (T := TX4) (N := 23) hinX4 0 rfl rfl 19 (by decide) rfl (List.mem_of_getElem? (i := 2) rfl) dX4_takesFold_26 ?_
      refine x_topl (v := lN (nv gb nb (sk gb nb z0))) (tk5v hgb h5.1).1 ?_
      refine lv_l2i (v := (nI (nv gb nb (sk gb nb z0)))) hx hb dX4_takesFold_29 (lN_i _) ?_
      refine lv_istore_n (lv' := [(1, .int (nI (nv gb nb (sk gb nb z0)))), (0, .ref x)]) hx hb dX4_takesFold_30 rfl hl (by decide) rfl (fun ls hl => ?_)
      refine lv_aload_n hx hb dX4_takesFold_31 rfl (lv_at hl 1 rfl) ?_
      refine lv_iconst (v := (nI 0)) hx hb dX4_takesFold_32 (by decide) ?_
      refine lv_aload_n hx hb dX4_takesFold_33 rfl (lv_at hl 1 rfl) ?_
      refine x_get E hw (C := RX4) (T := TX4) (N := 23) hinX4 0 rfl rfl 21 (by decide) rfl (List.mem_of_getElem? (i := 1) rfl) dX4_takesFold_34 ?_
      refine lv_iconst (v := (nI 2)) hx hb dX4_takesFold_37 (by decide) ?_
      refine x_iadd E (v := (nI (nf + 2))) dX4_takesFold_38 (nI_add _ _) ?_
      refine x_cfVi E hw hl.1 (As := [.int (nI 0), .int (nI (nf + 2))]) (rest := []) (c_X4_takes l G x xt xw xo xh xr xs xi xd xf nb pa pt off ha n nl ns tr 0 (nI (sk gb nb z0)) (nI (kdM gb nb (sk gb nb z0))) (vlM gb nb (sk gb nb z0)) (nI nf) gb (atM gb nb (sk gb nb z0)) 0 (nf + 2) (by omega) hgb (by omega) (by omega) (by omega)) 2 gX4_takesFold_X4_takes rfl rfl rfl (by decide) ⟨Nat.le_of_ble_eq_true rfl, Nat.le_of_ble_eq_true rfl⟩ ⟨Nat.le_of_ble_eq_true rfl, Nat.le_of_ble_eq_true rfl⟩ rfl 0 (ci := 4) (C := RX4) (T := TX4) (N := 23) rfl rfl [0, 1] [2] rfl rfl rfl rfl rfl [1, 2, 0] [(x, .inr (4, [.ref xt, .int (nI nb), .int (nI pa), .int (nI pt), .int (nI off), .int (nI ha), .int (nI n), .ref xw, .ref xo, .ref xh, .int (nI nl), .ref xr, .int (nI ns), .ref xs, .ref xi, .long tr, .int (nI (atM gb nb (sk gb nb (atM gb nb (sk gb nb z0))))), .int (nI (sk gb nb (atM gb nb (sk gb nb z0)))), .int (nI (kdM gb nb (sk gb nb (atM gb nb (sk gb nb z0))))), .long (vlM gb nb (sk gb nb (atM gb nb (sk gb nb z0)))), .ref xd, .int (nI nf), .ref xf])), (xt, .inl (cI G, 200, .inl (fI gb))), (xf, .inl (cI G, 40, .inl (fI fa)))] rfl rfl rfl (Nat.le_of_ble_eq_true rfl) dX4_takesFold_39 (fun H locs hw => ?_)
      refine x_ifb_eq E (P := tk gb nb (sk gb nb (atM gb nb (sk gb nb z0))) = 5 ∧ 0 ≤ (nv gb nb (sk gb nb (atM gb nb (sk gb nb z0)))) ∧ (nv gb nb (sk gb nb (atM gb nb (sk gb nb z0)))) ≤ (nf + 2)) (tgt := 55) dX4_takesFold_42 (by decide) (fun h6 => ?_) (fun h6 => ?_)
      · refine lv_iconst (v := (nI 0)) hx hb dX4_takesFold_55 (by decide) ?_
        exact hret (nI 0) () _ _ _ _ dX4_takesFold_56 rfl rfl hw
      · have hv6 := (tk5v hgb h6.1).2.2
        refine lv_aload_n hx hb dX4_takesFold_45 rfl (lv_at hl 1 rfl) ?_
        refine x_get E hw (C := RX4) (T := TX4) (N := 23) hinX4 0 rfl rfl 19 (by decide) rfl (List.mem_of_getElem? (i := 2) rfl) dX4_takesFold_46 ?_
        refine x_topl (v := lN (nv gb nb (sk gb nb (atM gb nb (sk gb nb z0))))) (tk5v hgb h6.1).1 ?_
        refine lv_iload_n hx hb dX4_takesFold_49 rfl (lv_at hl 0 rfl) ?_
        refine lv_i2l (v := (lN (nv gb nb (sk gb nb z0)))) hx hb dX4_takesFold_50 (nI_l (by omega)) ?_
        refine x_lc_ne E (lN_toI (show (nv gb nb (sk gb nb (atM gb nb (sk gb nb z0)))) < 9223372036854775808 by omega)) (lN_toI (show (nv gb nb (sk gb nb z0)) < 9223372036854775808 by omega)) (tgt := 57) dX4_takesFold_51 dX4_takesFold_52 (by decide) (fun c_2 => ?_) (fun c_2 => ?_)
        · exact absurd ⟨h6.1, by omega, by omega⟩ hno
        · refine lv_iconst (v := (nI 0)) hx hb dX4_takesFold_55 (by decide) ?_
          exact hret (nI 0) () _ _ _ _ dX4_takesFold_56 rfl rfl hw
    · exact absurd ⟨hok.1, by omega, by omega⟩ h5

abbrev rm_X4_tfold_ok : Room := { frames := 3, cells := 0, slots := 0, locals := 63 }
set_option maxHeartbeats 4000000 in
set_option maxRecDepth 100000 in
theorem c_X4_tfold_ok (l : Launch) (G : XG) (x : Nat) (xt : Nat) (xw : Nat) (xo : Nat) (xh : Nat) (xr : Nat) (xs : Nat) (xi : Nat) (xd : Nat) (xf : Nat) (nb : Nat) (pa : Nat) (pt : Nat) (off : Nat) (ha : Nat) (n : Nat) (nl : Nat) (ns : Nat) (tr : Int64) (u1 : Int32) (u2 : Int32) (u3 : Int32) (u4 : Int64) (u5 : Int32) (gb : Nat → Nat) (z0 : Nat) (nf : Nat) (fa : Nat → Nat) (hN : nb ≤ 200) (hgb : ∀ q, gb q < 256) (hz0 : z0 ≤ nb) (hnf : nf < 20) (hok : tk gb nb (sk gb nb z0) = 5 ∧ (nv gb nb (sk gb nb z0)) < nf + 3) (hok2 : tk gb nb (sk gb nb (atM gb nb (sk gb nb z0))) = 5 ∧ (nv gb nb (sk gb nb (atM gb nb (sk gb nb z0)))) < nf + 3 ∧ (nv gb nb (sk gb nb (atM gb nb (sk gb nb z0)))) ≠ (nv gb nb (sk gb nb z0))) : CfI l yX4_takesFold wsX4_takesFold rm_X4_tfold_ok G [.ref x] [(x, .inr (4, [.ref xt, .int (nI nb), .int (nI pa), .int (nI pt), .int (nI off), .int (nI ha), .int (nI n), .ref xw, .ref xo, .ref xh, .int (nI nl), .ref xr, .int (nI ns), .ref xs, .ref xi, .long tr, .int (nI z0), .int u2, .int u3, .long u4, .ref xd, .int (nI nf), .ref xf])), (xt, .inl (cI G, 200, .inl (fI gb))), (xf, .inl (cI G, 40, .inl (fI fa)))] (if tk gb nb (sk gb nb (atM gb nb (sk gb nb (atM gb nb (sk gb nb z0))))) = 6 then 1 else 0) [(x, .inr (4, [.ref xt, .int (nI nb), .int (nI pa), .int (nI pt), .int (nI off), .int (nI ha), .int (nI n), .ref xw, .ref xo, .ref xh, .int (nI nl), .ref xr, .int (nI ns), .ref xs, .ref xi, .long tr, .int (nI (atM gb nb (sk gb nb (atM gb nb (sk gb nb (atM gb nb (sk gb nb z0))))))), .int (nI (sk gb nb (atM gb nb (sk gb nb (atM gb nb (sk gb nb z0)))))), .int (nI (kdM gb nb (sk gb nb (atM gb nb (sk gb nb (atM gb nb (sk gb nb z0))))))), .long (vlM gb nb (sk gb nb (atM gb nb (sk gb nb (atM gb nb (sk gb nb z0)))))), .ref xd, .int (nI (nf + 1)), .ref xf])), (xt, .inl (cI G, 200, .inl (fI gb))), (xf, .inl (cI G, 40, .inl (fI (va_up (va_up fa (2 * nf) (nv gb nb (sk gb nb z0))) (2 * nf + 1) (nv gb nb (sk gb nb (atM gb nb (sk gb nb z0))))))))] := by
  have hP0 := sk_le gb hz0
  have hA0 := atM_le (gb := gb) hP0
  have hK0 := kdM_le gb nb (sk gb nb z0)
  have hP1 := sk_le gb hA0
  have hA1 := atM_le (gb := gb) hP1
  have hK1 := kdM_le gb nb (sk gb nb (atM gb nb (sk gb nb z0)))
  refine CtI.go (cc := cX4_takesFold) (maxL := 2) RX4 rfl (by decide) rfl (Nat.le_of_ble_eq_true rfl) ?_
  intro p e s m args below meth c A Q ls E hw hl hret
  have hx := E.1
  have hb := E.2.1
  have hinX4 : ∀ w ∈ wsX40, w ∈ wsX4_takesFold := (fun w h => List.mem_cons_of_mem _ (List.mem_append_right _ h))
  have hl : lv_has ls 2 [(0, .ref x)] := hl
  refine lv_aload_n hx hb dX4_takesFold_0 rfl (lv_at hl 0 rfl) ?_
  refine x_get E hw (C := RX4) (T := TX4) (N := 23) hinX4 0 rfl rfl 21 (by decide) rfl (List.mem_of_getElem? (i := 1) rfl) dX4_takesFold_1 ?_
  refine lv_bipush (v := (nI 20)) hx hb dX4_takesFold_4 (by decide) ?_
  refine x_icmp_eq E (nI_toI (show nf < 2147483648 by omega)) (nI_toI (by decide)) (tgt := 23) dX4_takesFold_6 (by decide) (fun c_1 => ?_) (fun c_1 => ?_)
  · exfalso; omega
  · refine lv_aload_n hx hb dX4_takesFold_9 rfl (lv_at hl 0 rfl) ?_
    refine lv_iconst (v := (nI 0)) hx hb dX4_takesFold_10 (by decide) ?_
    refine lv_aload_n hx hb dX4_takesFold_11 rfl (lv_at hl 0 rfl) ?_
    refine x_get E hw (C := RX4) (T := TX4) (N := 23) hinX4 0 rfl rfl 21 (by decide) rfl (List.mem_of_getElem? (i := 1) rfl) dX4_takesFold_12 ?_
    refine lv_iconst (v := (nI 2)) hx hb dX4_takesFold_15 (by decide) ?_
    refine x_iadd E (v := (nI (nf + 2))) dX4_takesFold_16 (nI_add _ _) ?_
    refine x_cfVi E hw hl.1 (As := [.int (nI 0), .int (nI (nf + 2))]) (rest := []) (c_X4_takes l G x xt xw xo xh xr xs xi xd xf nb pa pt off ha n nl ns tr 0 u2 u3 u4 (nI nf) gb z0 0 (nf + 2) (by omega) hgb (by omega) (by omega) (by omega)) 2 gX4_takesFold_X4_takes rfl rfl rfl (by decide) ⟨Nat.le_of_ble_eq_true rfl, Nat.le_of_ble_eq_true rfl⟩ ⟨Nat.le_of_ble_eq_true rfl, Nat.le_of_ble_eq_true rfl⟩ rfl 0 (ci := 4) (C := RX4) (T := TX4) (N := 23) rfl rfl [0, 1] [2] rfl rfl rfl rfl rfl [1, 2, 0] [(x, .inr (4, [.ref xt, .int (nI nb), .int (nI pa), .int (nI pt), .int (nI off), .int (nI ha), .int (nI n), .ref xw, .ref xo, .ref xh, .int (nI nl), .ref xr, .int (nI ns), .ref xs, .ref xi, .long tr, .int (nI (atM gb nb (sk gb nb z0))), .int (nI (sk gb nb z0)), .int (nI (kdM gb nb (sk gb nb z0))), .long (vlM gb nb (sk gb nb z0)), .ref xd, .int (nI nf), .ref xf])), (xt, .inl (cI G, 200, .inl (fI gb))), (xf, .inl (cI G, 40, .inl (fI fa)))] rfl rfl rfl (Nat.le_of_ble_eq_true rfl) dX4_takesFold_17 (fun H locs hw => ?_)
    refine x_ifb_ne E (P := tk gb nb (sk gb nb z0) = 5 ∧ 0 ≤ (nv gb nb (sk gb nb z0)) ∧ (nv gb nb (sk gb nb z0)) ≤ (nf + 2)) (tgt := 25) dX4_takesFold_20 (by decide) (fun h5 => ?_) (fun h5 => ?_)
    · have hv5 := (tk5v hgb h5.1).2.2
      refine lv_aload_n hx hb dX4_takesFold_25 rfl (lv_at hl 0 rfl) ?_
      refine x_get E hw (C := RX4) (T := TX4) (N := 23) hinX4 0 rfl rfl 19 (by decide) rfl (List.mem_of_getElem? (i := 2) rfl) dX4_takesFold_26 ?_
      refine x_topl (v := lN (nv gb nb (sk gb nb z0))) (tk5v hgb h5.1).1 ?_
      refine lv_l2i (v := (nI (nv gb nb (sk gb nb z0)))) hx hb dX4_takesFold_29 (lN_i _) ?_
      refine lv_istore_n (lv' := [(1, .int (nI (nv gb nb (sk gb nb z0)))), (0, .ref x)]) hx hb dX4_takesFold_30 rfl hl (by decide) rfl (fun ls hl => ?_)
      refine lv_aload_n hx hb dX4_takesFold_31 rfl (lv_at hl 1 rfl) ?_
      refine lv_iconst (v := (nI 0)) hx hb dX4_takesFold_32 (by decide) ?_
      refine lv_aload_n hx hb dX4_takesFold_33 rfl (lv_at hl 1 rfl) ?_
      refine x_get E hw (C := RX4) (T := TX4) (N := 23) hinX4 0 rfl rfl 21 (by decide) rfl (List.mem_of_getElem? (i := 1) rfl) dX4_takesFold_34 ?_
      refine lv_iconst (v := (nI 2)) hx hb dX4_takesFold_37 (by decide) ?_
      refine x_iadd E (v := (nI (nf + 2))) dX4_takesFold_38 (nI_add _ _) ?_
      refine x_cfVi E hw hl.1 (As := [.int (nI 0), .int (nI (nf + 2))]) (rest := []) (c_X4_takes l G x xt xw xo xh xr xs xi xd xf nb pa pt off ha n nl ns tr 0 (nI (sk gb nb z0)) (nI (kdM gb nb (sk gb nb z0))) (vlM gb nb (sk gb nb z0)) (nI nf) gb (atM gb nb (sk gb nb z0)) 0 (nf + 2) (by omega) hgb (by omega) (by omega) (by omega)) 2 gX4_takesFold_X4_takes rfl rfl rfl (by decide) ⟨Nat.le_of_ble_eq_true rfl, Nat.le_of_ble_eq_true rfl⟩ ⟨Nat.le_of_ble_eq_true rfl, Nat.le_of_ble_eq_true rfl⟩ rfl 0 (ci := 4) (C := RX4) (T := TX4) (N := 23) rfl rfl [0, 1] [2] rfl rfl rfl rfl rfl [1, 2, 0] [(x, .inr (4, [.ref xt, .int (nI nb), .int (nI pa), .int (nI pt), .int (nI off), .int (nI ha), .int (nI n), .ref xw, .ref xo, .ref xh, .int (nI nl), .ref xr, .int (nI ns), .ref xs, .ref xi, .long tr, .int (nI (atM gb nb (sk gb nb (atM gb nb (sk gb nb z0))))), .int (nI (sk gb nb (atM gb nb (sk gb nb z0)))), .int (nI (kdM gb nb (sk gb nb (atM gb nb (sk gb nb z0))))), .long (vlM gb nb (sk gb nb (atM gb nb (sk gb nb z0)))), .ref xd, .int (nI nf), .ref xf])), (xt, .inl (cI G, 200, .inl (fI gb))), (xf, .inl (cI G, 40, .inl (fI fa)))] rfl rfl rfl (Nat.le_of_ble_eq_true rfl) dX4_takesFold_39 (fun H locs hw => ?_)
      refine x_ifb_eq E (P := tk gb nb (sk gb nb (atM gb nb (sk gb nb z0))) = 5 ∧ 0 ≤ (nv gb nb (sk gb nb (atM gb nb (sk gb nb z0)))) ∧ (nv gb nb (sk gb nb (atM gb nb (sk gb nb z0)))) ≤ (nf + 2)) (tgt := 55) dX4_takesFold_42 (by decide) (fun h6 => ?_) (fun h6 => ?_)
      · exact absurd ⟨hok2.1, by omega, by omega⟩ h6
      · have hv6 := (tk5v hgb h6.1).2.2
        refine lv_aload_n hx hb dX4_takesFold_45 rfl (lv_at hl 1 rfl) ?_
        refine x_get E hw (C := RX4) (T := TX4) (N := 23) hinX4 0 rfl rfl 19 (by decide) rfl (List.mem_of_getElem? (i := 2) rfl) dX4_takesFold_46 ?_
        refine x_topl (v := lN (nv gb nb (sk gb nb (atM gb nb (sk gb nb z0))))) (tk5v hgb h6.1).1 ?_
        refine lv_iload_n hx hb dX4_takesFold_49 rfl (lv_at hl 0 rfl) ?_
        refine lv_i2l (v := (lN (nv gb nb (sk gb nb z0)))) hx hb dX4_takesFold_50 (nI_l (by omega)) ?_
        refine x_lc_ne E (lN_toI (show (nv gb nb (sk gb nb (atM gb nb (sk gb nb z0)))) < 9223372036854775808 by omega)) (lN_toI (show (nv gb nb (sk gb nb z0)) < 9223372036854775808 by omega)) (tgt := 57) dX4_takesFold_51 dX4_takesFold_52 (by decide) (fun c_2 => ?_) (fun c_2 => ?_)
        · refine lv_aload_n hx hb dX4_takesFold_57 rfl (lv_at hl 1 rfl) ?_
          refine x_get E hw (C := RX4) (T := TX4) (N := 23) hinX4 0 rfl rfl 22 (by decide) rfl (List.mem_of_getElem? (i := 3) rfl) dX4_takesFold_58 ?_
          refine lv_iconst (v := (nI 2)) hx hb dX4_takesFold_61 (by decide) ?_
          refine lv_aload_n hx hb dX4_takesFold_62 rfl (lv_at hl 1 rfl) ?_
          refine x_get E hw (C := RX4) (T := TX4) (N := 23) hinX4 0 rfl rfl 21 (by decide) rfl (List.mem_of_getElem? (i := 1) rfl) dX4_takesFold_63 ?_
          refine x_imul E (v := (nI (2 * nf))) dX4_takesFold_66 (pk_mul _ _) ?_
          refine lv_iload_n hx hb dX4_takesFold_67 rfl (lv_at hl 0 rfl) ?_
          refine x_iast E hw 2 (a := xf) (ws1 := [(x, .inr (4, [.ref xt, .int (nI nb), .int (nI pa), .int (nI pt), .int (nI off), .int (nI ha), .int (nI n), .ref xw, .ref xo, .ref xh, .int (nI nl), .ref xr, .int (nI ns), .ref xs, .ref xi, .long tr, .int (nI (atM gb nb (sk gb nb (atM gb nb (sk gb nb z0))))), .int (nI (sk gb nb (atM gb nb (sk gb nb z0)))), .int (nI (kdM gb nb (sk gb nb (atM gb nb (sk gb nb z0))))), .long (vlM gb nb (sk gb nb (atM gb nb (sk gb nb z0)))), .ref xd, .int (nI nf), .ref xf])), (xt, .inl (cI G, 200, .inl (fI gb))), (xf, .inl (cI G, 40, .inl (fI (va_up fa (2 * nf) (nv gb nb (sk gb nb z0))))))]) rfl rfl (show 2 * nf < 40 by omega) (by omega) (fI_up _ _ _) rfl dX4_takesFold_68 (fun H locs hw => ?_)
          refine lv_aload_n hx hb dX4_takesFold_69 rfl (lv_at hl 1 rfl) ?_
          refine x_get E hw (C := RX4) (T := TX4) (N := 23) hinX4 0 rfl rfl 22 (by decide) rfl (List.mem_of_getElem? (i := 3) rfl) dX4_takesFold_70 ?_
          refine lv_iconst (v := (nI 2)) hx hb dX4_takesFold_73 (by decide) ?_
          refine lv_aload_n hx hb dX4_takesFold_74 rfl (lv_at hl 1 rfl) ?_
          refine x_get E hw (C := RX4) (T := TX4) (N := 23) hinX4 0 rfl rfl 21 (by decide) rfl (List.mem_of_getElem? (i := 1) rfl) dX4_takesFold_75 ?_
          refine x_imul E (v := (nI (2 * nf))) dX4_takesFold_78 (pk_mul _ _) ?_
          refine lv_iconst (v := (nI 1)) hx hb dX4_takesFold_79 (by decide) ?_
          refine x_iadd E (v := (nI ((2 * nf) + 1))) dX4_takesFold_80 (nI_add _ _) ?_
          refine lv_aload_n hx hb dX4_takesFold_81 rfl (lv_at hl 1 rfl) ?_
          refine x_get E hw (C := RX4) (T := TX4) (N := 23) hinX4 0 rfl rfl 19 (by decide) rfl (List.mem_of_getElem? (i := 2) rfl) dX4_takesFold_82 ?_
          refine x_topl (v := lN (nv gb nb (sk gb nb (atM gb nb (sk gb nb z0))))) (tk5v hgb h6.1).1 ?_
          refine lv_l2i (v := (nI (nv gb nb (sk gb nb (atM gb nb (sk gb nb z0)))))) hx hb dX4_takesFold_85 (lN_i _) ?_
          refine x_iast E hw 2 (a := xf) (ws1 := [(x, .inr (4, [.ref xt, .int (nI nb), .int (nI pa), .int (nI pt), .int (nI off), .int (nI ha), .int (nI n), .ref xw, .ref xo, .ref xh, .int (nI nl), .ref xr, .int (nI ns), .ref xs, .ref xi, .long tr, .int (nI (atM gb nb (sk gb nb (atM gb nb (sk gb nb z0))))), .int (nI (sk gb nb (atM gb nb (sk gb nb z0)))), .int (nI (kdM gb nb (sk gb nb (atM gb nb (sk gb nb z0))))), .long (vlM gb nb (sk gb nb (atM gb nb (sk gb nb z0)))), .ref xd, .int (nI nf), .ref xf])), (xt, .inl (cI G, 200, .inl (fI gb))), (xf, .inl (cI G, 40, .inl (fI (va_up (va_up fa (2 * nf) (nv gb nb (sk gb nb z0))) ((2 * nf) + 1) (nv gb nb (sk gb nb (atM gb nb (sk gb nb z0))))))))]) rfl rfl (show (2 * nf) + 1 < 40 by omega) (by omega) (fI_up _ _ _) rfl dX4_takesFold_86 (fun H locs hw => ?_)
          refine lv_aload_n hx hb dX4_takesFold_87 rfl (lv_at hl 1 rfl) ?_
          refine lv_dup hx hb dX4_takesFold_88 rfl ?_
          refine x_get E hw (C := RX4) (T := TX4) (N := 23) hinX4 0 rfl rfl 21 (by decide) rfl (List.mem_of_getElem? (i := 1) rfl) dX4_takesFold_89 ?_
          refine lv_iconst (v := (nI 1)) hx hb dX4_takesFold_92 (by decide) ?_
          refine x_iadd E (v := (nI (nf + 1))) dX4_takesFold_93 (nI_add _ _) ?_
          refine x_put E hw (C := RX4) (T := TX4) (N := 23) (ws1 := [(x, .inr (4, [.ref xt, .int (nI nb), .int (nI pa), .int (nI pt), .int (nI off), .int (nI ha), .int (nI n), .ref xw, .ref xo, .ref xh, .int (nI nl), .ref xr, .int (nI ns), .ref xs, .ref xi, .long tr, .int (nI (atM gb nb (sk gb nb (atM gb nb (sk gb nb z0))))), .int (nI (sk gb nb (atM gb nb (sk gb nb z0)))), .int (nI (kdM gb nb (sk gb nb (atM gb nb (sk gb nb z0))))), .long (vlM gb nb (sk gb nb (atM gb nb (sk gb nb z0)))), .ref xd, .int (nI (nf + 1)), .ref xf])), (xt, .inl (cI G, 200, .inl (fI gb))), (xf, .inl (cI G, 40, .inl (fI (va_up (va_up fa (2 * nf) (nv gb nb (sk gb nb z0))) ((2 * nf) + 1) (nv gb nb (sk gb nb (atM gb nb (sk gb nb z0))))))))]) hinX4 tyX4_ok nmX4 0 rfl rfl 21 (by decide) (List.mem_of_getElem? (i := 1) rfl) rfl rfl rfl (Nat.le_of_ble_eq_true rfl) rfl dX4_takesFold_94 (fun H locs hw => ?_)
          refine lv_aload_n hx hb dX4_takesFold_97 rfl (lv_at hl 1 rfl) ?_
          refine x_cfVi E hw hl.1 (As := []) (rest := []) (c_X4_stops l G x xt xw xo xh xr xs xi xd xf nb pa pt off ha n nl ns tr 0 (nI (sk gb nb (atM gb nb (sk gb nb z0)))) (nI (kdM gb nb (sk gb nb (atM gb nb (sk gb nb z0))))) (vlM gb nb (sk gb nb (atM gb nb (sk gb nb z0)))) (nI (nf + 1)) gb (atM gb nb (sk gb nb (atM gb nb (sk gb nb z0)))) (by omega) hgb (by omega)) 0 gX4_takesFold_X4_stops rfl rfl rfl (by decide) ⟨Nat.le_of_ble_eq_true rfl, Nat.le_of_ble_eq_true rfl⟩ ⟨Nat.le_of_ble_eq_true rfl, Nat.le_of_ble_eq_true rfl⟩ rfl 0 (ci := 4) (C := RX4) (T := TX4) (N := 23) rfl rfl [0, 1] [2] rfl rfl rfl rfl rfl [1, 2, 0] [(x, .inr (4, [.ref xt, .int (nI nb), .int (nI pa), .int (nI pt), .int (nI off), .int (nI ha), .int (nI n), .ref xw, .ref xo, .ref xh, .int (nI nl), .ref xr, .int (nI ns), .ref xs, .ref xi, .long tr, .int (nI (atM gb nb (sk gb nb (atM gb nb (sk gb nb (atM gb nb (sk gb nb z0))))))), .int (nI (sk gb nb (atM gb nb (sk gb nb (atM gb nb (sk gb nb z0)))))), .int (nI (kdM gb nb (sk gb nb (atM gb nb (sk gb nb (atM gb nb (sk gb nb z0))))))), .long (vlM gb nb (sk gb nb (atM gb nb (sk gb nb (atM gb nb (sk gb nb z0)))))), .ref xd, .int (nI (nf + 1)), .ref xf])), (xt, .inl (cI G, 200, .inl (fI gb))), (xf, .inl (cI G, 40, .inl (fI (va_up (va_up fa (2 * nf) (nv gb nb (sk gb nb z0))) ((2 * nf) + 1) (nv gb nb (sk gb nb (atM gb nb (sk gb nb z0))))))))] rfl rfl rfl (Nat.le_of_ble_eq_true rfl) dX4_takesFold_98 (fun H locs hw => ?_)
          exact hret (if tk gb nb (sk gb nb (atM gb nb (sk gb nb (atM gb nb (sk gb nb z0))))) = 6 then 1 else 0) () _ _ _ _ dX4_takesFold_101 x_narZ rfl hw
        · exfalso; omega
    · exact absurd ⟨hok.1, by omega, by omega⟩ h5
