abbrev rm_X4_strip_no : Room := { frames := 5, cells := 0, slots := 0, locals := 108 }
set_option maxHeartbeats 4000000 in
set_option maxRecDepth 100000 in
theorem c_X4_strip_no (l : Launch) (G : XG) (x : Nat) (xt : Nat) (xw : Nat) (xo : Nat) (xh : Nat) (xr : Nat) (xs : Nat) (xi : Nat) (xd : Nat) (xf : Nat) (nb : Nat) (pa : Nat) (pt : Nat) (off : Nat) (ha : Nat) (n : Nat) (nl : Nat) (ns : Nat) (tr : Int64) (u1 : Int32) (u2 : Int32) (u3 : Int32) (u4 : Int64) (u5 : Int32) (gb : Nat → Nat) (t0 : Nat → Nat) (fa : Nat → Nat) (pf : Nat) (hN : nb ≤ 200) (hgb : ∀ q, gb q < 256) (ht : ∀ j, t0 j ≤ 100) (hfin : finR gb nb = .inl pf) : CtI l yX4_strip wsX4_strip rm_X4_strip_no G [.ref x] [(x, .inr (4, [.ref xt, .int (nI nb), .int (nI pa), .int (nI pt), .int (nI off), .int (nI ha), .int (nI n), .ref xw, .ref xo, .ref xh, .int (nI nl), .ref xr, .int (nI ns), .ref xs, .ref xi, .long tr, .int u1, .int u2, .int u3, .long u4, .ref xd, .int u5, .ref xf])), (xt, .inl (cI G, 200, .inl (fI gb))), (xd, .inl (cI G, 4, .inl ((tA t0)))), (xf, .inl (cI G, 40, .inl (fI fa)))] (S := Nat × Nat × Nat × Int64 × Nat × (Nat → Nat) × (Nat → Nat)) (fun r u => r = (-10 : Int32) - nI pf ∧ ∀ j, u.2.2.2.2.2.1 j ≤ 100) (fun u => [(x, .inr (4, [.ref xt, .int (nI nb), .int (nI pa), .int (nI pt), .int (nI off), .int (nI ha), .int (nI n), .ref xw, .ref xo, .ref xh, .int (nI nl), .ref xr, .int (nI ns), .ref xs, .ref xi, .long tr, .int (nI u.1), .int (nI u.2.1), .int (nI u.2.2.1), .long u.2.2.2.1, .ref xd, .int (nI u.2.2.2.2.1), .ref xf])), (xt, .inl (cI G, 200, .inl (fI gb))), (xd, .inl (cI G, 4, .inl ((tA u.2.2.2.2.2.1)))), (xf, .inl (cI G, 40, .inl (fI u.2.2.2.2.2.2)))]) := by
  refine CtI.go (cc := cX4_strip) (maxL := 3) RX4 rfl (by decide) rfl (Nat.le_of_ble_eq_true rfl) ?_
  intro p e s m args below meth c A Q ls E hw hl hret
  have hx := E.1
  have hb := E.2.1
  have hinX4 : ∀ w ∈ wsX40, w ∈ wsX4_strip := (fun w h => List.mem_cons_of_mem _ (List.mem_append_right _ h))
  have hl : lv_has ls 3 [(0, .ref x)] := hl
  refine lv_aload_n hx hb dX4_strip_0 rfl (lv_at hl 0 rfl) ?_
  refine x_calliV E hw hl.1 (As := []) (rest := []) (c_X4_takesAll l G x xt xw xo xh xr xs xi xd xf nb pa pt off ha n nl ns tr u1 u2 u3 u4 u5 gb t0 fa (by omega) hgb ht) 0 gX4_strip_X4_takesAll rfl rfl rfl (by decide) ⟨Nat.le_of_ble_eq_true rfl, Nat.le_of_ble_eq_true rfl⟩ ⟨Nat.le_of_ble_eq_true rfl, Nat.le_of_ble_eq_true rfl⟩ rfl 0 (ci := 4) (C := RX4) (T := TX4) (N := 23) rfl rfl [0, 1, 2, 3] [] rfl rfl rfl rfl rfl [0, 1, 2, 3] (fun u => [(x, .inr (4, [.ref xt, .int (nI nb), .int (nI pa), .int (nI pt), .int (nI off), .int (nI ha), .int (nI n), .ref xw, .ref xo, .ref xh, .int (nI nl), .ref xr, .int (nI ns), .ref xs, .ref xi, .long tr, .int (nI u.1), .int (nI u.2.1), .int (nI u.2.2.1), .long u.2.2.2.1, .ref xd, .int (nI u.2.2.2.2.1), .ref xf])), (xt, .inl (cI G, 200, .inl (fI gb))), (xd, .inl (cI G, 4, .inl ((tA u.2.2.2.2.2.1)))), (xf, .inl (cI G, 40, .inl (fI u.2.2.2.2.2.2)))]) rfl (fun _ => rfl) rfl (Nat.le_of_ble_eq_true rfl) dX4_strip_1 (fun r_2 u_1 H locs hp_3 hw => ?_)
  obtain ⟨k1_4, k2_5, k3_6, k4_7, n5_8, tt_9, f5_10⟩ := u_1
  have hw : Wd G s A [(x, .inr (4, [.ref xt, .int (nI nb), .int (nI pa), .int (nI pt), .int (nI off), .int (nI ha), .int (nI n), .ref xw, .ref xo, .ref xh, .int (nI nl), .ref xr, .int (nI ns), .ref xs, .ref xi, .long tr, .int (nI k1_4), .int (nI k2_5), .int (nI k3_6), .long k4_7, .ref xd, .int (nI n5_8), .ref xf])), (xt, .inl (cI G, 200, .inl (fI gb))), (xd, .inl (cI G, 4, .inl ((tA tt_9)))), (xf, .inl (cI G, 40, .inl (fI f5_10)))] H locs := hw
  dsimp only at hp_3
  have hfc : k2_5 = pf ∧ r_2 = -1 ∧ k2_5 ≤ 200 := by
    rcases hp_3.1 with ⟨t2, ff2, it2, hr1, -⟩ | ⟨hr1, hr2, hr3⟩
    · rw [hfin] at hr1; cases hr1
    · rw [hfin] at hr1; exact ⟨(Sum.inl.inj hr1).symm, hr2, hr3⟩
  obtain ⟨hf1, hf2, hf3⟩ := hfc
  have hle5 := hp_3.2
  refine x_topi (v := (-1 : Int32)) hf2 ?_
  refine lv_istore_n (lv' := [(1, .int (-1 : Int32)), (0, .ref x)]) hx hb dX4_strip_4 rfl hl (by decide) rfl (fun ls hl => ?_)
  refine lv_iload_n hx hb dX4_strip_5 rfl (lv_at hl 0 rfl) ?_
  refine x_if_ge E (show ((-1 : Int32)).toInt = -1 by decide) (tgt := 17) dX4_strip_6 (by decide) (fun c_11 => ?_) (fun c_11 => ?_)
  · exact absurd c_11 (by decide)
  · refine lv_bipush (v := (-10 : Int32)) hx hb dX4_strip_9 (by decide) ?_
    refine lv_aload_n hx hb dX4_strip_11 rfl (lv_at hl 1 rfl) ?_
    refine x_get E hw (C := RX4) (T := TX4) (N := 23) hinX4 0 rfl rfl 17 (by decide) rfl (List.mem_of_getElem? (i := 1) rfl) dX4_strip_12 ?_
    refine x_isub E (v := ((-10 : Int32) - (nI k2_5))) dX4_strip_15 rfl ?_
    exact hret ((-10 : Int32) - (nI k2_5)) (k1_4, k2_5, k3_6, k4_7, n5_8, tt_9, f5_10) _ _ _ _ dX4_strip_16 rfl (⟨by rw [hf1], hle5⟩) hw

abbrev rm_X4_strip_ok : Room := { frames := 5, cells := 0, slots := 0, locals := 108 }
set_option maxHeartbeats 4000000 in
set_option maxRecDepth 100000 in
theorem c_X4_strip_ok (l : Launch) (G : XG) (x : Nat) (xt : Nat) (xw : Nat) (xo : Nat) (xh : Nat) (xr : Nat) (xs : Nat) (xi : Nat) (xd : Nat) (xf : Nat) (nb : Nat) (pa : Nat) (pt : Nat) (off : Nat) (ha : Nat) (n : Nat) (nl : Nat) (ns : Nat) (tr : Int64) (u1 : Int32) (u2 : Int32) (u3 : Int32) (u4 : Int64) (u5 : Int32) (gb : Nat → Nat) (t0 : Nat → Nat) (fa : Nat → Nat) (gw : Nat → Nat) (go : Nat → Nat) (gh : Nat → Nat) (gi : Nat → Nat) (t : Nat → Nat) (ff : Nat → Nat) (nf : Nat) (it : Nat) (hN : nb ≤ 200) (hgb : ∀ q, gb q < 256) (ht : ∀ j, t0 j ≤ 100) (hfin : finR gb nb = .inr (t, nf, ff, it)) (hW : BdW gw) (hO : BdW go) (hH : BdH gh) : CtI l yX4_strip wsX4_strip rm_X4_strip_ok G [.ref x] [(x, .inr (4, [.ref xt, .int (nI nb), .int (nI pa), .int (nI pt), .int (nI off), .int (nI ha), .int (nI n), .ref xw, .ref xo, .ref xh, .int (nI nl), .ref xr, .int (nI ns), .ref xs, .ref xi, .long tr, .int u1, .int u2, .int u3, .long u4, .ref xd, .int u5, .ref xf])), (xt, .inl (cI G, 200, .inl (fI gb))), (xd, .inl (cI G, 4, .inl ((tA t0)))), (xf, .inl (cI G, 40, .inl (fI fa))), (xw, .inl (cJ G, 23, .inr (.inl (fJ gw)))), (xo, .inl (cJ G, 23, .inr (.inl (fJ go)))), (xh, .inl (cJ G, 23, .inr (.inl (fJ gh)))), (xi, .inl (cJ G, 200, .inr (.inl (fJ gi))))] (S := Nat × Nat × Nat × Int64 × Nat × (Nat → Nat) × (Nat → Nat)) (fun r u => r = nI it ∧ ∀ j, u.2.2.2.2.2.1 j ≤ 100) (fun u => [(x, .inr (4, [.ref xt, .int (nI 0), .int (nI (pvT t)), .int (nI (pv1 t)), .int (nI (t 2 - 1)), .int (nI (t 3 - 1)), .int (nI (3 + nf)), .ref xw, .ref xo, .ref xh, .int (nI 0), .ref xr, .int (nI 0), .ref xs, .ref xi, .long tr, .int (nI u.1), .int (nI u.2.1), .int (nI u.2.2.1), .long u.2.2.2.1, .ref xd, .int (nI u.2.2.2.2.1), .ref xf])), (xt, .inl (cI G, 200, .inl (fI gb))), (xd, .inl (cI G, 4, .inl ((tA u.2.2.2.2.2.1)))), (xf, .inl (cI G, 40, .inl (fI u.2.2.2.2.2.2))), (xw, .inl (cJ G, 23, .inr (.inl (fJ (fdW ff (begW (pvT t) (pv1 t) gw) nf))))), (xo, .inl (cJ G, 23, .inr (.inl (fJ (fdW ff (begO go) nf))))), (xh, .inl (cJ G, 23, .inr (.inl (fJ (fdH ff (begH gh) nf))))), (xi, .inl (cJ G, 200, .inr (.inl (fJ (va_up (va_up gi 0 0) 100 0)))))]) := by
  obtain ⟨hG1, hG2⟩ := finR_good hfin
  have htle : ∀ j, j < 4 → t j ≤ 100 := fun j hj => by
    have h0 : t 0 ≤ 100 := by have := hG1.2.1; unfold pvT at this; split at this <;> omega
    have h1 : t 1 ≤ 100 := by have a1 := hG1.2.1; have a2 := hG1.2.2.2.2.1; unfold pv1 at a2; split at a2 <;> omega
    rcases (show j = 0 ∨ j = 1 ∨ j = 2 ∨ j = 3 by omega) with rfl | rfl | rfl | rfl <;> omega
  refine CtI.go (cc := cX4_strip) (maxL := 3) RX4 rfl (by decide) rfl (Nat.le_of_ble_eq_true rfl) ?_
  intro p e s m args below meth c A Q ls E hw hl hret
  have hx := E.1
  have hb := E.2.1
  have hinX4 : ∀ w ∈ wsX40, w ∈ wsX4_strip := (fun w h => List.mem_cons_of_mem _ (List.mem_append_right _ h))
  have hl : lv_has ls 3 [(0, .ref x)] := hl
  refine lv_aload_n hx hb dX4_strip_0 rfl (lv_at hl 0 rfl) ?_
  refine x_calliV E hw hl.1 (As := []) (rest := []) (c_X4_takesAll l G x xt xw xo xh xr xs xi xd xf nb pa pt off ha n nl ns tr u1 u2 u3 u4 u5 gb t0 fa (by omega) hgb ht) 0 gX4_strip_X4_takesAll rfl rfl rfl (by decide) ⟨Nat.le_of_ble_eq_true rfl, Nat.le_of_ble_eq_true rfl⟩ ⟨Nat.le_of_ble_eq_true rfl, Nat.le_of_ble_eq_true rfl⟩ rfl 0 (ci := 4) (C := RX4) (T := TX4) (N := 23) rfl rfl [0, 1, 2, 3] [4, 5, 6, 7] rfl rfl rfl rfl rfl [4, 5, 6, 7, 0, 1, 2, 3] (fun u => [(x, .inr (4, [.ref xt, .int (nI nb), .int (nI pa), .int (nI pt), .int (nI off), .int (nI ha), .int (nI n), .ref xw, .ref xo, .ref xh, .int (nI nl), .ref xr, .int (nI ns), .ref xs, .ref xi, .long tr, .int (nI u.1), .int (nI u.2.1), .int (nI u.2.2.1), .long u.2.2.2.1, .ref xd, .int (nI u.2.2.2.2.1), .ref xf])), (xt, .inl (cI G, 200, .inl (fI gb))), (xd, .inl (cI G, 4, .inl ((tA u.2.2.2.2.2.1)))), (xf, .inl (cI G, 40, .inl (fI u.2.2.2.2.2.2))), (xw, .inl (cJ G, 23, .inr (.inl (fJ gw)))), (xo, .inl (cJ G, 23, .inr (.inl (fJ go)))), (xh, .inl (cJ G, 23, .inr (.inl (fJ gh)))), (xi, .inl (cJ G, 200, .inr (.inl (fJ gi))))]) rfl (fun _ => rfl) rfl (Nat.le_of_ble_eq_true rfl) dX4_strip_1 (fun r_2 u_1 H locs hp_3 hw => ?_)
  obtain ⟨k1_4, k2_5, k3_6, k4_7, n5_8, tt_9, f5_10⟩ := u_1
  have hw : Wd G s A [(x, .inr (4, [.ref xt, .int (nI nb), .int (nI pa), .int (nI pt), .int (nI off), .int (nI ha), .int (nI n), .ref xw, .ref xo, .ref xh, .int (nI nl), .ref xr, .int (nI ns), .ref xs, .ref xi, .long tr, .int (nI k1_4), .int (nI k2_5), .int (nI k3_6), .long k4_7, .ref xd, .int (nI n5_8), .ref xf])), (xt, .inl (cI G, 200, .inl (fI gb))), (xd, .inl (cI G, 4, .inl ((tA tt_9)))), (xf, .inl (cI G, 40, .inl (fI f5_10))), (xw, .inl (cJ G, 23, .inr (.inl (fJ gw)))), (xo, .inl (cJ G, 23, .inr (.inl (fJ go)))), (xh, .inl (cJ G, 23, .inr (.inl (fJ gh)))), (xi, .inl (cJ G, 200, .inr (.inl (fJ gi))))] H locs := hw
  dsimp only at hp_3
  have hfc : nf = n5_8 ∧ r_2 = nI it ∧ it ≤ 200 ∧ (∀ j, j < 4 → tt_9 j = t j) ∧ ∀ j, j < 2 * nf → f5_10 j = ff j := by
    rcases hp_3.1 with ⟨t2, ff2, it2, hr1, hr2, hr3, hr4, hr5⟩ | ⟨hr1, hr2, hr3⟩
    · rw [hfin] at hr1
      have hi := Sum.inr.inj hr1
      have e1 := congrArg Prod.fst hi
      have e2 := congrArg (fun q => q.2.1) hi
      have e3 := congrArg (fun q => q.2.2.1) hi
      have e4 := congrArg (fun q => q.2.2.2) hi
      dsimp only at e1 e2 e3 e4
      subst e1 e3 e4
      exact ⟨e2, hr2, hr3, hr4, fun j hj => hr5 j (by omega)⟩
    · rw [hfin] at hr1; cases hr1
  obtain ⟨hf1, hf2, hf3, hf4, hf5⟩ := hfc
  have hle5 := hp_3.2
  subst hf1
  have htt : ∀ j, tt_9 j ≤ 100 ∨ 4 ≤ j := fun j => by rcases Nat.lt_or_ge j 4 with a | a; exact Or.inl (by rw [hf4 j a]; exact htle j a); exact Or.inr a
  have hz0 : tt_9 0 = t 0 := hf4 0 (by decide)
  have hz1 : tt_9 1 = t 1 := hf4 1 (by decide)
  have hz2 : tt_9 2 = t 2 := hf4 2 (by decide)
  have hz3 : tt_9 3 = t 3 := hf4 3 (by decide)
  have hb0 := htle 0 (by decide)
  have hb1 := htle 1 (by decide)
  have hb2 := htle 2 (by decide)
  have hb3 := htle 3 (by decide)
  have hpt : pvT tt_9 = pvT t := by unfold pvT; rw [hz0]
  refine x_topi (v := nI it) hf2 ?_
  refine lv_istore_n (lv' := [(1, .int (nI it)), (0, .ref x)]) hx hb dX4_strip_4 rfl hl (by decide) rfl (fun ls hl => ?_)
  refine lv_iload_n hx hb dX4_strip_5 rfl (lv_at hl 0 rfl) ?_
  refine x_if_ge E (nI_toI (show it < 2147483648 by omega)) (tgt := 17) dX4_strip_6 (by decide) (fun c_11 => ?_) (fun c_11 => ?_)
  · refine lv_aload_n hx hb dX4_strip_17 rfl (lv_at hl 1 rfl) ?_
    refine lv_aload_n hx hb dX4_strip_18 rfl (lv_at hl 1 rfl) ?_
    refine x_cfVi E hw hl.1 (As := []) (rest := [.ref x]) (c_X4_readParts l G x xt xw xo xh xr xs xi xd xf nb pa pt off ha n nl ns tr (nI k1_4) (nI k2_5) (nI k3_6) k4_7 (nI nf) tt_9 (by omega)) 0 gX4_strip_X4_readParts rfl rfl rfl (by decide) ⟨Nat.le_of_ble_eq_true rfl, Nat.le_of_ble_eq_true rfl⟩ ⟨Nat.le_of_ble_eq_true rfl, Nat.le_of_ble_eq_true rfl⟩ rfl 0 (ci := 4) (C := RX4) (T := TX4) (N := 23) rfl rfl [0, 2] [1, 3, 4, 5, 6, 7] rfl rfl rfl rfl rfl [6, 0, 7, 1, 2, 3, 4, 5] [(x, .inr (4, [.ref xt, .int (nI nb), .int (nI pa), .int (nI pt), .int (nI off), .int (nI ha), .int (nI n), .ref xw, .ref xo, .ref xh, .int (nI nl), .ref xr, .int (nI ns), .ref xs, .ref xi, .long tr, .int (nI k1_4), .int (nI k2_5), .int (nI k3_6), .long k4_7, .ref xd, .int (nI nf), .ref xf])), (xt, .inl (cI G, 200, .inl (fI gb))), (xd, .inl (cI G, 4, .inl ((tA tt_9)))), (xf, .inl (cI G, 40, .inl (fI f5_10))), (xw, .inl (cJ G, 23, .inr (.inl (fJ gw)))), (xo, .inl (cJ G, 23, .inr (.inl (fJ go)))), (xh, .inl (cJ G, 23, .inr (.inl (fJ gh)))), (xi, .inl (cJ G, 200, .inr (.inl (fJ gi))))] rfl rfl rfl (Nat.le_of_ble_eq_true rfl) dX4_strip_19 (fun H locs hw => ?_)
    refine x_topi (v := nI (pvT t)) (by rw [hpt]) ?_
    refine x_put E hw (C := RX4) (T := TX4) (N := 23) (ws1 := [(x, .inr (4, [.ref xt, .int (nI nb), .int (nI (pvT t)), .int (nI pt), .int (nI off), .int (nI ha), .int (nI n), .ref xw, .ref xo, .ref xh, .int (nI nl), .ref xr, .int (nI ns), .ref xs, .ref xi, .long tr, .int (nI k1_4), .int (nI k2_5), .int (nI k3_6), .long k4_7, .ref xd, .int (nI nf), .ref xf])), (xt, .inl (cI G, 200, .inl (fI gb))), (xd, .inl (cI G, 4, .inl ((tA tt_9)))), (xf, .inl (cI G, 40, .inl (fI f5_10))), (xw, .inl (cJ G, 23, .inr (.inl (fJ gw)))), (xo, .inl (cJ G, 23, .inr (.inl (fJ go)))), (xh, .inl (cJ G, 23, .inr (.inl (fJ gh)))), (xi, .inl (cJ G, 200, .inr (.inl (fJ gi))))]) hinX4 tyX4_ok nmX4 0 rfl rfl 2 (by decide) (List.mem_of_getElem? (i := 2) rfl) rfl rfl rfl (Nat.le_of_ble_eq_true rfl) rfl dX4_strip_22 (fun H locs hw => ?_)
    refine lv_aload_n hx hb dX4_strip_25 rfl (lv_at hl 1 rfl) ?_
    have cut_45 : ∀ (H : Heap) (locs : List Loc) (ls : Array Slot), Wd G s A [(x, .inr (4, [.ref xt, .int (nI nb), .int (nI (pvT t)), .int (nI pt), .int (nI off), .int (nI ha), .int (nI n), .ref xw, .ref xo, .ref xh, .int (nI nl), .ref xr, .int (nI ns), .ref xs, .ref xi, .long tr, .int (nI k1_4), .int (nI k2_5), .int (nI k3_6), .long k4_7, .ref xd, .int (nI nf), .ref xf])), (xt, .inl (cI G, 200, .inl (fI gb))), (xd, .inl (cI G, 4, .inl ((tA tt_9)))), (xf, .inl (cI G, 40, .inl (fI f5_10))), (xw, .inl (cJ G, 23, .inr (.inl (fJ gw)))), (xo, .inl (cJ G, 23, .inr (.inl (fJ go)))), (xh, .inl (cJ G, 23, .inr (.inl (fJ gh)))), (xi, .inl (cJ G, 200, .inr (.inl (fJ gi))))] H locs → lv_has ls 3 [(1, .int (nI it)), (0, .ref x)] → W p l e rm_X4_strip_ok s m args below meth c H locs 0 0 Q (F0 m 45 ls [.int (nI (pv1 t)), .ref x]) := by
      intro H locs ls hw hl
      refine x_put E hw (C := RX4) (T := TX4) (N := 23) (ws1 := [(x, .inr (4, [.ref xt, .int (nI nb), .int (nI (pvT t)), .int (nI (pv1 t)), .int (nI off), .int (nI ha), .int (nI n), .ref xw, .ref xo, .ref xh, .int (nI nl), .ref xr, .int (nI ns), .ref xs, .ref xi, .long tr, .int (nI k1_4), .int (nI k2_5), .int (nI k3_6), .long k4_7, .ref xd, .int (nI nf), .ref xf])), (xt, .inl (cI G, 200, .inl (fI gb))), (xd, .inl (cI G, 4, .inl ((tA tt_9)))), (xf, .inl (cI G, 40, .inl (fI f5_10))), (xw, .inl (cJ G, 23, .inr (.inl (fJ gw)))), (xo, .inl (cJ G, 23, .inr (.inl (fJ go)))), (xh, .inl (cJ G, 23, .inr (.inl (fJ gh)))), (xi, .inl (cJ G, 200, .inr (.inl (fJ gi))))]) hinX4 tyX4_ok nmX4 0 rfl rfl 3 (by decide) (List.mem_of_getElem? (i := 4) rfl) rfl rfl rfl (Nat.le_of_ble_eq_true rfl) rfl dX4_strip_45 (fun H locs hw => ?_)
      refine lv_aload_n hx hb dX4_strip_48 rfl (lv_at hl 1 rfl) ?_
      have cut_68 : ∀ (H : Heap) (locs : List Loc) (ls : Array Slot), Wd G s A [(x, .inr (4, [.ref xt, .int (nI nb), .int (nI (pvT t)), .int (nI (pv1 t)), .int (nI off), .int (nI ha), .int (nI n), .ref xw, .ref xo, .ref xh, .int (nI nl), .ref xr, .int (nI ns), .ref xs, .ref xi, .long tr, .int (nI k1_4), .int (nI k2_5), .int (nI k3_6), .long k4_7, .ref xd, .int (nI nf), .ref xf])), (xt, .inl (cI G, 200, .inl (fI gb))), (xd, .inl (cI G, 4, .inl ((tA tt_9)))), (xf, .inl (cI G, 40, .inl (fI f5_10))), (xw, .inl (cJ G, 23, .inr (.inl (fJ gw)))), (xo, .inl (cJ G, 23, .inr (.inl (fJ go)))), (xh, .inl (cJ G, 23, .inr (.inl (fJ gh)))), (xi, .inl (cJ G, 200, .inr (.inl (fJ gi))))] H locs → lv_has ls 3 [(1, .int (nI it)), (0, .ref x)] → W p l e rm_X4_strip_ok s m args below meth c H locs 0 0 Q (F0 m 68 ls [.int (nI (t 2 - 1)), .ref x]) := by
        intro H locs ls hw hl
        refine x_put E hw (C := RX4) (T := TX4) (N := 23) (ws1 := [(x, .inr (4, [.ref xt, .int (nI nb), .int (nI (pvT t)), .int (nI (pv1 t)), .int (nI (t 2 - 1)), .int (nI ha), .int (nI n), .ref xw, .ref xo, .ref xh, .int (nI nl), .ref xr, .int (nI ns), .ref xs, .ref xi, .long tr, .int (nI k1_4), .int (nI k2_5), .int (nI k3_6), .long k4_7, .ref xd, .int (nI nf), .ref xf])), (xt, .inl (cI G, 200, .inl (fI gb))), (xd, .inl (cI G, 4, .inl ((tA tt_9)))), (xf, .inl (cI G, 40, .inl (fI f5_10))), (xw, .inl (cJ G, 23, .inr (.inl (fJ gw)))), (xo, .inl (cJ G, 23, .inr (.inl (fJ go)))), (xh, .inl (cJ G, 23, .inr (.inl (fJ gh)))), (xi, .inl (cJ G, 200, .inr (.inl (fJ gi))))]) hinX4 tyX4_ok nmX4 0 rfl rfl 4 (by decide) (List.mem_of_getElem? (i := 5) rfl) rfl rfl rfl (Nat.le_of_ble_eq_true rfl) rfl dX4_strip_68 (fun H locs hw => ?_)
        refine lv_aload_n hx hb dX4_strip_71 rfl (lv_at hl 1 rfl) ?_
        have cut_91 : ∀ (H : Heap) (locs : List Loc) (ls : Array Slot), Wd G s A [(x, .inr (4, [.ref xt, .int (nI nb), .int (nI (pvT t)), .int (nI (pv1 t)), .int (nI (t 2 - 1)), .int (nI ha), .int (nI n), .ref xw, .ref xo, .ref xh, .int (nI nl), .ref xr, .int (nI ns), .ref xs, .ref xi, .long tr, .int (nI k1_4), .int (nI k2_5), .int (nI k3_6), .long k4_7, .ref xd, .int (nI nf), .ref xf])), (xt, .inl (cI G, 200, .inl (fI gb))), (xd, .inl (cI G, 4, .inl ((tA tt_9)))), (xf, .inl (cI G, 40, .inl (fI f5_10))), (xw, .inl (cJ G, 23, .inr (.inl (fJ gw)))), (xo, .inl (cJ G, 23, .inr (.inl (fJ go)))), (xh, .inl (cJ G, 23, .inr (.inl (fJ gh)))), (xi, .inl (cJ G, 200, .inr (.inl (fJ gi))))] H locs → lv_has ls 3 [(1, .int (nI it)), (0, .ref x)] → W p l e rm_X4_strip_ok s m args below meth c H locs 0 0 Q (F0 m 91 ls [.int (nI (t 3 - 1)), .ref x]) := by
          intro H locs ls hw hl
          refine x_put E hw (C := RX4) (T := TX4) (N := 23) (ws1 := [(x, .inr (4, [.ref xt, .int (nI nb), .int (nI (pvT t)), .int (nI (pv1 t)), .int (nI (t 2 - 1)), .int (nI (t 3 - 1)), .int (nI n), .ref xw, .ref xo, .ref xh, .int (nI nl), .ref xr, .int (nI ns), .ref xs, .ref xi, .long tr, .int (nI k1_4), .int (nI k2_5), .int (nI k3_6), .long k4_7, .ref xd, .int (nI nf), .ref xf])), (xt, .inl (cI G, 200, .inl (fI gb))), (xd, .inl (cI G, 4, .inl ((tA tt_9)))), (xf, .inl (cI G, 40, .inl (fI f5_10))), (xw, .inl (cJ G, 23, .inr (.inl (fJ gw)))), (xo, .inl (cJ G, 23, .inr (.inl (fJ go)))), (xh, .inl (cJ G, 23, .inr (.inl (fJ gh)))), (xi, .inl (cJ G, 200, .inr (.inl (fJ gi))))]) hinX4 tyX4_ok nmX4 0 rfl rfl 5 (by decide) (List.mem_of_getElem? (i := 6) rfl) rfl rfl rfl (Nat.le_of_ble_eq_true rfl) rfl dX4_strip_91 (fun H locs hw => ?_)
          refine lv_aload_n hx hb dX4_strip_94 rfl (lv_at hl 1 rfl) ?_
          refine x_cfVv E hw hl.1 (As := []) (rest := []) (c_X4_begin l G x xt xw xo xh xr xs xi xd xf nb (pvT t) (pv1 t) (t 2 - 1) (t 3 - 1) n nl ns tr (nI k1_4) (nI k2_5) (nI k3_6) k4_7 (nI nf) gw go gh (by omega) (by omega)) 0 gX4_strip_X4_begin rfl rfl rfl (by decide) ⟨Nat.le_of_ble_eq_true rfl, Nat.le_of_ble_eq_true rfl⟩ ⟨Nat.le_of_ble_eq_true rfl, Nat.le_of_ble_eq_true rfl⟩ rfl 0 (ci := 4) (C := RX4) (T := TX4) (N := 23) rfl rfl [0, 4, 5, 6] [1, 2, 3, 7] rfl rfl rfl rfl rfl [4, 0, 1, 2, 5, 6, 7, 3] [(x, .inr (4, [.ref xt, .int (nI nb), .int (nI (pvT t)), .int (nI (pv1 t)), .int (nI (t 2 - 1)), .int (nI (t 3 - 1)), .int (nI 3), .ref xw, .ref xo, .ref xh, .int (nI nl), .ref xr, .int (nI ns), .ref xs, .ref xi, .long tr, .int (nI k1_4), .int (nI k2_5), .int (nI k3_6), .long k4_7, .ref xd, .int (nI nf), .ref xf])), (xt, .inl (cI G, 200, .inl (fI gb))), (xd, .inl (cI G, 4, .inl ((tA tt_9)))), (xf, .inl (cI G, 40, .inl (fI f5_10))), (xw, .inl (cJ G, 23, .inr (.inl (fJ (begW (pvT t) (pv1 t) gw))))), (xo, .inl (cJ G, 23, .inr (.inl (fJ (begO go))))), (xh, .inl (cJ G, 23, .inr (.inl (fJ (begH gh))))), (xi, .inl (cJ G, 200, .inr (.inl (fJ gi))))] rfl rfl rfl (Nat.le_of_ble_eq_true rfl) dX4_strip_95 (fun H locs hw => ?_)
          refine lv_iconst (v := (nI 0)) hx hb dX4_strip_98 (by decide) ?_
          refine lv_istore_n (lv' := [(2, .int (nI 0)), (1, .int (nI it)), (0, .ref x)]) hx hb dX4_strip_99 rfl hl (by decide) rfl (fun ls hl => ?_)
          have loop_100 : ∀ (fu : Nat) (i : Nat), i ≤ nf → nf - i < fu → ∀ (H : Heap) (locs : List Loc) (ls : Array Slot), Wd G s A [(x, .inr (4, [.ref xt, .int (nI nb), .int (nI (pvT t)), .int (nI (pv1 t)), .int (nI (t 2 - 1)), .int (nI (t 3 - 1)), .int (nI (3 + i)), .ref xw, .ref xo, .ref xh, .int (nI nl), .ref xr, .int (nI ns), .ref xs, .ref xi, .long tr, .int (nI k1_4), .int (nI k2_5), .int (nI k3_6), .long k4_7, .ref xd, .int (nI nf), .ref xf])), (xt, .inl (cI G, 200, .inl (fI gb))), (xd, .inl (cI G, 4, .inl ((tA tt_9)))), (xf, .inl (cI G, 40, .inl (fI f5_10))), (xw, .inl (cJ G, 23, .inr (.inl (fJ (fdW ff (begW (pvT t) (pv1 t) gw) i))))), (xo, .inl (cJ G, 23, .inr (.inl (fJ (fdW ff (begO go) i))))), (xh, .inl (cJ G, 23, .inr (.inl (fJ (fdH ff (begH gh) i))))), (xi, .inl (cJ G, 200, .inr (.inl (fJ gi))))] H locs → lv_has ls 3 [(0, .ref x), (1, .int (nI it)), (2, .int (nI i))] → W p l e rm_X4_strip_ok s m args below meth c H locs 0 0 Q (F0 m 100 ls []) := by
            intro fu
            induction fu with
            | zero =>
              intro i hi hmu
              exact absurd hmu (Nat.not_lt_zero _)
            | succ fu ih_100 =>
              intro i hi hmu_100 H locs ls hw hl
              refine lv_iload_n hx hb dX4_strip_100 rfl (lv_at hl 2 rfl) ?_
              refine lv_aload_n hx hb dX4_strip_101 rfl (lv_at hl 0 rfl) ?_
              refine x_get E hw (C := RX4) (T := TX4) (N := 23) hinX4 0 rfl rfl 21 (by decide) rfl (List.mem_of_getElem? (i := 7) rfl) dX4_strip_102 ?_
              refine x_icmp_ge E (nI_toI (show i < 2147483648 by omega)) (nI_toI (show nf < 2147483648 by omega)) (tgt := 136) dX4_strip_105 (by decide) (fun c_12 => ?_) (fun c_12 => ?_)
              · have hie : i = nf := by omega
                rw [hie] at hw
                refine lv_aload_n hx hb dX4_strip_136 rfl (lv_at hl 0 rfl) ?_
                refine lv_iconst (v := (nI 0)) hx hb dX4_strip_137 (by decide) ?_
                refine x_put E hw (C := RX4) (T := TX4) (N := 23) (ws1 := [(x, .inr (4, [.ref xt, .int (nI nb), .int (nI (pvT t)), .int (nI (pv1 t)), .int (nI (t 2 - 1)), .int (nI (t 3 - 1)), .int (nI (3 + nf)), .ref xw, .ref xo, .ref xh, .int (nI 0), .ref xr, .int (nI ns), .ref xs, .ref xi, .long tr, .int (nI k1_4), .int (nI k2_5), .int (nI k3_6), .long k4_7, .ref xd, .int (nI nf), .ref xf])), (xt, .inl (cI G, 200, .inl (fI gb))), (xd, .inl (cI G, 4, .inl ((tA tt_9)))), (xf, .inl (cI G, 40, .inl (fI f5_10))), (xw, .inl (cJ G, 23, .inr (.inl (fJ (fdW ff (begW (pvT t) (pv1 t) gw) nf))))), (xo, .inl (cJ G, 23, .inr (.inl (fJ (fdW ff (begO go) nf))))), (xh, .inl (cJ G, 23, .inr (.inl (fJ (fdH ff (begH gh) nf))))), (xi, .inl (cJ G, 200, .inr (.inl (fJ gi))))]) hinX4 tyX4_ok nmX4 0 rfl rfl 10 (by decide) (List.mem_of_getElem? (i := 9) rfl) rfl rfl rfl (Nat.le_of_ble_eq_true rfl) rfl dX4_strip_138 (fun H locs hw => ?_)
                refine lv_aload_n hx hb dX4_strip_141 rfl (lv_at hl 0 rfl) ?_
                refine lv_iconst (v := (nI 0)) hx hb dX4_strip_142 (by decide) ?_
                refine x_put E hw (C := RX4) (T := TX4) (N := 23) (ws1 := [(x, .inr (4, [.ref xt, .int (nI nb), .int (nI (pvT t)), .int (nI (pv1 t)), .int (nI (t 2 - 1)), .int (nI (t 3 - 1)), .int (nI (3 + nf)), .ref xw, .ref xo, .ref xh, .int (nI 0), .ref xr, .int (nI 0), .ref xs, .ref xi, .long tr, .int (nI k1_4), .int (nI k2_5), .int (nI k3_6), .long k4_7, .ref xd, .int (nI nf), .ref xf])), (xt, .inl (cI G, 200, .inl (fI gb))), (xd, .inl (cI G, 4, .inl ((tA tt_9)))), (xf, .inl (cI G, 40, .inl (fI f5_10))), (xw, .inl (cJ G, 23, .inr (.inl (fJ (fdW ff (begW (pvT t) (pv1 t) gw) nf))))), (xo, .inl (cJ G, 23, .inr (.inl (fJ (fdW ff (begO go) nf))))), (xh, .inl (cJ G, 23, .inr (.inl (fJ (fdH ff (begH gh) nf))))), (xi, .inl (cJ G, 200, .inr (.inl (fJ gi))))]) hinX4 tyX4_ok nmX4 0 rfl rfl 12 (by decide) (List.mem_of_getElem? (i := 10) rfl) rfl rfl rfl (Nat.le_of_ble_eq_true rfl) rfl dX4_strip_143 (fun H locs hw => ?_)
                refine lv_aload_n hx hb dX4_strip_146 rfl (lv_at hl 0 rfl) ?_
                refine x_get E hw (C := RX4) (T := TX4) (N := 23) hinX4 0 rfl rfl 14 (by decide) rfl (List.mem_of_getElem? (i := 11) rfl) dX4_strip_147 ?_
                refine lv_iconst (v := (nI 0)) hx hb dX4_strip_150 (by decide) ?_
                refine lv_lconst (v := (lN 0)) hx hb dX4_strip_151 (by decide) ?_
                refine x_last E hw 7 (a := xi) (ws1 := [(x, .inr (4, [.ref xt, .int (nI nb), .int (nI (pvT t)), .int (nI (pv1 t)), .int (nI (t 2 - 1)), .int (nI (t 3 - 1)), .int (nI (3 + nf)), .ref xw, .ref xo, .ref xh, .int (nI 0), .ref xr, .int (nI 0), .ref xs, .ref xi, .long tr, .int (nI k1_4), .int (nI k2_5), .int (nI k3_6), .long k4_7, .ref xd, .int (nI nf), .ref xf])), (xt, .inl (cI G, 200, .inl (fI gb))), (xd, .inl (cI G, 4, .inl ((tA tt_9)))), (xf, .inl (cI G, 40, .inl (fI f5_10))), (xw, .inl (cJ G, 23, .inr (.inl (fJ (fdW ff (begW (pvT t) (pv1 t) gw) nf))))), (xo, .inl (cJ G, 23, .inr (.inl (fJ (fdW ff (begO go) nf))))), (xh, .inl (cJ G, 23, .inr (.inl (fJ (fdH ff (begH gh) nf))))), (xi, .inl (cJ G, 200, .inr (.inl (fJ (va_up gi 0 0)))))]) rfl rfl (show 0 < 200 by omega) (by omega) (fJ_up _ _ _) rfl dX4_strip_152 (fun H locs hw => ?_)
                refine lv_aload_n hx hb dX4_strip_153 rfl (lv_at hl 0 rfl) ?_
                refine x_get E hw (C := RX4) (T := TX4) (N := 23) hinX4 0 rfl rfl 14 (by decide) rfl (List.mem_of_getElem? (i := 11) rfl) dX4_strip_154 ?_
                refine lv_bipush (v := (nI 100)) hx hb dX4_strip_157 (by decide) ?_
                refine lv_lconst (v := (lN 0)) hx hb dX4_strip_159 (by decide) ?_
                refine x_last E hw 7 (a := xi) (ws1 := [(x, .inr (4, [.ref xt, .int (nI nb), .int (nI (pvT t)), .int (nI (pv1 t)), .int (nI (t 2 - 1)), .int (nI (t 3 - 1)), .int (nI (3 + nf)), .ref xw, .ref xo, .ref xh, .int (nI 0), .ref xr, .int (nI 0), .ref xs, .ref xi, .long tr, .int (nI k1_4), .int (nI k2_5), .int (nI k3_6), .long k4_7, .ref xd, .int (nI nf), .ref xf])), (xt, .inl (cI G, 200, .inl (fI gb))), (xd, .inl (cI G, 4, .inl ((tA tt_9)))), (xf, .inl (cI G, 40, .inl (fI f5_10))), (xw, .inl (cJ G, 23, .inr (.inl (fJ (fdW ff (begW (pvT t) (pv1 t) gw) nf))))), (xo, .inl (cJ G, 23, .inr (.inl (fJ (fdW ff (begO go) nf))))), (xh, .inl (cJ G, 23, .inr (.inl (fJ (fdH ff (begH gh) nf))))), (xi, .inl (cJ G, 200, .inr (.inl (fJ (va_up (va_up gi 0 0) 100 0)))))]) rfl rfl (show 100 < 200 by omega) (by omega) (fJ_up _ _ _) rfl dX4_strip_160 (fun H locs hw => ?_)
                refine lv_aload_n hx hb dX4_strip_161 rfl (lv_at hl 0 rfl) ?_
                refine lv_iconst (v := (nI 0)) hx hb dX4_strip_162 (by decide) ?_
                refine x_put E hw (C := RX4) (T := TX4) (N := 23) (ws1 := [(x, .inr (4, [.ref xt, .int (nI 0), .int (nI (pvT t)), .int (nI (pv1 t)), .int (nI (t 2 - 1)), .int (nI (t 3 - 1)), .int (nI (3 + nf)), .ref xw, .ref xo, .ref xh, .int (nI 0), .ref xr, .int (nI 0), .ref xs, .ref xi, .long tr, .int (nI k1_4), .int (nI k2_5), .int (nI k3_6), .long k4_7, .ref xd, .int (nI nf), .ref xf])), (xt, .inl (cI G, 200, .inl (fI gb))), (xd, .inl (cI G, 4, .inl ((tA tt_9)))), (xf, .inl (cI G, 40, .inl (fI f5_10))), (xw, .inl (cJ G, 23, .inr (.inl (fJ (fdW ff (begW (pvT t) (pv1 t) gw) nf))))), (xo, .inl (cJ G, 23, .inr (.inl (fJ (fdW ff (begO go) nf))))), (xh, .inl (cJ G, 23, .inr (.inl (fJ (fdH ff (begH gh) nf))))), (xi, .inl (cJ G, 200, .inr (.inl (fJ (va_up (va_up gi 0 0) 100 0)))))]) hinX4 tyX4_ok nmX4 0 rfl rfl 1 (by decide) (List.mem_of_getElem? (i := 12) rfl) rfl rfl rfl (Nat.le_of_ble_eq_true rfl) rfl dX4_strip_163 (fun H locs hw => ?_)
                refine lv_iload_n hx hb dX4_strip_166 rfl (lv_at hl 1 rfl) ?_
                exact hret (nI it) (k1_4, k2_5, k3_6, k4_7, nf, tt_9, f5_10) _ _ _ _ dX4_strip_167 rfl (⟨rfl, hle5⟩) hw
              · have hbW : BdW (fdW ff (begW (pvT t) (pv1 t) gw) i) := bw_fd (bw_beg (by omega) (by omega) hW) i
                have hbO : BdW (fdW ff (begO go) i) := bw_fd (bw_begO hO) i
                have hbH : BdH (fdH ff (begH gh) i) := bh_fd (by omega) hG2 (bh_beg hH) i (by omega)
                have hgw := BdW.lt hbW
                have hgo := BdW.lt hbO
                have hgh := BdH.lt hbH
                have hfi := hG2 i (by omega)
                refine lv_aload_n hx hb dX4_strip_108 rfl (lv_at hl 0 rfl) ?_
                refine lv_aload_n hx hb dX4_strip_109 rfl (lv_at hl 0 rfl) ?_
                refine x_get E hw (C := RX4) (T := TX4) (N := 23) hinX4 0 rfl rfl 22 (by decide) rfl (List.mem_of_getElem? (i := 8) rfl) dX4_strip_110 ?_
                refine lv_iconst (v := (nI 2)) hx hb dX4_strip_113 (by decide) ?_
                refine lv_iload_n hx hb dX4_strip_114 rfl (lv_at hl 2 rfl) ?_
                refine x_imul E (v := (nI (2 * i))) dX4_strip_115 (pk_mul _ _) ?_
                refine x_iald E hw 3 (a := xf) (v := (nI (ff (2 * i)))) rfl rfl (show 2 * i < 40 by omega) (by omega) (by show nI (f5_10 (2 * i)) = nI (ff (2 * i)); rw [hf5 _ (by omega)]) dX4_strip_116 ?_
                refine lv_aload_n hx hb dX4_strip_117 rfl (lv_at hl 0 rfl) ?_
                refine x_get E hw (C := RX4) (T := TX4) (N := 23) hinX4 0 rfl rfl 22 (by decide) rfl (List.mem_of_getElem? (i := 8) rfl) dX4_strip_118 ?_
                refine lv_iconst (v := (nI 2)) hx hb dX4_strip_121 (by decide) ?_
                refine lv_iload_n hx hb dX4_strip_122 rfl (lv_at hl 2 rfl) ?_
                refine x_imul E (v := (nI (2 * i))) dX4_strip_123 (pk_mul _ _) ?_
                refine lv_iconst (v := (nI 1)) hx hb dX4_strip_124 (by decide) ?_
                refine x_iadd E (v := (nI ((2 * i) + 1))) dX4_strip_125 (nI_add _ _) ?_
                refine x_iald E hw 3 (a := xf) (v := (nI (ff ((2 * i) + 1)))) rfl rfl (show (2 * i) + 1 < 40 by omega) (by omega) (by show nI (f5_10 ((2 * i) + 1)) = nI (ff ((2 * i) + 1)); rw [hf5 _ (by omega)]) dX4_strip_126 ?_
                refine x_cfVv E hw hl.1 (As := [.int (nI (ff (2 * i))), .int (nI (ff ((2 * i) + 1)))]) (rest := []) (c_X4_folds l G x xt xw xo xh xr xs xi xd xf nb (pvT t) (pv1 t) (t 2 - 1) (t 3 - 1) (3 + i) nl ns tr (nI k1_4) (nI k2_5) (nI k3_6) k4_7 (nI nf) (ff (2 * i)) (ff ((2 * i) + 1)) (fdW ff (begW (pvT t) (pv1 t) gw) i) (fdW ff (begO go) i) (fdH ff (begH gh) i) (by omega) (by omega) (by omega) hgw hgo hgh) 2 gX4_strip_X4_folds rfl rfl rfl (by decide) ⟨Nat.le_of_ble_eq_true rfl, Nat.le_of_ble_eq_true rfl⟩ ⟨Nat.le_of_ble_eq_true rfl, Nat.le_of_ble_eq_true rfl⟩ rfl 0 (ci := 4) (C := RX4) (T := TX4) (N := 23) rfl rfl [0, 4, 5, 6] [1, 2, 3, 7] rfl rfl rfl rfl rfl [4, 0, 1, 2, 5, 6, 7, 3] [(x, .inr (4, [.ref xt, .int (nI nb), .int (nI (pvT t)), .int (nI (pv1 t)), .int (nI (t 2 - 1)), .int (nI (t 3 - 1)), .int (nI ((3 + i) + 1)), .ref xw, .ref xo, .ref xh, .int (nI nl), .ref xr, .int (nI ns), .ref xs, .ref xi, .long tr, .int (nI k1_4), .int (nI k2_5), .int (nI k3_6), .long k4_7, .ref xd, .int (nI nf), .ref xf])), (xt, .inl (cI G, 200, .inl (fI gb))), (xd, .inl (cI G, 4, .inl ((tA tt_9)))), (xf, .inl (cI G, 40, .inl (fI f5_10))), (xw, .inl (cJ G, 23, .inr (.inl (fJ (mid (fdW ff (begW (pvT t) (pv1 t) gw) i) (3 + i) (ff (2 * i)) (ff ((2 * i) + 1))))))), (xo, .inl (cJ G, 23, .inr (.inl (fJ (mid (fdW ff (begO go) i) (3 + i) (ff (2 * i)) (ff ((2 * i) + 1))))))), (xh, .inl (cJ G, 23, .inr (.inl (fJ (midH (fdH ff (begH gh) i) (3 + i) (ff (2 * i)) (ff ((2 * i) + 1))))))), (xi, .inl (cJ G, 200, .inr (.inl (fJ gi))))] rfl rfl rfl (Nat.le_of_ble_eq_true rfl) dX4_strip_127 (fun H locs hw => ?_)
                refine lv_iinc (v := (nI (i + 1))) (lv' := [(2, .int (nI (i + 1))), (0, .ref x), (1, .int (nI it))]) hx hb dX4_strip_130 hl (k := 2) rfl (nI_add _ 1) (by decide) rfl (fun ls hl => ?_)
                refine lv_goto (tgt := 100) hx hb dX4_strip_133 (by decide) ?_
                exact ih_100 (i + 1) (by omega) (by omega) _ _ _ (hw.cast (by rw [show 3 + i + 1 = 3 + (i + 1) by omega]; rfl)) (lv_sub hl [1, 2, 0] rfl)
          exact loop_100 (nf - 0 + 1) 0 (by omega) (Nat.lt_succ_self _) _ _ _ hw (lv_sub hl [2, 1, 0] rfl)
        refine lv_aload_n hx hb dX4_strip_72 rfl (lv_at hl 1 rfl) ?_
        refine x_get E hw (C := RX4) (T := TX4) (N := 23) hinX4 0 rfl rfl 20 (by decide) rfl (List.mem_of_getElem? (i := 3) rfl) dX4_strip_73 ?_
        refine lv_iconst (v := (nI 3)) hx hb dX4_strip_76 (by decide) ?_
        refine x_iald E hw 2 (a := xd) (v := (tI (tt_9 3))) rfl rfl (show 3 < 4 by omega) (by omega) rfl dX4_strip_77 ?_
        refine x_if_ge E (tI_toI (show tt_9 3 < 2147483648 by omega)) (tgt := 85) dX4_strip_78 (by decide) (fun c_13 => ?_) (fun c_13 => ?_)
        · refine lv_aload_n hx hb dX4_strip_85 rfl (lv_at hl 1 rfl) ?_
          refine x_get E hw (C := RX4) (T := TX4) (N := 23) hinX4 0 rfl rfl 20 (by decide) rfl (List.mem_of_getElem? (i := 3) rfl) dX4_strip_86 ?_
          refine lv_iconst (v := (nI 3)) hx hb dX4_strip_89 (by decide) ?_
          refine x_iald E hw 2 (a := xd) (v := (tI (tt_9 3))) rfl rfl (show 3 < 4 by omega) (by omega) rfl dX4_strip_90 ?_
          refine x_topi (v := nI (t 3 - 1)) (by rw [tI_pos (by omega), hz3]) ?_
          exact cut_91  _ _ _ hw (lv_sub hl [0, 1] rfl)
        · refine lv_iconst (v := (nI 0)) hx hb dX4_strip_81 (by decide) ?_
          refine lv_goto (tgt := 91) hx hb dX4_strip_82 (by decide) ?_
          refine x_topi (v := nI (t 3 - 1)) (by rw [show t 3 - 1 = 0 by omega]) ?_
          exact cut_91  _ _ _ hw (lv_sub hl [0, 1] rfl)
      refine lv_aload_n hx hb dX4_strip_49 rfl (lv_at hl 1 rfl) ?_
      refine x_get E hw (C := RX4) (T := TX4) (N := 23) hinX4 0 rfl rfl 20 (by decide) rfl (List.mem_of_getElem? (i := 3) rfl) dX4_strip_50 ?_
      refine lv_iconst (v := (nI 2)) hx hb dX4_strip_53 (by decide) ?_
      refine x_iald E hw 2 (a := xd) (v := (tI (tt_9 2))) rfl rfl (show 2 < 4 by omega) (by omega) rfl dX4_strip_54 ?_
      refine x_if_ge E (tI_toI (show tt_9 2 < 2147483648 by omega)) (tgt := 62) dX4_strip_55 (by decide) (fun c_14 => ?_) (fun c_14 => ?_)
      · refine lv_aload_n hx hb dX4_strip_62 rfl (lv_at hl 1 rfl) ?_
        refine x_get E hw (C := RX4) (T := TX4) (N := 23) hinX4 0 rfl rfl 20 (by decide) rfl (List.mem_of_getElem? (i := 3) rfl) dX4_strip_63 ?_
        refine lv_iconst (v := (nI 2)) hx hb dX4_strip_66 (by decide) ?_
        refine x_iald E hw 2 (a := xd) (v := (tI (tt_9 2))) rfl rfl (show 2 < 4 by omega) (by omega) rfl dX4_strip_67 ?_
        refine x_topi (v := nI (t 2 - 1)) (by rw [tI_pos (by omega), hz2]) ?_
        exact cut_68  _ _ _ hw (lv_sub hl [0, 1] rfl)
      · refine lv_iconst (v := (nI 0)) hx hb dX4_strip_58 (by decide) ?_
        refine lv_goto (tgt := 68) hx hb dX4_strip_59 (by decide) ?_
        refine x_topi (v := nI (t 2 - 1)) (by rw [show t 2 - 1 = 0 by omega]) ?_
        exact cut_68  _ _ _ hw (lv_sub hl [0, 1] rfl)
    refine lv_aload_n hx hb dX4_strip_26 rfl (lv_at hl 1 rfl) ?_
    refine x_get E hw (C := RX4) (T := TX4) (N := 23) hinX4 0 rfl rfl 20 (by decide) rfl (List.mem_of_getElem? (i := 3) rfl) dX4_strip_27 ?_
    refine lv_iconst (v := (nI 1)) hx hb dX4_strip_30 (by decide) ?_
    refine x_iald E hw 2 (a := xd) (v := (tI (tt_9 1))) rfl rfl (show 1 < 4 by omega) (by omega) rfl dX4_strip_31 ?_
    refine x_if_ge E (tI_toI (show tt_9 1 < 2147483648 by omega)) (tgt := 39) dX4_strip_32 (by decide) (fun c_15 => ?_) (fun c_15 => ?_)
    · refine lv_aload_n hx hb dX4_strip_39 rfl (lv_at hl 1 rfl) ?_
      refine x_get E hw (C := RX4) (T := TX4) (N := 23) hinX4 0 rfl rfl 20 (by decide) rfl (List.mem_of_getElem? (i := 3) rfl) dX4_strip_40 ?_
      refine lv_iconst (v := (nI 1)) hx hb dX4_strip_43 (by decide) ?_
      refine x_iald E hw 2 (a := xd) (v := (tI (tt_9 1))) rfl rfl (show 1 < 4 by omega) (by omega) rfl dX4_strip_44 ?_
      refine x_topi (v := nI (pv1 t)) (by unfold pv1; rw [if_neg (by omega), tI_pos (by omega), hz1]) ?_
      exact cut_45  _ _ _ hw (lv_sub hl [0, 1] rfl)
    · refine lv_iconst (v := (nI 1)) hx hb dX4_strip_35 (by decide) ?_
      refine lv_goto (tgt := 45) hx hb dX4_strip_36 (by decide) ?_
      refine x_topi (v := nI (pv1 t)) (by unfold pv1; rw [if_pos (by omega)]) ?_
      exact cut_45  _ _ _ hw (lv_sub hl [0, 1] rfl)
  · exfalso; omega
