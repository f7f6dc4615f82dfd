abbrev rm_X4_in : Room := { frames := 0, cells := 0, slots := 0, locals := 0 }
set_option maxHeartbeats 4000000 in
set_option maxRecDepth 100000 in
theorem c_X4_in (l : Launch) (G : XG) (v : Int64) (a : Int64) (b : Int64) (V0 : Int) (A0 : Int) (B0 : Int) (hv : v.toInt = V0) (ha : a.toInt = A0) (hb : b.toInt = B0) : CfI l yX4_in wsX4_in rm_X4_in G [.long v, .long a, .long b] [] (if A0 ≤ V0 ∧ V0 ≤ B0 then 1 else 0) [] := by
  refine CtI.go (cc := cX4_in) (maxL := 6) RX4 rfl (by decide) rfl (Nat.le_of_ble_eq_true rfl) ?_
  intro p e s m args below meth c A Q ls E hw hl hret
  have hx := E.1
  have hb := E.2.1
  have hl : lv_has ls 6 [(0, .long v), (2, .long a), (4, .long b)] := hl
  refine lv_lload_n hx hb dX4_in_0 rfl (lv_at hl 0 rfl) ?_
  refine lv_lload_n hx hb dX4_in_1 rfl (lv_at hl 1 rfl) ?_
  refine x_lc_lt E rfl rfl (tgt := 17) dX4_in_2 dX4_in_3 (by decide) (fun c_1 => ?_) (fun c_1 => ?_)
  · refine lv_iconst (v := (nI 0)) hx hb dX4_in_17 (by decide) ?_
    exact hret (nI 0) () _ _ _ _ dX4_in_18 rfl ((if_neg (by omega)).symm) hw
  · refine lv_lload_n hx hb dX4_in_6 rfl (lv_at hl 0 rfl) ?_
    refine lv_lload hx hb dX4_in_7 (lv_at hl 2 rfl) ?_
    refine x_lc_gt E rfl rfl (tgt := 17) dX4_in_9 dX4_in_10 (by decide) (fun c_2 => ?_) (fun c_2 => ?_)
    · refine lv_iconst (v := (nI 0)) hx hb dX4_in_17 (by decide) ?_
      exact hret (nI 0) () _ _ _ _ dX4_in_18 rfl ((if_neg (by omega)).symm) hw
    · refine lv_iconst (v := (nI 1)) hx hb dX4_in_13 (by decide) ?_
      refine lv_goto (tgt := 18) hx hb dX4_in_14 (by decide) ?_
      exact hret (nI 1) () _ _ _ _ dX4_in_18 rfl ((if_pos (by omega)).symm) hw

abbrev rm_X4_begin : Room := { frames := 0, cells := 0, slots := 0, locals := 0 }
set_option maxHeartbeats 4000000 in
set_option maxRecDepth 100000 in
theorem c_X4_begin (l : Launch) (G : XG) (x : Nat) (xt : Nat) (xw : Nat) (xo : Nat) (xh : Nat) (xr : Nat) (xs : Nat) (xi : Nat) (xd : Nat) (xf : Nat) (nb : Nat) (pa : Nat) (pt : Nat) (off : Nat) (ha : Nat) (n : Nat) (nl : Nat) (ns : Nat) (tr : Int64) (u1 : Int32) (u2 : Int32) (u3 : Int32) (u4 : Int64) (u5 : Int32) (gw : Nat → Nat) (go : Nat → Nat) (gh : Nat → Nat) (hpa : pa ≤ 63) (hpt : pt < pa) : CfV l yX4_begin wsX4_begin rm_X4_begin G [.ref x] [(x, .inr (4, [.ref xt, .int (nI nb), .int (nI pa), .int (nI pt), .int (nI off), .int (nI ha), .int (nI n), .ref xw, .ref xo, .ref xh, .int (nI nl), .ref xr, .int (nI ns), .ref xs, .ref xi, .long tr, .int u1, .int u2, .int u3, .long u4, .ref xd, .int u5, .ref xf])), (xw, .inl (cJ G, 23, .inr (.inl (fJ gw)))), (xo, .inl (cJ G, 23, .inr (.inl (fJ go)))), (xh, .inl (cJ G, 23, .inr (.inl (fJ gh))))] [(x, .inr (4, [.ref xt, .int (nI nb), .int (nI pa), .int (nI pt), .int (nI off), .int (nI ha), .int (nI 3), .ref xw, .ref xo, .ref xh, .int (nI nl), .ref xr, .int (nI ns), .ref xs, .ref xi, .long tr, .int u1, .int u2, .int u3, .long u4, .ref xd, .int u5, .ref xf])), (xw, .inl (cJ G, 23, .inr (.inl (fJ (begW pa pt gw))))), (xo, .inl (cJ G, 23, .inr (.inl (fJ (begO go))))), (xh, .inl (cJ G, 23, .inr (.inl (fJ (begH gh)))))] := by
  refine CtV.go (cc := cX4_begin) (maxL := 2) RX4 rfl (by decide) rfl (Nat.le_of_ble_eq_true rfl) ?_
  intro p e s m args below meth c A Q ls E hw hl hret
  have hx := E.1
  have hb := E.2.1
  have hinX4 : ∀ w ∈ wsX40, w ∈ wsX4_begin := (fun w h => List.mem_cons_of_mem _ (List.mem_append_right _ h))
  have hl : lv_has ls 2 [(0, .ref x)] := hl
  refine lv_aload_n hx hb dX4_begin_0 rfl (lv_at hl 0 rfl) ?_
  refine lv_iconst (v := (nI 3)) hx hb dX4_begin_1 (by decide) ?_
  refine x_put E hw (C := RX4) (T := TX4) (N := 23) (ws1 := [(x, .inr (4, [.ref xt, .int (nI nb), .int (nI pa), .int (nI pt), .int (nI off), .int (nI ha), .int (nI 3), .ref xw, .ref xo, .ref xh, .int (nI nl), .ref xr, .int (nI ns), .ref xs, .ref xi, .long tr, .int u1, .int u2, .int u3, .long u4, .ref xd, .int u5, .ref xf])), (xw, .inl (cJ G, 23, .inr (.inl (fJ gw)))), (xo, .inl (cJ G, 23, .inr (.inl (fJ go)))), (xh, .inl (cJ G, 23, .inr (.inl (fJ gh))))]) hinX4 tyX4_ok nmX4 0 rfl rfl 6 (by decide) (List.mem_of_getElem? (i := 1) rfl) rfl rfl rfl (Nat.le_of_ble_eq_true rfl) rfl dX4_begin_2 (fun H locs hw => ?_)
  refine lv_iconst (v := (nI 0)) hx hb dX4_begin_5 (by decide) ?_
  refine lv_istore_n (lv' := [(1, .int (nI 0)), (0, .ref x)]) hx hb dX4_begin_6 rfl hl (by decide) rfl (fun ls hl => ?_)
  refine lv_iload_n hx hb dX4_begin_7 rfl (lv_at hl 0 rfl) ?_
  refine lv_iconst (v := (nI 3)) hx hb dX4_begin_8 (by decide) ?_
  refine x_icmp_ge E (nI_toI (by decide)) (nI_toI (by decide)) (tgt := 78) dX4_begin_9 (by decide) (fun c_1 => ?_) (fun c_1 => ?_)
  · exact absurd c_1 (by decide)
  · refine lv_aload_n hx hb dX4_begin_12 rfl (lv_at hl 1 rfl) ?_
    refine x_get E hw (C := RX4) (T := TX4) (N := 23) hinX4 0 rfl rfl 7 (by decide) rfl (List.mem_of_getElem? (i := 2) rfl) dX4_begin_13 ?_
    refine lv_iload_n hx hb dX4_begin_16 rfl (lv_at hl 0 rfl) ?_
    refine lv_iload_n hx hb dX4_begin_17 rfl (lv_at hl 0 rfl) ?_
    refine x_if_ne E (nI_toI (by decide)) (tgt := 25) dX4_begin_18 (by decide) (fun c_2 => ?_) (fun c_2 => ?_)
    · exact absurd c_2 (by decide)
    · refine lv_iconst (v := (nI 0)) hx hb dX4_begin_21 (by decide) ?_
      refine lv_goto (tgt := 41) hx hb dX4_begin_22 (by decide) ?_
      refine lv_i2l (v := (lN 0)) hx hb dX4_begin_41 (nI_l (by omega)) ?_
      refine lv_ldc2 (v := (1048576)) hx hb E.2.2.2.1 (E.2.2.2.2 _ (List.mem_of_getElem? (i := 5) rfl)) dX4_begin_42 ?_
      refine x_topl (v := lN 1048576) (by decide) ?_
      refine x_lmul E (v := (lN 0)) dX4_begin_45 (lN_mul _ _) ?_
      refine x_last E hw 1 (a := xw) (ws1 := [(x, .inr (4, [.ref xt, .int (nI nb), .int (nI pa), .int (nI pt), .int (nI off), .int (nI ha), .int (nI 3), .ref xw, .ref xo, .ref xh, .int (nI nl), .ref xr, .int (nI ns), .ref xs, .ref xi, .long tr, .int u1, .int u2, .int u3, .long u4, .ref xd, .int u5, .ref xf])), (xw, .inl (cJ G, 23, .inr (.inl (fJ (va_up gw 0 0))))), (xo, .inl (cJ G, 23, .inr (.inl (fJ go)))), (xh, .inl (cJ G, 23, .inr (.inl (fJ gh))))]) rfl rfl (show 0 < 23 by omega) (by omega) (fJ_up _ _ _) rfl dX4_begin_46 (fun H locs hw => ?_)
      refine lv_aload_n hx hb dX4_begin_47 rfl (lv_at hl 1 rfl) ?_
      refine x_get E hw (C := RX4) (T := TX4) (N := 23) hinX4 0 rfl rfl 8 (by decide) rfl (List.mem_of_getElem? (i := 6) rfl) dX4_begin_48 ?_
      refine lv_iload_n hx hb dX4_begin_51 rfl (lv_at hl 0 rfl) ?_
      refine lv_iload_n hx hb dX4_begin_52 rfl (lv_at hl 0 rfl) ?_
      refine lv_iconst (v := (nI 2)) hx hb dX4_begin_53 (by decide) ?_
      refine x_icmp_ne E (nI_toI (by decide)) (nI_toI (by decide)) (tgt := 63) dX4_begin_54 (by decide) (fun c_3 => ?_) (fun c_3 => ?_)
      · refine lv_lconst (v := (lN 0)) hx hb dX4_begin_63 (by decide) ?_
        refine x_last E hw 2 (a := xo) (ws1 := [(x, .inr (4, [.ref xt, .int (nI nb), .int (nI pa), .int (nI pt), .int (nI off), .int (nI ha), .int (nI 3), .ref xw, .ref xo, .ref xh, .int (nI nl), .ref xr, .int (nI ns), .ref xs, .ref xi, .long tr, .int u1, .int u2, .int u3, .long u4, .ref xd, .int u5, .ref xf])), (xw, .inl (cJ G, 23, .inr (.inl (fJ (va_up gw 0 0))))), (xo, .inl (cJ G, 23, .inr (.inl (fJ (va_up go 0 0))))), (xh, .inl (cJ G, 23, .inr (.inl (fJ gh))))]) rfl rfl (show 0 < 23 by omega) (by omega) (fJ_up _ _ _) rfl dX4_begin_64 (fun H locs hw => ?_)
        refine lv_aload_n hx hb dX4_begin_65 rfl (lv_at hl 1 rfl) ?_
        refine x_get E hw (C := RX4) (T := TX4) (N := 23) hinX4 0 rfl rfl 9 (by decide) rfl (List.mem_of_getElem? (i := 7) rfl) dX4_begin_66 ?_
        refine lv_iload_n hx hb dX4_begin_69 rfl (lv_at hl 0 rfl) ?_
        refine lv_lconst (v := (lN 0)) hx hb dX4_begin_70 (by decide) ?_
        refine x_last E hw 3 (a := xh) (ws1 := [(x, .inr (4, [.ref xt, .int (nI nb), .int (nI pa), .int (nI pt), .int (nI off), .int (nI ha), .int (nI 3), .ref xw, .ref xo, .ref xh, .int (nI nl), .ref xr, .int (nI ns), .ref xs, .ref xi, .long tr, .int u1, .int u2, .int u3, .long u4, .ref xd, .int u5, .ref xf])), (xw, .inl (cJ G, 23, .inr (.inl (fJ (va_up gw 0 0))))), (xo, .inl (cJ G, 23, .inr (.inl (fJ (va_up go 0 0))))), (xh, .inl (cJ G, 23, .inr (.inl (fJ (va_up gh 0 0)))))]) rfl rfl (show 0 < 23 by omega) (by omega) (fJ_up _ _ _) rfl dX4_begin_71 (fun H locs hw => ?_)
        refine lv_iinc (v := (nI 1)) (lv' := [(1, .int (nI 1)), (0, .ref x)]) hx hb dX4_begin_72 hl (k := 0) rfl (by decide) (by decide) rfl (fun ls hl => ?_)
        refine lv_goto (tgt := 7) hx hb dX4_begin_75 (by decide) ?_
        refine lv_iload_n hx hb dX4_begin_7 rfl (lv_at hl 0 rfl) ?_
        refine lv_iconst (v := (nI 3)) hx hb dX4_begin_8 (by decide) ?_
        refine x_icmp_ge E (nI_toI (by decide)) (nI_toI (by decide)) (tgt := 78) dX4_begin_9 (by decide) (fun c_4 => ?_) (fun c_4 => ?_)
        · exact absurd c_4 (by decide)
        · refine lv_aload_n hx hb dX4_begin_12 rfl (lv_at hl 1 rfl) ?_
          refine x_get E hw (C := RX4) (T := TX4) (N := 23) hinX4 0 rfl rfl 7 (by decide) rfl (List.mem_of_getElem? (i := 2) rfl) dX4_begin_13 ?_
          refine lv_iload_n hx hb dX4_begin_16 rfl (lv_at hl 0 rfl) ?_
          refine lv_iload_n hx hb dX4_begin_17 rfl (lv_at hl 0 rfl) ?_
          refine x_if_ne E (nI_toI (by decide)) (tgt := 25) dX4_begin_18 (by decide) (fun c_5 => ?_) (fun c_5 => ?_)
          · refine lv_iload_n hx hb dX4_begin_25 rfl (lv_at hl 0 rfl) ?_
            refine lv_iconst (v := (nI 1)) hx hb dX4_begin_26 (by decide) ?_
            refine x_icmp_ne E (nI_toI (by decide)) (nI_toI (by decide)) (tgt := 37) dX4_begin_27 (by decide) (fun c_6 => ?_) (fun c_6 => ?_)
            · exact absurd c_6 (by decide)
            · refine lv_aload_n hx hb dX4_begin_30 rfl (lv_at hl 1 rfl) ?_
              refine x_get E hw (C := RX4) (T := TX4) (N := 23) hinX4 0 rfl rfl 2 (by decide) rfl (List.mem_of_getElem? (i := 3) rfl) dX4_begin_31 ?_
              refine lv_goto (tgt := 41) hx hb dX4_begin_34 (by decide) ?_
              refine lv_i2l (v := (lN pa)) hx hb dX4_begin_41 (nI_l (by omega)) ?_
              refine lv_ldc2 (v := (1048576)) hx hb E.2.2.2.1 (E.2.2.2.2 _ (List.mem_of_getElem? (i := 5) rfl)) dX4_begin_42 ?_
              refine x_topl (v := lN 1048576) (by decide) ?_
              refine x_lmul E (v := (lN (pa * 1048576))) dX4_begin_45 (lN_mul _ _) ?_
              refine x_last E hw 1 (a := xw) (ws1 := [(x, .inr (4, [.ref xt, .int (nI nb), .int (nI pa), .int (nI pt), .int (nI off), .int (nI ha), .int (nI 3), .ref xw, .ref xo, .ref xh, .int (nI nl), .ref xr, .int (nI ns), .ref xs, .ref xi, .long tr, .int u1, .int u2, .int u3, .long u4, .ref xd, .int u5, .ref xf])), (xw, .inl (cJ G, 23, .inr (.inl (fJ (va_up (va_up gw 0 0) 1 (pa * 1048576)))))), (xo, .inl (cJ G, 23, .inr (.inl (fJ (va_up go 0 0))))), (xh, .inl (cJ G, 23, .inr (.inl (fJ (va_up gh 0 0)))))]) rfl rfl (show 1 < 23 by omega) (by omega) (fJ_up _ _ _) rfl dX4_begin_46 (fun H locs hw => ?_)
              refine lv_aload_n hx hb dX4_begin_47 rfl (lv_at hl 1 rfl) ?_
              refine x_get E hw (C := RX4) (T := TX4) (N := 23) hinX4 0 rfl rfl 8 (by decide) rfl (List.mem_of_getElem? (i := 6) rfl) dX4_begin_48 ?_
              refine lv_iload_n hx hb dX4_begin_51 rfl (lv_at hl 0 rfl) ?_
              refine lv_iload_n hx hb dX4_begin_52 rfl (lv_at hl 0 rfl) ?_
              refine lv_iconst (v := (nI 2)) hx hb dX4_begin_53 (by decide) ?_
              refine x_icmp_ne E (nI_toI (by decide)) (nI_toI (by decide)) (tgt := 63) dX4_begin_54 (by decide) (fun c_7 => ?_) (fun c_7 => ?_)
              · refine lv_lconst (v := (lN 0)) hx hb dX4_begin_63 (by decide) ?_
                refine x_last E hw 2 (a := xo) (ws1 := [(x, .inr (4, [.ref xt, .int (nI nb), .int (nI pa), .int (nI pt), .int (nI off), .int (nI ha), .int (nI 3), .ref xw, .ref xo, .ref xh, .int (nI nl), .ref xr, .int (nI ns), .ref xs, .ref xi, .long tr, .int u1, .int u2, .int u3, .long u4, .ref xd, .int u5, .ref xf])), (xw, .inl (cJ G, 23, .inr (.inl (fJ (va_up (va_up gw 0 0) 1 (pa * 1048576)))))), (xo, .inl (cJ G, 23, .inr (.inl (fJ (va_up (va_up go 0 0) 1 0))))), (xh, .inl (cJ G, 23, .inr (.inl (fJ (va_up gh 0 0)))))]) rfl rfl (show 1 < 23 by omega) (by omega) (fJ_up _ _ _) rfl dX4_begin_64 (fun H locs hw => ?_)
                refine lv_aload_n hx hb dX4_begin_65 rfl (lv_at hl 1 rfl) ?_
                refine x_get E hw (C := RX4) (T := TX4) (N := 23) hinX4 0 rfl rfl 9 (by decide) rfl (List.mem_of_getElem? (i := 7) rfl) dX4_begin_66 ?_
                refine lv_iload_n hx hb dX4_begin_69 rfl (lv_at hl 0 rfl) ?_
                refine lv_lconst (v := (lN 0)) hx hb dX4_begin_70 (by decide) ?_
                refine x_last E hw 3 (a := xh) (ws1 := [(x, .inr (4, [.ref xt, .int (nI nb), .int (nI pa), .int (nI pt), .int (nI off), .int (nI ha), .int (nI 3), .ref xw, .ref xo, .ref xh, .int (nI nl), .ref xr, .int (nI ns), .ref xs, .ref xi, .long tr, .int u1, .int u2, .int u3, .long u4, .ref xd, .int u5, .ref xf])), (xw, .inl (cJ G, 23, .inr (.inl (fJ (va_up (va_up gw 0 0) 1 (pa * 1048576)))))), (xo, .inl (cJ G, 23, .inr (.inl (fJ (va_up (va_up go 0 0) 1 0))))), (xh, .inl (cJ G, 23, .inr (.inl (fJ (va_up (va_up gh 0 0) 1 0)))))]) rfl rfl (show 1 < 23 by omega) (by omega) (fJ_up _ _ _) rfl dX4_begin_71 (fun H locs hw => ?_)
                refine lv_iinc (v := (nI 2)) (lv' := [(1, .int (nI 2)), (0, .ref x)]) hx hb dX4_begin_72 hl (k := 0) rfl (by decide) (by decide) rfl (fun ls hl => ?_)
                refine lv_goto (tgt := 7) hx hb dX4_begin_75 (by decide) ?_
                refine lv_iload_n hx hb dX4_begin_7 rfl (lv_at hl 0 rfl) ?_
                refine lv_iconst (v := (nI 3)) hx hb dX4_begin_8 (by decide) ?_
                refine x_icmp_ge E (nI_toI (by decide)) (nI_toI (by decide)) (tgt := 78) dX4_begin_9 (by decide) (fun c_8 => ?_) (fun c_8 => ?_)
                · exact absurd c_8 (by decide)
                · refine lv_aload_n hx hb dX4_begin_12 rfl (lv_at hl 1 rfl) ?_
                  refine x_get E hw (C := RX4) (T := TX4) (N := 23) hinX4 0 rfl rfl 7 (by decide) rfl (List.mem_of_getElem? (i := 2) rfl) dX4_begin_13 ?_
                  refine lv_iload_n hx hb dX4_begin_16 rfl (lv_at hl 0 rfl) ?_
                  refine lv_iload_n hx hb dX4_begin_17 rfl (lv_at hl 0 rfl) ?_
                  refine x_if_ne E (nI_toI (by decide)) (tgt := 25) dX4_begin_18 (by decide) (fun c_9 => ?_) (fun c_9 => ?_)
                  · refine lv_iload_n hx hb dX4_begin_25 rfl (lv_at hl 0 rfl) ?_
                    refine lv_iconst (v := (nI 1)) hx hb dX4_begin_26 (by decide) ?_
                    refine x_icmp_ne E (nI_toI (by decide)) (nI_toI (by decide)) (tgt := 37) dX4_begin_27 (by decide) (fun c_10 => ?_) (fun c_10 => ?_)
                    · refine lv_aload_n hx hb dX4_begin_37 rfl (lv_at hl 1 rfl) ?_
                      refine x_get E hw (C := RX4) (T := TX4) (N := 23) hinX4 0 rfl rfl 3 (by decide) rfl (List.mem_of_getElem? (i := 4) rfl) dX4_begin_38 ?_
                      refine lv_i2l (v := (lN pt)) hx hb dX4_begin_41 (nI_l (by omega)) ?_
                      refine lv_ldc2 (v := (1048576)) hx hb E.2.2.2.1 (E.2.2.2.2 _ (List.mem_of_getElem? (i := 5) rfl)) dX4_begin_42 ?_
                      refine x_topl (v := lN 1048576) (by decide) ?_
                      refine x_lmul E (v := (lN (pt * 1048576))) dX4_begin_45 (lN_mul _ _) ?_
                      refine x_last E hw 1 (a := xw) (ws1 := [(x, .inr (4, [.ref xt, .int (nI nb), .int (nI pa), .int (nI pt), .int (nI off), .int (nI ha), .int (nI 3), .ref xw, .ref xo, .ref xh, .int (nI nl), .ref xr, .int (nI ns), .ref xs, .ref xi, .long tr, .int u1, .int u2, .int u3, .long u4, .ref xd, .int u5, .ref xf])), (xw, .inl (cJ G, 23, .inr (.inl (fJ (va_up (va_up (va_up gw 0 0) 1 (pa * 1048576)) 2 (pt * 1048576)))))), (xo, .inl (cJ G, 23, .inr (.inl (fJ (va_up (va_up go 0 0) 1 0))))), (xh, .inl (cJ G, 23, .inr (.inl (fJ (va_up (va_up gh 0 0) 1 0)))))]) rfl rfl (show 2 < 23 by omega) (by omega) (fJ_up _ _ _) rfl dX4_begin_46 (fun H locs hw => ?_)
                      refine lv_aload_n hx hb dX4_begin_47 rfl (lv_at hl 1 rfl) ?_
                      refine x_get E hw (C := RX4) (T := TX4) (N := 23) hinX4 0 rfl rfl 8 (by decide) rfl (List.mem_of_getElem? (i := 6) rfl) dX4_begin_48 ?_
                      refine lv_iload_n hx hb dX4_begin_51 rfl (lv_at hl 0 rfl) ?_
                      refine lv_iload_n hx hb dX4_begin_52 rfl (lv_at hl 0 rfl) ?_
                      refine lv_iconst (v := (nI 2)) hx hb dX4_begin_53 (by decide) ?_
                      refine x_icmp_ne E (nI_toI (by decide)) (nI_toI (by decide)) (tgt := 63) dX4_begin_54 (by decide) (fun c_11 => ?_) (fun c_11 => ?_)
                      · exact absurd c_11 (by decide)
                      · refine lv_ldc2 (v := (1048576)) hx hb E.2.2.2.1 (E.2.2.2.2 _ (List.mem_of_getElem? (i := 5) rfl)) dX4_begin_57 ?_
                        refine x_topl (v := lN 1048576) (by decide) ?_
                        refine lv_goto (tgt := 64) hx hb dX4_begin_60 (by decide) ?_
                        refine x_last E hw 2 (a := xo) (ws1 := [(x, .inr (4, [.ref xt, .int (nI nb), .int (nI pa), .int (nI pt), .int (nI off), .int (nI ha), .int (nI 3), .ref xw, .ref xo, .ref xh, .int (nI nl), .ref xr, .int (nI ns), .ref xs, .ref xi, .long tr, .int u1, .int u2, .int u3, .long u4, .ref xd, .int u5, .ref xf])), (xw, .inl (cJ G, 23, .inr (.inl (fJ (va_up (va_up (va_up gw 0 0) 1 (pa * 1048576)) 2 (pt * 1048576)))))), (xo, .inl (cJ G, 23, .inr (.inl (fJ (va_up (va_up (va_up go 0 0) 1 0) 2 1048576))))), (xh, .inl (cJ G, 23, .inr (.inl (fJ (va_up (va_up gh 0 0) 1 0)))))]) rfl rfl (show 2 < 23 by omega) (by omega) (fJ_up _ _ _) rfl dX4_begin_64 (fun H locs hw => ?_)
                        refine lv_aload_n hx hb dX4_begin_65 rfl (lv_at hl 1 rfl) ?_
                        refine x_get E hw (C := RX4) (T := TX4) (N := 23) hinX4 0 rfl rfl 9 (by decide) rfl (List.mem_of_getElem? (i := 7) rfl) dX4_begin_66 ?_
                        refine lv_iload_n hx hb dX4_begin_69 rfl (lv_at hl 0 rfl) ?_
                        refine lv_lconst (v := (lN 0)) hx hb dX4_begin_70 (by decide) ?_
                        refine x_last E hw 3 (a := xh) (ws1 := [(x, .inr (4, [.ref xt, .int (nI nb), .int (nI pa), .int (nI pt), .int (nI off), .int (nI ha), .int (nI 3), .ref xw, .ref xo, .ref xh, .int (nI nl), .ref xr, .int (nI ns), .ref xs, .ref xi, .long tr, .int u1, .int u2, .int u3, .long u4, .ref xd, .int u5, .ref xf])), (xw, .inl (cJ G, 23, .inr (.inl (fJ (va_up (va_up (va_up gw 0 0) 1 (pa * 1048576)) 2 (pt * 1048576)))))), (xo, .inl (cJ G, 23, .inr (.inl (fJ (va_up (va_up (va_up go 0 0) 1 0) 2 1048576))))), (xh, .inl (cJ G, 23, .inr (.inl (fJ (va_up (va_up (va_up gh 0 0) 1 0) 2 0)))))]) rfl rfl (show 2 < 23 by omega) (by omega) (fJ_up _ _ _) rfl dX4_begin_71 (fun H locs hw => ?_)
                        refine lv_iinc (v := (nI 3)) (lv' := [(1, .int (nI 3)), (0, .ref x)]) hx hb dX4_begin_72 hl (k := 0) rfl (by decide) (by decide) rfl (fun ls hl => ?_)
                        refine lv_goto (tgt := 7) hx hb dX4_begin_75 (by decide) ?_
                        refine lv_iload_n hx hb dX4_begin_7 rfl (lv_at hl 0 rfl) ?_
                        refine lv_iconst (v := (nI 3)) hx hb dX4_begin_8 (by decide) ?_
                        refine x_icmp_ge E (nI_toI (by decide)) (nI_toI (by decide)) (tgt := 78) dX4_begin_9 (by decide) (fun c_12 => ?_) (fun c_12 => ?_)
                        · exact hret () _ _ _ _ dX4_begin_78 trivial hw
                        · exact absurd c_12 (by decide)
                    · exact absurd c_10 (by decide)
                  · exact absurd c_9 (by decide)
              · exact absurd c_7 (by decide)
          · exact absurd c_5 (by decide)
      · exact absurd c_3 (by decide)

abbrev rm_X4_folds : Room := { frames := 0, cells := 0, slots := 0, locals := 0 }
set_option maxHeartbeats 4000000 in
set_option maxRecDepth 100000 in
theorem c_X4_folds (l : Launch) (G : XG) (x : Nat) (xt : Nat) (xw : Nat) (xo : Nat) (xh : Nat) (xr : Nat) (xs : Nat) (xi : Nat) (xd : Nat) (xf : Nat) (nb : Nat) (pa : Nat) (pt : Nat) (off : Nat) (ha : Nat) (n : Nat) (nl : Nat) (ns : Nat) (tr : Int64) (u1 : Int32) (u2 : Int32) (u3 : Int32) (u4 : Int64) (u5 : Int32) (i : Nat) (j : Nat) (gw : Nat → Nat) (go : Nat → Nat) (gh : Nat → Nat) (hn : n < 23) (hi : i < 23) (hj : j < 23) (hgw : ∀ q, gw q < 1073741824) (hgo : ∀ q, go q < 1073741824) (hgh : ∀ q, gh q < 1073741824) : CfV l yX4_folds wsX4_folds rm_X4_folds G [.ref x, .int (nI i), .int (nI j)] [(x, .inr (4, [.ref xt, .int (nI nb), .int (nI pa), .int (nI pt), .int (nI off), .int (nI ha), .int (nI n), .ref xw, .ref xo, .ref xh, .int (nI nl), .ref xr, .int (nI ns), .ref xs, .ref xi, .long tr, .int u1, .int u2, .int u3, .long u4, .ref xd, .int u5, .ref xf])), (xw, .inl (cJ G, 23, .inr (.inl (fJ gw)))), (xo, .inl (cJ G, 23, .inr (.inl (fJ go)))), (xh, .inl (cJ G, 23, .inr (.inl (fJ gh))))] [(x, .inr (4, [.ref xt, .int (nI nb), .int (nI pa), .int (nI pt), .int (nI off), .int (nI ha), .int (nI (n + 1)), .ref xw, .ref xo, .ref xh, .int (nI nl), .ref xr, .int (nI ns), .ref xs, .ref xi, .long tr, .int u1, .int u2, .int u3, .long u4, .ref xd, .int u5, .ref xf])), (xw, .inl (cJ G, 23, .inr (.inl (fJ (mid gw n i j))))), (xo, .inl (cJ G, 23, .inr (.inl (fJ (mid go n i j))))), (xh, .inl (cJ G, 23, .inr (.inl (fJ (midH gh n i j)))))] := by
  have h1 := hgw i
  have h2 := hgw j
  have h3 := hgo i
  have h4 := hgo j
  have h5 := hgh i
  have h6 := hgh j
  refine CtV.go (cc := cX4_folds) (maxL := 3) RX4 rfl (by decide) rfl (Nat.le_of_ble_eq_true rfl) ?_
  intro p e s m args below meth c A Q ls E hw hl hret
  have hx := E.1
  have hb := E.2.1
  have hinX4 : ∀ w ∈ wsX40, w ∈ wsX4_folds := (fun w h => List.mem_cons_of_mem _ (List.mem_append_right _ h))
  have hl : lv_has ls 3 [(0, .ref x), (1, .int (nI i)), (2, .int (nI j))] := hl
  refine lv_aload_n hx hb dX4_folds_0 rfl (lv_at hl 0 rfl) ?_
  refine x_get E hw (C := RX4) (T := TX4) (N := 23) hinX4 0 rfl rfl 7 (by decide) rfl (List.mem_of_getElem? (i := 1) rfl) dX4_folds_1 ?_
  refine lv_aload_n hx hb dX4_folds_4 rfl (lv_at hl 0 rfl) ?_
  refine x_get E hw (C := RX4) (T := TX4) (N := 23) hinX4 0 rfl rfl 6 (by decide) rfl (List.mem_of_getElem? (i := 2) rfl) dX4_folds_5 ?_
  refine lv_aload_n hx hb dX4_folds_8 rfl (lv_at hl 0 rfl) ?_
  refine x_get E hw (C := RX4) (T := TX4) (N := 23) hinX4 0 rfl rfl 7 (by decide) rfl (List.mem_of_getElem? (i := 1) rfl) dX4_folds_9 ?_
  refine lv_iload_n hx hb dX4_folds_12 rfl (lv_at hl 1 rfl) ?_
  refine x_lald E hw 1 (a := xw) (v := (lN (gw i))) rfl rfl (show i < 23 by omega) (by omega) rfl dX4_folds_13 ?_
  refine lv_aload_n hx hb dX4_folds_14 rfl (lv_at hl 0 rfl) ?_
  refine x_get E hw (C := RX4) (T := TX4) (N := 23) hinX4 0 rfl rfl 7 (by decide) rfl (List.mem_of_getElem? (i := 1) rfl) dX4_folds_15 ?_
  refine lv_iload_n hx hb dX4_folds_18 rfl (lv_at hl 2 rfl) ?_
  refine x_lald E hw 1 (a := xw) (v := (lN (gw j))) rfl rfl (show j < 23 by omega) (by omega) rfl dX4_folds_19 ?_
  refine x_ladd E (v := (lN ((gw i) + (gw j)))) dX4_folds_20 (lN_add _ _) ?_
  refine lv_ldc2 (v := (2)) hx hb E.2.2.2.1 (E.2.2.2.2 _ (List.mem_of_getElem? (i := 3) rfl)) dX4_folds_21 ?_
  refine x_topl (v := lN 2) (by decide) ?_
  refine x_ldiv E (v := (lN (((gw i) + (gw j)) / 2))) dX4_folds_24 (by decide) (pk_lDiv (by omega) (by omega) (by omega)) ?_
  refine x_last E hw 1 (a := xw) (ws1 := [(x, .inr (4, [.ref xt, .int (nI nb), .int (nI pa), .int (nI pt), .int (nI off), .int (nI ha), .int (nI n), .ref xw, .ref xo, .ref xh, .int (nI nl), .ref xr, .int (nI ns), .ref xs, .ref xi, .long tr, .int u1, .int u2, .int u3, .long u4, .ref xd, .int u5, .ref xf])), (xw, .inl (cJ G, 23, .inr (.inl (fJ (va_up gw n (((gw i) + (gw j)) / 2)))))), (xo, .inl (cJ G, 23, .inr (.inl (fJ go)))), (xh, .inl (cJ G, 23, .inr (.inl (fJ gh))))]) rfl rfl (show n < 23 by omega) (by omega) (fJ_up _ _ _) rfl dX4_folds_25 (fun H locs hw => ?_)
  refine lv_aload_n hx hb dX4_folds_26 rfl (lv_at hl 0 rfl) ?_
  refine x_get E hw (C := RX4) (T := TX4) (N := 23) hinX4 0 rfl rfl 8 (by decide) rfl (List.mem_of_getElem? (i := 4) rfl) dX4_folds_27 ?_
  refine lv_aload_n hx hb dX4_folds_30 rfl (lv_at hl 0 rfl) ?_
  refine x_get E hw (C := RX4) (T := TX4) (N := 23) hinX4 0 rfl rfl 6 (by decide) rfl (List.mem_of_getElem? (i := 2) rfl) dX4_folds_31 ?_
  refine lv_aload_n hx hb dX4_folds_34 rfl (lv_at hl 0 rfl) ?_
  refine x_get E hw (C := RX4) (T := TX4) (N := 23) hinX4 0 rfl rfl 8 (by decide) rfl (List.mem_of_getElem? (i := 4) rfl) dX4_folds_35 ?_
  refine lv_iload_n hx hb dX4_folds_38 rfl (lv_at hl 1 rfl) ?_
  refine x_lald E hw 2 (a := xo) (v := (lN (go i))) rfl rfl (show i < 23 by omega) (by omega) rfl dX4_folds_39 ?_
  refine lv_aload_n hx hb dX4_folds_40 rfl (lv_at hl 0 rfl) ?_
  refine x_get E hw (C := RX4) (T := TX4) (N := 23) hinX4 0 rfl rfl 8 (by decide) rfl (List.mem_of_getElem? (i := 4) rfl) dX4_folds_41 ?_
  refine lv_iload_n hx hb dX4_folds_44 rfl (lv_at hl 2 rfl) ?_
  refine x_lald E hw 2 (a := xo) (v := (lN (go j))) rfl rfl (show j < 23 by omega) (by omega) rfl dX4_folds_45 ?_
  refine x_ladd E (v := (lN ((go i) + (go j)))) dX4_folds_46 (lN_add _ _) ?_
  refine lv_ldc2 (v := (2)) hx hb E.2.2.2.1 (E.2.2.2.2 _ (List.mem_of_getElem? (i := 3) rfl)) dX4_folds_47 ?_
  refine x_topl (v := lN 2) (by decide) ?_
  refine x_ldiv E (v := (lN (((go i) + (go j)) / 2))) dX4_folds_50 (by decide) (pk_lDiv (by omega) (by omega) (by omega)) ?_
  refine x_last E hw 2 (a := xo) (ws1 := [(x, .inr (4, [.ref xt, .int (nI nb), .int (nI pa), .int (nI pt), .int (nI off), .int (nI ha), .int (nI n), .ref xw, .ref xo, .ref xh, .int (nI nl), .ref xr, .int (nI ns), .ref xs, .ref xi, .long tr, .int u1, .int u2, .int u3, .long u4, .ref xd, .int u5, .ref xf])), (xw, .inl (cJ G, 23, .inr (.inl (fJ (va_up gw n (((gw i) + (gw j)) / 2)))))), (xo, .inl (cJ G, 23, .inr (.inl (fJ (va_up go n (((go i) + (go j)) / 2)))))), (xh, .inl (cJ G, 23, .inr (.inl (fJ gh))))]) rfl rfl (show n < 23 by omega) (by omega) (fJ_up _ _ _) rfl dX4_folds_51 (fun H locs hw => ?_)
  refine lv_aload_n hx hb dX4_folds_52 rfl (lv_at hl 0 rfl) ?_
  refine x_get E hw (C := RX4) (T := TX4) (N := 23) hinX4 0 rfl rfl 9 (by decide) rfl (List.mem_of_getElem? (i := 5) rfl) dX4_folds_53 ?_
  refine lv_aload_n hx hb dX4_folds_56 rfl (lv_at hl 0 rfl) ?_
  refine x_get E hw (C := RX4) (T := TX4) (N := 23) hinX4 0 rfl rfl 6 (by decide) rfl (List.mem_of_getElem? (i := 2) rfl) dX4_folds_57 ?_
  refine lv_aload_n hx hb dX4_folds_60 rfl (lv_at hl 0 rfl) ?_
  refine x_get E hw (C := RX4) (T := TX4) (N := 23) hinX4 0 rfl rfl 9 (by decide) rfl (List.mem_of_getElem? (i := 5) rfl) dX4_folds_61 ?_
  refine lv_iload_n hx hb dX4_folds_64 rfl (lv_at hl 1 rfl) ?_
  refine x_lald E hw 3 (a := xh) (v := (lN (gh i))) rfl rfl (show i < 23 by omega) (by omega) rfl dX4_folds_65 ?_
  refine lv_aload_n hx hb dX4_folds_66 rfl (lv_at hl 0 rfl) ?_
  refine x_get E hw (C := RX4) (T := TX4) (N := 23) hinX4 0 rfl rfl 9 (by decide) rfl (List.mem_of_getElem? (i := 5) rfl) dX4_folds_67 ?_
  refine lv_iload_n hx hb dX4_folds_70 rfl (lv_at hl 2 rfl) ?_
  refine x_lald E hw 3 (a := xh) (v := (lN (gh j))) rfl rfl (show j < 23 by omega) (by omega) rfl dX4_folds_71 ?_
  refine x_ladd E (v := (lN ((gh i) + (gh j)))) dX4_folds_72 (lN_add _ _) ?_
  refine lv_ldc2 (v := (2)) hx hb E.2.2.2.1 (E.2.2.2.2 _ (List.mem_of_getElem? (i := 3) rfl)) dX4_folds_73 ?_
  refine x_topl (v := lN 2) (by decide) ?_
  refine x_ldiv E (v := (lN (((gh i) + (gh j)) / 2))) dX4_folds_76 (by decide) (pk_lDiv (by omega) (by omega) (by omega)) ?_
  refine lv_ldc2 (v := (1048576)) hx hb E.2.2.2.1 (E.2.2.2.2 _ (List.mem_of_getElem? (i := 6) rfl)) dX4_folds_77 ?_
  refine x_topl (v := lN 1048576) (by decide) ?_
  refine x_ladd E (v := (lN ((((gh i) + (gh j)) / 2) + 1048576))) dX4_folds_80 (lN_add _ _) ?_
  refine x_last E hw 3 (a := xh) (ws1 := [(x, .inr (4, [.ref xt, .int (nI nb), .int (nI pa), .int (nI pt), .int (nI off), .int (nI ha), .int (nI n), .ref xw, .ref xo, .ref xh, .int (nI nl), .ref xr, .int (nI ns), .ref xs, .ref xi, .long tr, .int u1, .int u2, .int u3, .long u4, .ref xd, .int u5, .ref xf])), (xw, .inl (cJ G, 23, .inr (.inl (fJ (va_up gw n (((gw i) + (gw j)) / 2)))))), (xo, .inl (cJ G, 23, .inr (.inl (fJ (va_up go n (((go i) + (go j)) / 2)))))), (xh, .inl (cJ G, 23, .inr (.inl (fJ (va_up gh n ((((gh i) + (gh j)) / 2) + 1048576))))))]) rfl rfl (show n < 23 by omega) (by omega) (fJ_up _ _ _) rfl dX4_folds_81 (fun H locs hw => ?_)
  refine lv_aload_n hx hb dX4_folds_82 rfl (lv_at hl 0 rfl) ?_
  refine lv_dup hx hb dX4_folds_83 rfl ?_
  refine x_get E hw (C := RX4) (T := TX4) (N := 23) hinX4 0 rfl rfl 6 (by decide) rfl (List.mem_of_getElem? (i := 2) rfl) dX4_folds_84 ?_
  refine lv_iconst (v := (nI 1)) hx hb dX4_folds_87 (by decide) ?_
  refine x_iadd E (v := (nI (n + 1))) dX4_folds_88 (nI_add _ _) ?_
  refine x_put E hw (C := RX4) (T := TX4) (N := 23) (ws1 := [(x, .inr (4, [.ref xt, .int (nI nb), .int (nI pa), .int (nI pt), .int (nI off), .int (nI ha), .int (nI (n + 1)), .ref xw, .ref xo, .ref xh, .int (nI nl), .ref xr, .int (nI ns), .ref xs, .ref xi, .long tr, .int u1, .int u2, .int u3, .long u4, .ref xd, .int u5, .ref xf])), (xw, .inl (cJ G, 23, .inr (.inl (fJ (va_up gw n (((gw i) + (gw j)) / 2)))))), (xo, .inl (cJ G, 23, .inr (.inl (fJ (va_up go n (((go i) + (go j)) / 2)))))), (xh, .inl (cJ G, 23, .inr (.inl (fJ (va_up gh n ((((gh i) + (gh j)) / 2) + 1048576))))))]) hinX4 tyX4_ok nmX4 0 rfl rfl 6 (by decide) (List.mem_of_getElem? (i := 2) rfl) rfl rfl rfl (Nat.le_of_ble_eq_true rfl) rfl dX4_folds_89 (fun H locs hw => ?_)
  exact hret () _ _ _ _ dX4_folds_92 trivial hw

abbrev rm_X4_clear : Room := { frames := 0, cells := 0, slots := 0, locals := 0 }
set_option maxHeartbeats 4000000 in
set_option maxRecDepth 100000 in
theorem c_X4_clear (l : Launch) (G : XG) (x : Nat) (xt : Nat) (xw : Nat) (xo : Nat) (xh : Nat) (xr : Nat) (xs : Nat) (xi : Nat) (xd : Nat) (xf : Nat) (nb : Nat) (pa : Nat) (pt : Nat) (off : Nat) (ha : Nat) (n : Nat) (nl : Nat) (ns : Nat) (tr : Int64) (u1 : Int32) (u2 : Int32) (u3 : Int32) (u4 : Int64) (u5 : Int32)  : CfI l yX4_clear wsX4_clear rm_X4_clear G [.ref x] [(x, .inr (4, [.ref xt, .int (nI nb), .int (nI pa), .int (nI pt), .int (nI off), .int (nI ha), .int (nI n), .ref xw, .ref xo, .ref xh, .int (nI nl), .ref xr, .int (nI ns), .ref xs, .ref xi, .long tr, .int u1, .int u2, .int u3, .long u4, .ref xd, .int u5, .ref xf]))] (nI nb) [(x, .inr (4, [.ref xt, .int (nI 0), .int (nI pa), .int (nI pt), .int (nI off), .int (nI ha), .int (nI n), .ref xw, .ref xo, .ref xh, .int (nI nl), .ref xr, .int (nI ns), .ref xs, .ref xi, .long tr, .int u1, .int u2, .int u3, .long u4, .ref xd, .int u5, .ref xf]))] := by
  refine CtI.go (cc := cX4_clear) (maxL := 2) RX4 rfl (by decide) rfl (Nat.le_of_ble_eq_true rfl) ?_
  intro p e s m args below meth c A Q ls E hw hl hret
  have hx := E.1
  have hb := E.2.1
  have hinX4 : ∀ w ∈ wsX40, w ∈ wsX4_clear := (fun w h => List.mem_cons_of_mem _ (List.mem_append_right _ h))
  have hl : lv_has ls 2 [(0, .ref x)] := hl
  refine lv_aload_n hx hb dX4_clear_0 rfl (lv_at hl 0 rfl) ?_
  refine x_get E hw (C := RX4) (T := TX4) (N := 23) hinX4 0 rfl rfl 1 (by decide) rfl (List.mem_of_getElem? (i := 1) rfl) dX4_clear_1 ?_
  refine lv_istore_n (lv' := [(1, .int (nI nb)), (0, .ref x)]) hx hb dX4_clear_4 rfl hl (by decide) rfl (fun ls hl => ?_)
  refine lv_aload_n hx hb dX4_clear_5 rfl (lv_at hl 1 rfl) ?_
  refine lv_iconst (v := (nI 0)) hx hb dX4_clear_6 (by decide) ?_
  refine x_put E hw (C := RX4) (T := TX4) (N := 23) (ws1 := [(x, .inr (4, [.ref xt, .int (nI 0), .int (nI pa), .int (nI pt), .int (nI off), .int (nI ha), .int (nI n), .ref xw, .ref xo, .ref xh, .int (nI nl), .ref xr, .int (nI ns), .ref xs, .ref xi, .long tr, .int u1, .int u2, .int u3, .long u4, .ref xd, .int u5, .ref xf]))]) hinX4 tyX4_ok nmX4 0 rfl rfl 1 (by decide) (List.mem_of_getElem? (i := 1) rfl) rfl rfl rfl (Nat.le_of_ble_eq_true rfl) rfl dX4_clear_7 (fun H locs hw => ?_)
  refine lv_iload_n hx hb dX4_clear_10 rfl (lv_at hl 0 rfl) ?_
  exact hret (nI nb) () _ _ _ _ dX4_clear_11 rfl rfl hw

abbrev rm_X4_type_bad : Room := { frames := 1, cells := 0, slots := 0, locals := 25 }
set_option maxHeartbeats 4000000 in
set_option maxRecDepth 100000 in
theorem c_X4_type_bad (l : Launch) (G : XG) (x : Nat) (xt : Nat) (xw : Nat) (xo : Nat) (xh : Nat) (xr : Nat) (xs : Nat) (xi : Nat) (xd : Nat) (xf : Nat) (nb : Nat) (pa : Nat) (pt : Nat) (off : Nat) (ha : Nat) (n : Nat) (nl : Nat) (ns : Nat) (tr : Int64) (u1 : Int32) (u2 : Int32) (u3 : Int32) (u4 : Int64) (u5 : Int32) (gb : Nat → Nat) (v : Int64) (k : Int32) (hbad : ¬ (1 ≤ k.toInt ∧ k.toInt ≤ 8)) : CfI l yX4_type wsX4_type rm_X4_type_bad G [.ref x, .long v, .int k] [(x, .inr (4, [.ref xt, .int (nI nb), .int (nI pa), .int (nI pt), .int (nI off), .int (nI ha), .int (nI n), .ref xw, .ref xo, .ref xh, .int (nI nl), .ref xr, .int (nI ns), .ref xs, .ref xi, .long tr, .int u1, .int u2, .int u3, .long u4, .ref xd, .int u5, .ref xf])), (xt, .inl (cI G, 200, .inl (fI gb)))] (-1 : Int32) [(x, .inr (4, [.ref xt, .int (nI nb), .int (nI pa), .int (nI pt), .int (nI off), .int (nI ha), .int (nI n), .ref xw, .ref xo, .ref xh, .int (nI nl), .ref xr, .int (nI ns), .ref xs, .ref xi, .long tr, .int u1, .int u2, .int u3, .long u4, .ref xd, .int u5, .ref xf])), (xt, .inl (cI G, 200, .inl (fI gb)))] := by
  refine CtI.go (cc := cX4_type) (maxL := 5) RX4 rfl (by decide) rfl (Nat.le_of_ble_eq_true rfl) ?_
  intro p e s m args below meth c A Q ls E hw hl hret
  have hx := E.1
  have hb := E.2.1
  have hl : lv_has ls 5 [(0, .ref x), (1, .long v), (3, .int k)] := hl
  refine lv_iload_n hx hb dX4_type_0 rfl (lv_at hl 2 rfl) ?_
  refine lv_i2l (v := k.toInt64) hx hb dX4_type_1 rfl ?_
  refine lv_lconst (v := (lN 1)) hx hb dX4_type_2 (by decide) ?_
  refine lv_ldc2 (v := (8)) hx hb E.2.2.2.1 (E.2.2.2.2 _ (List.mem_of_getElem? (i := 1) rfl)) dX4_type_3 ?_
  refine x_topl (v := lN 8) (by decide) ?_
  refine x_cfSi E hw hl.1 (As := [.long k.toInt64, .long (lN 1), .long (lN 8)]) (rest := []) (c_X4_in l G k.toInt64 (lN 1) (lN 8) k.toInt (1 : Int) (8 : Int) ((Int32.toInt_toInt64 _).trans rfl) (lN_toI (by decide)) (lN_toI (by decide))) 3 gX4_type_X4_in rfl rfl rfl (by decide) ⟨Nat.le_of_ble_eq_true rfl, Nat.le_of_ble_eq_true rfl⟩ ⟨Nat.le_of_ble_eq_true rfl, Nat.le_of_ble_eq_true rfl⟩ rfl [] [0, 1] rfl rfl rfl rfl rfl [0, 1] [(x, .inr (4, [.ref xt, .int (nI nb), .int (nI pa), .int (nI pt), .int (nI off), .int (nI ha), .int (nI n), .ref xw, .ref xo, .ref xh, .int (nI nl), .ref xr, .int (nI ns), .ref xs, .ref xi, .long tr, .int u1, .int u2, .int u3, .long u4, .ref xd, .int u5, .ref xf])), (xt, .inl (cI G, 200, .inl (fI gb)))] rfl rfl rfl (Nat.le_of_ble_eq_true rfl) dX4_type_6 (fun H locs hw => ?_)
  refine x_ifb_ne E (P := (1 : Int) ≤ k.toInt ∧ k.toInt ≤ (8 : Int)) (tgt := 14) dX4_type_9 (by decide) (fun c_1 => ?_) (fun c_1 => ?_)
  · exfalso; omega
  · refine lv_iconst (v := (-1 : Int32)) hx hb dX4_type_12 (by decide) ?_
    exact hret (-1 : Int32) () _ _ _ _ dX4_type_13 rfl rfl hw

abbrev rm_X4_type_full : Room := { frames := 1, cells := 0, slots := 0, locals := 25 }
set_option maxHeartbeats 4000000 in
set_option maxRecDepth 100000 in
theorem c_X4_type_full (l : Launch) (G : XG) (x : Nat) (xt : Nat) (xw : Nat) (xo : Nat) (xh : Nat) (xr : Nat) (xs : Nat) (xi : Nat) (xd : Nat) (xf : Nat) (nb : Nat) (pa : Nat) (pt : Nat) (off : Nat) (ha : Nat) (n : Nat) (nl : Nat) (ns : Nat) (tr : Int64) (u1 : Int32) (u2 : Int32) (u3 : Int32) (u4 : Int64) (u5 : Int32) (gb : Nat → Nat) (v : Int64) (k : Nat) (hk1 : 1 ≤ k) (hk8 : k ≤ 8) (hnb : nb ≤ 200) (hf : 200 < nb + k) : CfI l yX4_type wsX4_type rm_X4_type_full G [.ref x, .long v, .int (nI k)] [(x, .inr (4, [.ref xt, .int (nI nb), .int (nI pa), .int (nI pt), .int (nI off), .int (nI ha), .int (nI n), .ref xw, .ref xo, .ref xh, .int (nI nl), .ref xr, .int (nI ns), .ref xs, .ref xi, .long tr, .int u1, .int u2, .int u3, .long u4, .ref xd, .int u5, .ref xf])), (xt, .inl (cI G, 200, .inl (fI gb)))] (-3 : Int32) [(x, .inr (4, [.ref xt, .int (nI nb), .int (nI pa), .int (nI pt), .int (nI off), .int (nI ha), .int (nI n), .ref xw, .ref xo, .ref xh, .int (nI nl), .ref xr, .int (nI ns), .ref xs, .ref xi, .long tr, .int u1, .int u2, .int u3, .long u4, .ref xd, .int u5, .ref xf])), (xt, .inl (cI G, 200, .inl (fI gb)))] := by
  refine CtI.go (cc := cX4_type) (maxL := 5) RX4 rfl (by decide) rfl (Nat.le_of_ble_eq_true rfl) ?_
  intro p e s m args below meth c A Q ls E hw hl hret
  have hx := E.1
  have hb := E.2.1
  have hinX4 : ∀ w ∈ wsX40, w ∈ wsX4_type := (fun w h => List.mem_cons_of_mem _ (List.mem_append_right _ h))
  have hl : lv_has ls 5 [(0, .ref x), (1, .long v), (3, .int (nI k))] := hl
  refine lv_iload_n hx hb dX4_type_0 rfl (lv_at hl 2 rfl) ?_
  refine lv_i2l (v := (lN k)) hx hb dX4_type_1 (nI_l (by omega)) ?_
  refine lv_lconst (v := (lN 1)) hx hb dX4_type_2 (by decide) ?_
  refine lv_ldc2 (v := (8)) hx hb E.2.2.2.1 (E.2.2.2.2 _ (List.mem_of_getElem? (i := 1) rfl)) dX4_type_3 ?_
  refine x_topl (v := lN 8) (by decide) ?_
  refine x_cfSi E hw hl.1 (As := [.long (lN k), .long (lN 1), .long (lN 8)]) (rest := []) (c_X4_in l G (lN k) (lN 1) (lN 8) ((k : Nat) : Int) (1 : Int) (8 : Int) (lN_toI (show k < 9223372036854775808 by omega)) (lN_toI (by decide)) (lN_toI (by decide))) 3 gX4_type_X4_in rfl rfl rfl (by decide) ⟨Nat.le_of_ble_eq_true rfl, Nat.le_of_ble_eq_true rfl⟩ ⟨Nat.le_of_ble_eq_true rfl, Nat.le_of_ble_eq_true rfl⟩ rfl [] [0, 1] rfl rfl rfl rfl rfl [0, 1] [(x, .inr (4, [.ref xt, .int (nI nb), .int (nI pa), .int (nI pt), .int (nI off), .int (nI ha), .int (nI n), .ref xw, .ref xo, .ref xh, .int (nI nl), .ref xr, .int (nI ns), .ref xs, .ref xi, .long tr, .int u1, .int u2, .int u3, .long u4, .ref xd, .int u5, .ref xf])), (xt, .inl (cI G, 200, .inl (fI gb)))] rfl rfl rfl (Nat.le_of_ble_eq_true rfl) dX4_type_6 (fun H locs hw => ?_)
  refine x_ifb_ne E (P := (1 : Int) ≤ ((k : Nat) : Int) ∧ ((k : Nat) : Int) ≤ (8 : Int)) (tgt := 14) dX4_type_9 (by decide) (fun c_1 => ?_) (fun c_1 => ?_)
  · refine lv_aload_n hx hb dX4_type_14 rfl (lv_at hl 0 rfl) ?_
    refine x_get E hw (C := RX4) (T := TX4) (N := 23) hinX4 0 rfl rfl 1 (by decide) rfl (List.mem_of_getElem? (i := 2) rfl) dX4_type_15 ?_
    refine lv_iload_n hx hb dX4_type_18 rfl (lv_at hl 2 rfl) ?_
    refine x_iadd E (v := (nI (nb + k))) dX4_type_19 (nI_add _ _) ?_
    refine lv_sipush (v := (nI 200)) hx hb dX4_type_20 (by decide) ?_
    refine x_icmp_le E (nI_toI (show nb + k < 2147483648 by omega)) (nI_toI (by decide)) (tgt := 29) dX4_type_23 (by decide) (fun c_2 => ?_) (fun c_2 => ?_)
    · exfalso; omega
    · refine lv_bipush (v := (-3 : Int32)) hx hb dX4_type_26 (by decide) ?_
      exact hret (-3 : Int32) () _ _ _ _ dX4_type_28 rfl rfl hw
  · exfalso; omega

abbrev rm_X4_type_ok : Room := { frames := 1, cells := 0, slots := 0, locals := 25 }
set_option maxHeartbeats 4000000 in
set_option maxRecDepth 100000 in
theorem c_X4_type_ok (l : Launch) (G : XG) (x : Nat) (xt : Nat) (xw : Nat) (xo : Nat) (xh : Nat) (xr : Nat) (xs : Nat) (xi : Nat) (xd : Nat) (xf : Nat) (nb : Nat) (pa : Nat) (pt : Nat) (off : Nat) (ha : Nat) (n : Nat) (nl : Nat) (ns : Nat) (tr : Int64) (u1 : Int32) (u2 : Int32) (u3 : Int32) (u4 : Int64) (u5 : Int32) (gb : Nat → Nat) (v : Int64) (k : Nat) (hk1 : 1 ≤ k) (hk8 : k ≤ 8) (hf : nb + k ≤ 200) : CfI l yX4_type wsX4_type rm_X4_type_ok G [.ref x, .long v, .int (nI k)] [(x, .inr (4, [.ref xt, .int (nI nb), .int (nI pa), .int (nI pt), .int (nI off), .int (nI ha), .int (nI n), .ref xw, .ref xo, .ref xh, .int (nI nl), .ref xr, .int (nI ns), .ref xs, .ref xi, .long tr, .int u1, .int u2, .int u3, .long u4, .ref xd, .int u5, .ref xf])), (xt, .inl (cI G, 200, .inl (fI gb)))] (nI (nb + k)) [(x, .inr (4, [.ref xt, .int (nI (nb + k)), .int (nI pa), .int (nI pt), .int (nI off), .int (nI ha), .int (nI n), .ref xw, .ref xo, .ref xh, .int (nI nl), .ref xr, .int (nI ns), .ref xs, .ref xi, .long tr, .int u1, .int u2, .int u3, .long u4, .ref xd, .int u5, .ref xf])), (xt, .inl (cI G, 200, .inl (fI (tyR v k gb nb))))] := by
  refine CtI.go (cc := cX4_type) (maxL := 5) RX4 rfl (by decide) rfl (Nat.le_of_ble_eq_true rfl) ?_
  intro p e s m args below meth c A Q ls E hw hl hret
  have hx := E.1
  have hb := E.2.1
  have hinX4 : ∀ w ∈ wsX40, w ∈ wsX4_type := (fun w h => List.mem_cons_of_mem _ (List.mem_append_right _ h))
  have hl : lv_has ls 5 [(0, .ref x), (1, .long v), (3, .int (nI k))] := hl
  refine lv_iload_n hx hb dX4_type_0 rfl (lv_at hl 2 rfl) ?_
  refine lv_i2l (v := (lN k)) hx hb dX4_type_1 (nI_l (by omega)) ?_
  refine lv_lconst (v := (lN 1)) hx hb dX4_type_2 (by decide) ?_
  refine lv_ldc2 (v := (8)) hx hb E.2.2.2.1 (E.2.2.2.2 _ (List.mem_of_getElem? (i := 1) rfl)) dX4_type_3 ?_
  refine x_topl (v := lN 8) (by decide) ?_
  refine x_cfSi E hw hl.1 (As := [.long (lN k), .long (lN 1), .long (lN 8)]) (rest := []) (c_X4_in l G (lN k) (lN 1) (lN 8) ((k : Nat) : Int) (1 : Int) (8 : Int) (lN_toI (show k < 9223372036854775808 by omega)) (lN_toI (by decide)) (lN_toI (by decide))) 3 gX4_type_X4_in rfl rfl rfl (by decide) ⟨Nat.le_of_ble_eq_true rfl, Nat.le_of_ble_eq_true rfl⟩ ⟨Nat.le_of_ble_eq_true rfl, Nat.le_of_ble_eq_true rfl⟩ rfl [] [0, 1] rfl rfl rfl rfl rfl [0, 1] [(x, .inr (4, [.ref xt, .int (nI nb), .int (nI pa), .int (nI pt), .int (nI off), .int (nI ha), .int (nI n), .ref xw, .ref xo, .ref xh, .int (nI nl), .ref xr, .int (nI ns), .ref xs, .ref xi, .long tr, .int u1, .int u2, .int u3, .long u4, .ref xd, .int u5, .ref xf])), (xt, .inl (cI G, 200, .inl (fI gb)))] rfl rfl rfl (Nat.le_of_ble_eq_true rfl) dX4_type_6 (fun H locs hw => ?_)
  refine x_ifb_ne E (P := (1 : Int) ≤ ((k : Nat) : Int) ∧ ((k : Nat) : Int) ≤ (8 : Int)) (tgt := 14) dX4_type_9 (by decide) (fun c_1 => ?_) (fun c_1 => ?_)
  · refine lv_aload_n hx hb dX4_type_14 rfl (lv_at hl 0 rfl) ?_
    refine x_get E hw (C := RX4) (T := TX4) (N := 23) hinX4 0 rfl rfl 1 (by decide) rfl (List.mem_of_getElem? (i := 2) rfl) dX4_type_15 ?_
    refine lv_iload_n hx hb dX4_type_18 rfl (lv_at hl 2 rfl) ?_
    refine x_iadd E (v := (nI (nb + k))) dX4_type_19 (nI_add _ _) ?_
    refine lv_sipush (v := (nI 200)) hx hb dX4_type_20 (by decide) ?_
    refine x_icmp_le E (nI_toI (show nb + k < 2147483648 by omega)) (nI_toI (by decide)) (tgt := 29) dX4_type_23 (by decide) (fun c_2 => ?_) (fun c_2 => ?_)
    · refine lv_iload_n hx hb dX4_type_29 rfl (lv_at hl 2 rfl) ?_
      refine lv_iconst (v := (nI 1)) hx hb dX4_type_30 (by decide) ?_
      refine x_isub E (v := (nI k + (-1))) dX4_type_31 (x_subm1 _) ?_
      refine lv_istore (lv' := [(4, .int (nI k + (-1))), (0, .ref x), (1, .long v), (3, .int (nI k))]) hx hb dX4_type_32 hl (by decide) rfl (fun ls hl => ?_)
      have loop_34 : ∀ (fu : Nat) (h : Nat) (z : Nat) (gg : Nat → Nat), h ≤ 8 → z + h = nb + k → tyR v h gg z = tyR v k gb nb → h < fu → ∀ (H : Heap) (locs : List Loc) (ls : Array Slot), Wd G s A [(x, .inr (4, [.ref xt, .int (nI z), .int (nI pa), .int (nI pt), .int (nI off), .int (nI ha), .int (nI n), .ref xw, .ref xo, .ref xh, .int (nI nl), .ref xr, .int (nI ns), .ref xs, .ref xi, .long tr, .int u1, .int u2, .int u3, .long u4, .ref xd, .int u5, .ref xf])), (xt, .inl (cI G, 200, .inl (fI gg)))] H locs → lv_has ls 5 [(0, .ref x), (1, .long v), (4, .int (nI h + (-1)))] → W p l e rm_X4_type_ok s m args below meth c H locs 0 0 Q (F0 m 34 ls []) := by
        intro fu
        induction fu with
        | zero =>
          intro h z gg hh hz hinv hmu
          exact absurd hmu (Nat.not_lt_zero _)
        | succ fu ih_34 =>
          intro h z gg hh hz hinv hmu_34 H locs ls hw hl
          refine lv_iload hx hb dX4_type_34 (lv_at hl 2 rfl) ?_
          refine x_if_lt E (x_m1 (show h < 2147483648 by omega)) (tgt := 76) dX4_type_36 (by decide) (fun c_3 => ?_) (fun c_3 => ?_)
          · obtain rfl : h = 0 := by omega
            refine lv_aload_n hx hb dX4_type_76 rfl (lv_at hl 0 rfl) ?_
            refine x_get E hw (C := RX4) (T := TX4) (N := 23) hinX4 0 rfl rfl 1 (by decide) rfl (List.mem_of_getElem? (i := 2) rfl) dX4_type_77 ?_
            exact hret (nI z) () _ _ _ _ dX4_type_80 rfl (by rw [show z = nb + k by omega]) (hw.cast (by rw [← hinv, show z = nb + k by omega]; rfl))
          · obtain ⟨i, rfl⟩ : ∃ i, h = i + 1 := ⟨h - 1, by omega⟩
            rw [pk_m1] at hl
            refine lv_aload_n hx hb dX4_type_39 rfl (lv_at hl 0 rfl) ?_
            refine x_get E hw (C := RX4) (T := TX4) (N := 23) hinX4 0 rfl rfl 0 (by decide) rfl (List.mem_of_getElem? (i := 3) rfl) dX4_type_40 ?_
            refine lv_aload_n hx hb dX4_type_43 rfl (lv_at hl 0 rfl) ?_
            refine x_get E hw (C := RX4) (T := TX4) (N := 23) hinX4 0 rfl rfl 1 (by decide) rfl (List.mem_of_getElem? (i := 2) rfl) dX4_type_44 ?_
            refine lv_lload_n hx hb dX4_type_47 rfl (lv_at hl 1 rfl) ?_
            refine lv_bipush (v := (nI 8)) hx hb dX4_type_48 (by decide) ?_
            refine lv_iload hx hb dX4_type_50 (lv_at hl 2 rfl) ?_
            refine x_imul E (v := (nI (8 * i))) dX4_type_52 (pk_mul _ _) ?_
            refine lv_lshr (v := (v >>> ((nI (8 * i)).toInt64 &&& 63))) hx hb dX4_type_53 rfl ?_
            refine lv_ldc2 (v := (255)) hx hb E.2.2.2.1 (E.2.2.2.2 _ (List.mem_of_getElem? (i := 4) rfl)) dX4_type_54 ?_
            refine x_topl (v := lN 255) (by decide) ?_
            refine x_land E (v := (lN (by8 v i))) dX4_type_57 (by8_ok v i) ?_
            refine lv_l2i (v := (nI (by8 v i))) hx hb dX4_type_58 (lN_i _) ?_
            refine x_iast E hw 1 (a := xt) (ws1 := [(x, .inr (4, [.ref xt, .int (nI z), .int (nI pa), .int (nI pt), .int (nI off), .int (nI ha), .int (nI n), .ref xw, .ref xo, .ref xh, .int (nI nl), .ref xr, .int (nI ns), .ref xs, .ref xi, .long tr, .int u1, .int u2, .int u3, .long u4, .ref xd, .int u5, .ref xf])), (xt, .inl (cI G, 200, .inl (fI (va_up gg z (by8 v i)))))]) rfl rfl (show z < 200 by omega) (by omega) (fI_up _ _ _) rfl dX4_type_59 (fun H locs hw => ?_)
            refine lv_aload_n hx hb dX4_type_60 rfl (lv_at hl 0 rfl) ?_
            refine lv_dup hx hb dX4_type_61 rfl ?_
            refine x_get E hw (C := RX4) (T := TX4) (N := 23) hinX4 0 rfl rfl 1 (by decide) rfl (List.mem_of_getElem? (i := 2) rfl) dX4_type_62 ?_
            refine lv_iconst (v := (nI 1)) hx hb dX4_type_65 (by decide) ?_
            refine x_iadd E (v := (nI (z + 1))) dX4_type_66 (nI_add _ _) ?_
            refine x_put E hw (C := RX4) (T := TX4) (N := 23) (ws1 := [(x, .inr (4, [.ref xt, .int (nI (z + 1)), .int (nI pa), .int (nI pt), .int (nI off), .int (nI ha), .int (nI n), .ref xw, .ref xo, .ref xh, .int (nI nl), .ref xr, .int (nI ns), .ref xs, .ref xi, .long tr, .int u1, .int u2, .int u3, .long u4, .ref xd, .int u5, .ref xf])), (xt, .inl (cI G, 200, .inl (fI (va_up gg z (by8 v i)))))]) hinX4 tyX4_ok nmX4 0 rfl rfl 1 (by decide) (List.mem_of_getElem? (i := 2) rfl) rfl rfl rfl (Nat.le_of_ble_eq_true rfl) rfl dX4_type_67 (fun H locs hw => ?_)
            refine lv_iinc (v := (nI i + (-1))) (lv' := [(4, .int (nI i + (-1))), (0, .ref x), (1, .long v)]) hx hb dX4_type_70 hl (k := 2) rfl (x_decm1 _) (by decide) rfl (fun ls hl => ?_)
            refine lv_goto (tgt := 34) hx hb dX4_type_73 (by decide) ?_
            exact ih_34 i (z + 1) (va_up gg z (by8 v i)) (by omega) (by omega) hinv (by omega) _ _ _ hw (lv_sub hl [1, 2, 0] rfl)
      exact loop_34 (k + 1) k nb gb (by omega) (by omega) rfl (Nat.lt_succ_self _) _ _ _ hw (lv_sub hl [1, 2, 0] rfl)
    · exfalso; omega
  · exfalso; omega

abbrev rm_X4_isCrease : Room := { frames := 1, cells := 0, slots := 0, locals := 25 }
set_option maxHeartbeats 4000000 in
set_option maxRecDepth 100000 in
theorem c_X4_isCrease (l : Launch) (G : XG) (x : Nat) (xt : Nat) (xw : Nat) (xo : Nat) (xh : Nat) (xr : Nat) (xs : Nat) (xi : Nat) (xd : Nat) (xf : Nat) (nb : Nat) (pa : Nat) (pt : Nat) (off : Nat) (ha : Nat) (n : Nat) (nl : Nat) (ns : Nat) (tr : Int64) (u1 : Int32) (u2 : Int32) (u3 : Int32) (u4 : Int64) (u5 : Int32) (k : Int32) (hn : n ≤ 23) (hn3 : 3 ≤ n) : CfI l yX4_isCrease wsX4_isCrease rm_X4_isCrease G [.ref x, .int k] [(x, .inr (4, [.ref xt, .int (nI nb), .int (nI pa), .int (nI pt), .int (nI off), .int (nI ha), .int (nI n), .ref xw, .ref xo, .ref xh, .int (nI nl), .ref xr, .int (nI ns), .ref xs, .ref xi, .long tr, .int u1, .int u2, .int u3, .long u4, .ref xd, .int u5, .ref xf]))] (if 0 ≤ k.toInt ∧ k.toInt < (n : Int) then 1 else 0) [(x, .inr (4, [.ref xt, .int (nI nb), .int (nI pa), .int (nI pt), .int (nI off), .int (nI ha), .int (nI n), .ref xw, .ref xo, .ref xh, .int (nI nl), .ref xr, .int (nI ns), .ref xs, .ref xi, .long tr, .int u1, .int u2, .int u3, .long u4, .ref xd, .int u5, .ref xf]))] := by
  refine CtI.go (cc := cX4_isCrease) (maxL := 2) RX4 rfl (by decide) rfl (Nat.le_of_ble_eq_true rfl) ?_
  intro p e s m args below meth c A Q ls E hw hl hret
  have hx := E.1
  have hb := E.2.1
  have hinX4 : ∀ w ∈ wsX40, w ∈ wsX4_isCrease := (fun w h => List.mem_cons_of_mem _ (List.mem_append_right _ h))
  have hl : lv_has ls 2 [(0, .ref x), (1, .int k)] := hl
  refine lv_iload_n hx hb dX4_isCrease_0 rfl (lv_at hl 1 rfl) ?_
  refine lv_i2l (v := k.toInt64) hx hb dX4_isCrease_1 rfl ?_
  refine lv_lconst (v := (lN 0)) hx hb dX4_isCrease_2 (by decide) ?_
  refine lv_aload_n hx hb dX4_isCrease_3 rfl (lv_at hl 0 rfl) ?_
  refine x_get E hw (C := RX4) (T := TX4) (N := 23) hinX4 0 rfl rfl 6 (by decide) rfl (List.mem_of_getElem? (i := 1) rfl) dX4_isCrease_4 ?_
  refine lv_iconst (v := (nI 1)) hx hb dX4_isCrease_7 (by decide) ?_
  refine x_isub E (v := (nI (n - 1))) dX4_isCrease_8 (pk_sub (by omega)) ?_
  refine lv_i2l (v := (lN (n - 1))) hx hb dX4_isCrease_9 (nI_l (by omega)) ?_
  refine x_cfSi E hw hl.1 (As := [.long k.toInt64, .long (lN 0), .long (lN (n - 1))]) (rest := []) (c_X4_in l G k.toInt64 (lN 0) (lN (n - 1)) k.toInt (0 : Int) ((n - 1 : Nat) : Int) ((Int32.toInt_toInt64 _).trans rfl) (lN_toI (by decide)) (lN_toI (show n - 1 < 9223372036854775808 by omega))) 3 gX4_isCrease_X4_in rfl rfl rfl (by decide) ⟨Nat.le_of_ble_eq_true rfl, Nat.le_of_ble_eq_true rfl⟩ ⟨Nat.le_of_ble_eq_true rfl, Nat.le_of_ble_eq_true rfl⟩ rfl [] [0] rfl rfl rfl rfl rfl [0] [(x, .inr (4, [.ref xt, .int (nI nb), .int (nI pa), .int (nI pt), .int (nI off), .int (nI ha), .int (nI n), .ref xw, .ref xo, .ref xh, .int (nI nl), .ref xr, .int (nI ns), .ref xs, .ref xi, .long tr, .int u1, .int u2, .int u3, .long u4, .ref xd, .int u5, .ref xf]))] rfl rfl rfl (Nat.le_of_ble_eq_true rfl) dX4_isCrease_10 (fun H locs hw => ?_)
  exact hret (if (0 : Int) ≤ k.toInt ∧ k.toInt ≤ ((n - 1 : Nat) : Int) then 1 else 0) () _ _ _ _ dX4_isCrease_13 x_narZ (x_iteC (by omega)) hw

abbrev rm_X4_isCreaseN : Room := { frames := 1, cells := 0, slots := 0, locals := 25 }
set_option maxHeartbeats 4000000 in
set_option maxRecDepth 100000 in
theorem c_X4_isCreaseN (l : Launch) (G : XG) (x : Nat) (xt : Nat) (xw : Nat) (xo : Nat) (xh : Nat) (xr : Nat) (xs : Nat) (xi : Nat) (xd : Nat) (xf : Nat) (nb : Nat) (pa : Nat) (pt : Nat) (off : Nat) (ha : Nat) (n : Nat) (nl : Nat) (ns : Nat) (tr : Int64) (u1 : Int32) (u2 : Int32) (u3 : Int32) (u4 : Int64) (u5 : Int32) (k : Nat) (hn : n ≤ 23) (hn3 : 3 ≤ n) (hk : k < 2147483648) : CfI l yX4_isCrease wsX4_isCrease rm_X4_isCreaseN G [.ref x, .int (nI k)] [(x, .inr (4, [.ref xt, .int (nI nb), .int (nI pa), .int (nI pt), .int (nI off), .int (nI ha), .int (nI n), .ref xw, .ref xo, .ref xh, .int (nI nl), .ref xr, .int (nI ns), .ref xs, .ref xi, .long tr, .int u1, .int u2, .int u3, .long u4, .ref xd, .int u5, .ref xf]))] (if k < n then 1 else 0) [(x, .inr (4, [.ref xt, .int (nI nb), .int (nI pa), .int (nI pt), .int (nI off), .int (nI ha), .int (nI n), .ref xw, .ref xo, .ref xh, .int (nI nl), .ref xr, .int (nI ns), .ref xs, .ref xi, .long tr, .int u1, .int u2, .int u3, .long u4, .ref xd, .int u5, .ref xf]))] := by
  refine CtI.go (cc := cX4_isCrease) (maxL := 2) RX4 rfl (by decide) rfl (Nat.le_of_ble_eq_true rfl) ?_
  intro p e s m args below meth c A Q ls E hw hl hret
  have hx := E.1
  have hb := E.2.1
  have hinX4 : ∀ w ∈ wsX40, w ∈ wsX4_isCrease := (fun w h => List.mem_cons_of_mem _ (List.mem_append_right _ h))
  have hl : lv_has ls 2 [(0, .ref x), (1, .int (nI k))] := hl
  refine lv_iload_n hx hb dX4_isCrease_0 rfl (lv_at hl 1 rfl) ?_
  refine lv_i2l (v := (lN k)) hx hb dX4_isCrease_1 (nI_l (by omega)) ?_
  refine lv_lconst (v := (lN 0)) hx hb dX4_isCrease_2 (by decide) ?_
  refine lv_aload_n hx hb dX4_isCrease_3 rfl (lv_at hl 0 rfl) ?_
  refine x_get E hw (C := RX4) (T := TX4) (N := 23) hinX4 0 rfl rfl 6 (by decide) rfl (List.mem_of_getElem? (i := 1) rfl) dX4_isCrease_4 ?_
  refine lv_iconst (v := (nI 1)) hx hb dX4_isCrease_7 (by decide) ?_
  refine x_isub E (v := (nI (n - 1))) dX4_isCrease_8 (pk_sub (by omega)) ?_
  refine lv_i2l (v := (lN (n - 1))) hx hb dX4_isCrease_9 (nI_l (by omega)) ?_
  refine x_cfSi E hw hl.1 (As := [.long (lN k), .long (lN 0), .long (lN (n - 1))]) (rest := []) (c_X4_in l G (lN k) (lN 0) (lN (n - 1)) ((k : Nat) : Int) (0 : Int) ((n - 1 : Nat) : Int) (lN_toI (show k < 9223372036854775808 by omega)) (lN_toI (by decide)) (lN_toI (show n - 1 < 9223372036854775808 by omega))) 3 gX4_isCrease_X4_in rfl rfl rfl (by decide) ⟨Nat.le_of_ble_eq_true rfl, Nat.le_of_ble_eq_true rfl⟩ ⟨Nat.le_of_ble_eq_true rfl, Nat.le_of_ble_eq_true rfl⟩ rfl [] [0] rfl rfl rfl rfl rfl [0] [(x, .inr (4, [.ref xt, .int (nI nb), .int (nI pa), .int (nI pt), .int (nI off), .int (nI ha), .int (nI n), .ref xw, .ref xo, .ref xh, .int (nI nl), .ref xr, .int (nI ns), .ref xs, .ref xi, .long tr, .int u1, .int u2, .int u3, .long u4, .ref xd, .int u5, .ref xf]))] rfl rfl rfl (Nat.le_of_ble_eq_true rfl) dX4_isCrease_10 (fun H locs hw => ?_)
  exact hret (if (0 : Int) ≤ ((k : Nat) : Int) ∧ ((k : Nat) : Int) ≤ ((n - 1 : Nat) : Int) then 1 else 0) () _ _ _ _ dX4_isCrease_13 x_narZ (x_iteC (by omega)) hw

abbrev rm_X4_isPart : Room := { frames := 1, cells := 0, slots := 0, locals := 25 }
set_option maxHeartbeats 4000000 in
set_option maxRecDepth 100000 in
theorem c_X4_isPart (l : Launch) (G : XG) (x : Nat) (xt : Nat) (xw : Nat) (xo : Nat) (xh : Nat) (xr : Nat) (xs : Nat) (xi : Nat) (xd : Nat) (xf : Nat) (nb : Nat) (pa : Nat) (pt : Nat) (off : Nat) (ha : Nat) (n : Nat) (nl : Nat) (ns : Nat) (tr : Int64) (u1 : Int32) (u2 : Int32) (u3 : Int32) (u4 : Int64) (u5 : Int32) (j : Int32) (hpa : pa ≤ 63) (hpa3 : 3 ≤ pa) : CfI l yX4_isPart wsX4_isPart rm_X4_isPart G [.ref x, .int j] [(x, .inr (4, [.ref xt, .int (nI nb), .int (nI pa), .int (nI pt), .int (nI off), .int (nI ha), .int (nI n), .ref xw, .ref xo, .ref xh, .int (nI nl), .ref xr, .int (nI ns), .ref xs, .ref xi, .long tr, .int u1, .int u2, .int u3, .long u4, .ref xd, .int u5, .ref xf]))] (if 1 ≤ j.toInt ∧ j.toInt < (pa : Int) then 1 else 0) [(x, .inr (4, [.ref xt, .int (nI nb), .int (nI pa), .int (nI pt), .int (nI off), .int (nI ha), .int (nI n), .ref xw, .ref xo, .ref xh, .int (nI nl), .ref xr, .int (nI ns), .ref xs, .ref xi, .long tr, .int u1, .int u2, .int u3, .long u4, .ref xd, .int u5, .ref xf]))] := by
  refine CtI.go (cc := cX4_isPart) (maxL := 2) RX4 rfl (by decide) rfl (Nat.le_of_ble_eq_true rfl) ?_
  intro p e s m args below meth c A Q ls E hw hl hret
  have hx := E.1
  have hb := E.2.1
  have hinX4 : ∀ w ∈ wsX40, w ∈ wsX4_isPart := (fun w h => List.mem_cons_of_mem _ (List.mem_append_right _ h))
  have hl : lv_has ls 2 [(0, .ref x), (1, .int j)] := hl
  refine lv_iload_n hx hb dX4_isPart_0 rfl (lv_at hl 1 rfl) ?_
  refine lv_i2l (v := j.toInt64) hx hb dX4_isPart_1 rfl ?_
  refine lv_lconst (v := (lN 1)) hx hb dX4_isPart_2 (by decide) ?_
  refine lv_aload_n hx hb dX4_isPart_3 rfl (lv_at hl 0 rfl) ?_
  refine x_get E hw (C := RX4) (T := TX4) (N := 23) hinX4 0 rfl rfl 2 (by decide) rfl (List.mem_of_getElem? (i := 1) rfl) dX4_isPart_4 ?_
  refine lv_iconst (v := (nI 1)) hx hb dX4_isPart_7 (by decide) ?_
  refine x_isub E (v := (nI (pa - 1))) dX4_isPart_8 (pk_sub (by omega)) ?_
  refine lv_i2l (v := (lN (pa - 1))) hx hb dX4_isPart_9 (nI_l (by omega)) ?_
  refine x_cfSi E hw hl.1 (As := [.long j.toInt64, .long (lN 1), .long (lN (pa - 1))]) (rest := []) (c_X4_in l G j.toInt64 (lN 1) (lN (pa - 1)) j.toInt (1 : Int) ((pa - 1 : Nat) : Int) ((Int32.toInt_toInt64 _).trans rfl) (lN_toI (by decide)) (lN_toI (show pa - 1 < 9223372036854775808 by omega))) 3 gX4_isPart_X4_in rfl rfl rfl (by decide) ⟨Nat.le_of_ble_eq_true rfl, Nat.le_of_ble_eq_true rfl⟩ ⟨Nat.le_of_ble_eq_true rfl, Nat.le_of_ble_eq_true rfl⟩ rfl [] [0] rfl rfl rfl rfl rfl [0] [(x, .inr (4, [.ref xt, .int (nI nb), .int (nI pa), .int (nI pt), .int (nI off), .int (nI ha), .int (nI n), .ref xw, .ref xo, .ref xh, .int (nI nl), .ref xr, .int (nI ns), .ref xs, .ref xi, .long tr, .int u1, .int u2, .int u3, .long u4, .ref xd, .int u5, .ref xf]))] rfl rfl rfl (Nat.le_of_ble_eq_true rfl) dX4_isPart_10 (fun H locs hw => ?_)
  exact hret (if (1 : Int) ≤ j.toInt ∧ j.toInt ≤ ((pa - 1 : Nat) : Int) then 1 else 0) () _ _ _ _ dX4_isPart_13 x_narZ (x_iteC (by omega)) hw

abbrev rm_X4_isPartN : Room := { frames := 1, cells := 0, slots := 0, locals := 25 }
set_option maxHeartbeats 4000000 in
set_option maxRecDepth 100000 in
theorem c_X4_isPartN (l : Launch) (G : XG) (x : Nat) (xt : Nat) (xw : Nat) (xo : Nat) (xh : Nat) (xr : Nat) (xs : Nat) (xi : Nat) (xd : Nat) (xf : Nat) (nb : Nat) (pa : Nat) (pt : Nat) (off : Nat) (ha : Nat) (n : Nat) (nl : Nat) (ns : Nat) (tr : Int64) (u1 : Int32) (u2 : Int32) (u3 : Int32) (u4 : Int64) (u5 : Int32) (j : Nat) (hpa : pa ≤ 63) (hpa3 : 3 ≤ pa) (hj : j < 2147483648) : CfI l yX4_isPart wsX4_isPart rm_X4_isPartN G [.ref x, .int (nI j)] [(x, .inr (4, [.ref xt, .int (nI nb), .int (nI pa), .int (nI pt), .int (nI off), .int (nI ha), .int (nI n), .ref xw, .ref xo, .ref xh, .int (nI nl), .ref xr, .int (nI ns), .ref xs, .ref xi, .long tr, .int u1, .int u2, .int u3, .long u4, .ref xd, .int u5, .ref xf]))] (if 1 ≤ j ∧ j < pa then 1 else 0) [(x, .inr (4, [.ref xt, .int (nI nb), .int (nI pa), .int (nI pt), .int (nI off), .int (nI ha), .int (nI n), .ref xw, .ref xo, .ref xh, .int (nI nl), .ref xr, .int (nI ns), .ref xs, .ref xi, .long tr, .int u1, .int u2, .int u3, .long u4, .ref xd, .int u5, .ref xf]))] := by
  refine CtI.go (cc := cX4_isPart) (maxL := 2) RX4 rfl (by decide) rfl (Nat.le_of_ble_eq_true rfl) ?_
  intro p e s m args below meth c A Q ls E hw hl hret
  have hx := E.1
  have hb := E.2.1
  have hinX4 : ∀ w ∈ wsX40, w ∈ wsX4_isPart := (fun w h => List.mem_cons_of_mem _ (List.mem_append_right _ h))
  have hl : lv_has ls 2 [(0, .ref x), (1, .int (nI j))] := hl
  refine lv_iload_n hx hb dX4_isPart_0 rfl (lv_at hl 1 rfl) ?_
  refine lv_i2l (v := (lN j)) hx hb dX4_isPart_1 (nI_l (by omega)) ?_
  refine lv_lconst (v := (lN 1)) hx hb dX4_isPart_2 (by decide) ?_
  refine lv_aload_n hx hb dX4_isPart_3 rfl (lv_at hl 0 rfl) ?_
  refine x_get E hw (C := RX4) (T := TX4) (N := 23) hinX4 0 rfl rfl 2 (by decide) rfl (List.mem_of_getElem? (i := 1) rfl) dX4_isPart_4 ?_
  refine lv_iconst (v := (nI 1)) hx hb dX4_isPart_7 (by decide) ?_
  refine x_isub E (v := (nI (pa - 1))) dX4_isPart_8 (pk_sub (by omega)) ?_
  refine lv_i2l (v := (lN (pa - 1))) hx hb dX4_isPart_9 (nI_l (by omega)) ?_
  refine x_cfSi E hw hl.1 (As := [.long (lN j), .long (lN 1), .long (lN (pa - 1))]) (rest := []) (c_X4_in l G (lN j) (lN 1) (lN (pa - 1)) ((j : Nat) : Int) (1 : Int) ((pa - 1 : Nat) : Int) (lN_toI (show j < 9223372036854775808 by omega)) (lN_toI (by decide)) (lN_toI (show pa - 1 < 9223372036854775808 by omega))) 3 gX4_isPart_X4_in rfl rfl rfl (by decide) ⟨Nat.le_of_ble_eq_true rfl, Nat.le_of_ble_eq_true rfl⟩ ⟨Nat.le_of_ble_eq_true rfl, Nat.le_of_ble_eq_true rfl⟩ rfl [] [0] rfl rfl rfl rfl rfl [0] [(x, .inr (4, [.ref xt, .int (nI nb), .int (nI pa), .int (nI pt), .int (nI off), .int (nI ha), .int (nI n), .ref xw, .ref xo, .ref xh, .int (nI nl), .ref xr, .int (nI ns), .ref xs, .ref xi, .long tr, .int u1, .int u2, .int u3, .long u4, .ref xd, .int u5, .ref xf]))] rfl rfl rfl (Nat.le_of_ble_eq_true rfl) dX4_isPart_10 (fun H locs hw => ?_)
  exact hret (if (1 : Int) ≤ ((j : Nat) : Int) ∧ ((j : Nat) : Int) ≤ ((pa - 1 : Nat) : Int) then 1 else 0) () _ _ _ _ dX4_isPart_13 x_narZ (x_iteC (by omega)) hw

abbrev rm_X4_partOfY : Room := { frames := 0, cells := 0, slots := 0, locals := 0 }
set_option maxHeartbeats 4000000 in
set_option maxRecDepth 100000 in
theorem c_X4_partOfY (l : Launch) (G : XG) (x : Nat) (xt : Nat) (xw : Nat) (xo : Nat) (xh : Nat) (xr : Nat) (xs : Nat) (xi : Nat) (xd : Nat) (xf : Nat) (nb : Nat) (pa : Nat) (pt : Nat) (off : Nat) (ha : Nat) (n : Nat) (nl : Nat) (ns : Nat) (tr : Int64) (u1 : Int32) (u2 : Int32) (u3 : Int32) (u4 : Int64) (u5 : Int32) (j : Nat) (gw : Nat → Nat) (hj : j < 23) (hb : gw j < 1073741824) (hm : gw j % 1048576 = 0) : CfI l yX4_partOf wsX4_partOf rm_X4_partOfY G [.ref x, .int (nI j)] [(x, .inr (4, [.ref xt, .int (nI nb), .int (nI pa), .int (nI pt), .int (nI off), .int (nI ha), .int (nI n), .ref xw, .ref xo, .ref xh, .int (nI nl), .ref xr, .int (nI ns), .ref xs, .ref xi, .long tr, .int u1, .int u2, .int u3, .long u4, .ref xd, .int u5, .ref xf])), (xw, .inl (cJ G, 23, .inr (.inl (fJ gw))))] (nI (gw j / 1048576)) [(x, .inr (4, [.ref xt, .int (nI nb), .int (nI pa), .int (nI pt), .int (nI off), .int (nI ha), .int (nI n), .ref xw, .ref xo, .ref xh, .int (nI nl), .ref xr, .int (nI ns), .ref xs, .ref xi, .long tr, .int u1, .int u2, .int u3, .long u4, .ref xd, .int u5, .ref xf])), (xw, .inl (cJ G, 23, .inr (.inl (fJ gw))))] := by
  refine CtI.go (cc := cX4_partOf) (maxL := 2) RX4 rfl (by decide) rfl (Nat.le_of_ble_eq_true rfl) ?_
  intro p e s m args below meth c A Q ls E hw hl hret
  have hx := E.1
  have hb := E.2.1
  have hinX4 : ∀ w ∈ wsX40, w ∈ wsX4_partOf := (fun w h => List.mem_cons_of_mem _ (List.mem_append_right _ h))
  have hl : lv_has ls 2 [(0, .ref x), (1, .int (nI j))] := hl
  refine lv_aload_n hx hb dX4_partOf_0 rfl (lv_at hl 0 rfl) ?_
  refine x_get E hw (C := RX4) (T := TX4) (N := 23) hinX4 0 rfl rfl 7 (by decide) rfl (List.mem_of_getElem? (i := 1) rfl) dX4_partOf_1 ?_
  refine lv_iload_n hx hb dX4_partOf_4 rfl (lv_at hl 1 rfl) ?_
  refine x_lald E hw 1 (a := xw) (v := (lN (gw j))) rfl rfl (show j < 23 by omega) (by omega) rfl dX4_partOf_5 ?_
  refine lv_ldc2 (v := (1048576)) hx hb E.2.2.2.1 (E.2.2.2.2 _ (List.mem_of_getElem? (i := 2) rfl)) dX4_partOf_6 ?_
  refine x_topl (v := lN 1048576) (by decide) ?_
  refine x_lrem E (v := (lN ((gw j) % 1048576))) dX4_partOf_9 (by decide) (pk_lRem (by omega) (by omega) (by omega)) ?_
  refine lv_lconst (v := (lN 0)) hx hb dX4_partOf_10 (by decide) ?_
  refine x_lc_ne E (lN_toI (show (gw j) % 1048576 < 9223372036854775808 by omega)) (lN_toI (by decide)) (tgt := 29) dX4_partOf_11 dX4_partOf_12 (by decide) (fun c_1 => ?_) (fun c_1 => ?_)
  · exfalso; omega
  · refine lv_aload_n hx hb dX4_partOf_15 rfl (lv_at hl 0 rfl) ?_
    refine x_get E hw (C := RX4) (T := TX4) (N := 23) hinX4 0 rfl rfl 7 (by decide) rfl (List.mem_of_getElem? (i := 1) rfl) dX4_partOf_16 ?_
    refine lv_iload_n hx hb dX4_partOf_19 rfl (lv_at hl 1 rfl) ?_
    refine x_lald E hw 1 (a := xw) (v := (lN (gw j))) rfl rfl (show j < 23 by omega) (by omega) rfl dX4_partOf_20 ?_
    refine lv_ldc2 (v := (1048576)) hx hb E.2.2.2.1 (E.2.2.2.2 _ (List.mem_of_getElem? (i := 2) rfl)) dX4_partOf_21 ?_
    refine x_topl (v := lN 1048576) (by decide) ?_
    refine x_ldiv E (v := (lN ((gw j) / 1048576))) dX4_partOf_24 (by decide) (pk_lDiv (by omega) (by omega) (by omega)) ?_
    refine lv_l2i (v := (nI ((gw j) / 1048576))) hx hb dX4_partOf_25 (lN_i _) ?_
    refine lv_goto (tgt := 31) hx hb dX4_partOf_26 (by decide) ?_
    exact hret (nI ((gw j) / 1048576)) () _ _ _ _ dX4_partOf_31 rfl rfl hw

abbrev rm_X4_partOfN : Room := { frames := 0, cells := 0, slots := 0, locals := 0 }
set_option maxHeartbeats 4000000 in
set_option maxRecDepth 100000 in
theorem c_X4_partOfN (l : Launch) (G : XG) (x : Nat) (xt : Nat) (xw : Nat) (xo : Nat) (xh : Nat) (xr : Nat) (xs : Nat) (xi : Nat) (xd : Nat) (xf : Nat) (nb : Nat) (pa : Nat) (pt : Nat) (off : Nat) (ha : Nat) (n : Nat) (nl : Nat) (ns : Nat) (tr : Int64) (u1 : Int32) (u2 : Int32) (u3 : Int32) (u4 : Int64) (u5 : Int32) (j : Nat) (gw : Nat → Nat) (hj : j < 23) (hb : gw j < 1073741824) (hm : ¬ gw j % 1048576 = 0) : CfI l yX4_partOf wsX4_partOf rm_X4_partOfN G [.ref x, .int (nI j)] [(x, .inr (4, [.ref xt, .int (nI nb), .int (nI pa), .int (nI pt), .int (nI off), .int (nI ha), .int (nI n), .ref xw, .ref xo, .ref xh, .int (nI nl), .ref xr, .int (nI ns), .ref xs, .ref xi, .long tr, .int u1, .int u2, .int u3, .long u4, .ref xd, .int u5, .ref xf])), (xw, .inl (cJ G, 23, .inr (.inl (fJ gw))))] (-9 : Int32) [(x, .inr (4, [.ref xt, .int (nI nb), .int (nI pa), .int (nI pt), .int (nI off), .int (nI ha), .int (nI n), .ref xw, .ref xo, .ref xh, .int (nI nl), .ref xr, .int (nI ns), .ref xs, .ref xi, .long tr, .int u1, .int u2, .int u3, .long u4, .ref xd, .int u5, .ref xf])), (xw, .inl (cJ G, 23, .inr (.inl (fJ gw))))] := by
  refine CtI.go (cc := cX4_partOf) (maxL := 2) RX4 rfl (by decide) rfl (Nat.le_of_ble_eq_true rfl) ?_
  intro p e s m args below meth c A Q ls E hw hl hret
  have hx := E.1
  have hb := E.2.1
  have hinX4 : ∀ w ∈ wsX40, w ∈ wsX4_partOf := (fun w h => List.mem_cons_of_mem _ (List.mem_append_right _ h))
  have hl : lv_has ls 2 [(0, .ref x), (1, .int (nI j))] := hl
  refine lv_aload_n hx hb dX4_partOf_0 rfl (lv_at hl 0 rfl) ?_
  refine x_get E hw (C := RX4) (T := TX4) (N := 23) hinX4 0 rfl rfl 7 (by decide) rfl (List.mem_of_getElem? (i := 1) rfl) dX4_partOf_1 ?_
  refine lv_iload_n hx hb dX4_partOf_4 rfl (lv_at hl 1 rfl) ?_
  refine x_lald E hw 1 (a := xw) (v := (lN (gw j))) rfl rfl (show j < 23 by omega) (by omega) rfl dX4_partOf_5 ?_
  refine lv_ldc2 (v := (1048576)) hx hb E.2.2.2.1 (E.2.2.2.2 _ (List.mem_of_getElem? (i := 2) rfl)) dX4_partOf_6 ?_
  refine x_topl (v := lN 1048576) (by decide) ?_
  refine x_lrem E (v := (lN ((gw j) % 1048576))) dX4_partOf_9 (by decide) (pk_lRem (by omega) (by omega) (by omega)) ?_
  refine lv_lconst (v := (lN 0)) hx hb dX4_partOf_10 (by decide) ?_
  refine x_lc_ne E (lN_toI (show (gw j) % 1048576 < 9223372036854775808 by omega)) (lN_toI (by decide)) (tgt := 29) dX4_partOf_11 dX4_partOf_12 (by decide) (fun c_1 => ?_) (fun c_1 => ?_)
  · refine lv_bipush (v := (-9 : Int32)) hx hb dX4_partOf_29 (by decide) ?_
    exact hret (-9 : Int32) () _ _ _ _ dX4_partOf_31 rfl rfl hw
  · exfalso; omega

abbrev rm_X4_leastU : Room := { frames := 0, cells := 0, slots := 0, locals := 0 }
set_option maxHeartbeats 4000000 in
set_option maxRecDepth 100000 in
theorem c_X4_leastU (l : Launch) (G : XG) (u : Nat) (w : Nat) (hu : u < 1152921504606846976) (hw0 : w < 1073741824) (hwp : 0 < w) : CfL l yX4_least wsX4_least rm_X4_leastU G [.long (lN u), .long (lN w), .int (nI 1)] [] (lN (u / Nat.gcd u w)) [] := by
  refine CtL.go (cc := cX4_least) (maxL := 11) RX4 rfl (by decide) rfl (Nat.le_of_ble_eq_true rfl) ?_
  intro p e s m args below meth c A Q ls E hw hl hret
  have hx := E.1
  have hb := E.2.1
  have hl : lv_has ls 11 [(0, .long (lN u)), (2, .long (lN w)), (4, .int (nI 1))] := hl
  refine lv_lload_n hx hb dX4_least_0 rfl (lv_at hl 0 rfl) ?_
  refine lv_lstore (lv' := [(5, .long (lN u)), (0, .long (lN u)), (2, .long (lN w)), (4, .int (nI 1))]) hx hb dX4_least_1 hl (by decide) rfl (fun ls hl => ?_)
  refine lv_lload_n hx hb dX4_least_3 rfl (lv_at hl 2 rfl) ?_
  refine lv_lstore (lv' := [(7, .long (lN w)), (5, .long (lN u)), (0, .long (lN u)), (2, .long (lN w)), (4, .int (nI 1))]) hx hb dX4_least_4 hl (by decide) rfl (fun ls hl => ?_)
  have loop_6 : ∀ (fu : Nat) (y : Nat) (z : Nat), y < 1152921504606846976 → z < 1073741824 → Nat.gcd y z = Nat.gcd u w → z < fu → ∀ (H : Heap) (locs : List Loc) (ls : Array Slot), Wd G s A [] H locs → lv_has ls 11 [(0, .long (lN u)), (2, .long (lN w)), (4, .int (nI 1)), (5, .long (lN y)), (7, .long (lN z))] → W p l e rm_X4_leastU s m args below meth c H locs 0 0 Q (F0 m 6 ls []) := by
    intro fu
    induction fu with
    | zero =>
      intro y z hyb hzb hg hmu
      exact absurd hmu (Nat.not_lt_zero _)
    | succ fu ih_6 =>
      intro y z hyb hzb hg hmu_6 H locs ls hw hl
      refine lv_lload hx hb dX4_least_6 (lv_at hl 4 rfl) ?_
      refine lv_lconst (v := (lN 0)) hx hb dX4_least_8 (by decide) ?_
      refine x_lc_eq E (lN_toI (show z < 9223372036854775808 by omega)) (lN_toI (by decide)) (tgt := 31) dX4_least_9 dX4_least_10 (by decide) (fun c_1 => ?_) (fun c_1 => ?_)
      · obtain rfl : z = 0 := by omega
        rw [Nat.gcd_zero_right] at hg
        have hgp : 0 < Nat.gcd u w := Nat.gcd_pos_of_pos_right _ hwp
        refine lv_iload hx hb dX4_least_31 (lv_at hl 2 rfl) ?_
        refine x_if_eq E (nI_toI (by decide)) (tgt := 43) dX4_least_33 (by decide) (fun c_2 => ?_) (fun c_2 => ?_)
        · exact absurd c_2 (by decide)
        · refine lv_lload_n hx hb dX4_least_36 rfl (lv_at hl 0 rfl) ?_
          refine lv_lload hx hb dX4_least_37 (lv_at hl 3 rfl) ?_
          refine x_ldiv E (v := (lN (u / y))) dX4_least_39 (lN_ne0 (by omega) (by omega)) (pk_lDiv (by omega) (by omega) (by omega)) ?_
          refine lv_goto (tgt := 47) hx hb dX4_least_40 (by decide) ?_
          exact hret (lN (u / y)) () _ _ _ _ dX4_least_47 (by rw [hg]) hw
      · have hz0 : 0 < z := by omega
        have hmod := Nat.mod_lt y hz0
        refine lv_lload hx hb dX4_least_13 (lv_at hl 3 rfl) ?_
        refine lv_lload hx hb dX4_least_15 (lv_at hl 4 rfl) ?_
        refine x_lrem E (v := (lN (y % z))) dX4_least_17 (lN_ne0 (by omega) (by omega)) (pk_lRem (by omega) (by omega) (by omega)) ?_
        refine lv_lstore (lv' := [(9, .long (lN (y % z))), (0, .long (lN u)), (2, .long (lN w)), (4, .int (nI 1)), (5, .long (lN y)), (7, .long (lN z))]) hx hb dX4_least_18 hl (by decide) rfl (fun ls hl => ?_)
        refine lv_lload hx hb dX4_least_20 (lv_at hl 5 rfl) ?_
        refine lv_lstore (lv' := [(5, .long (lN z)), (9, .long (lN (y % z))), (0, .long (lN u)), (2, .long (lN w)), (4, .int (nI 1)), (7, .long (lN z))]) hx hb dX4_least_22 hl (by decide) rfl (fun ls hl => ?_)
        refine lv_lload hx hb dX4_least_24 (lv_at hl 1 rfl) ?_
        refine lv_lstore (lv' := [(7, .long (lN (y % z))), (5, .long (lN z)), (9, .long (lN (y % z))), (0, .long (lN u)), (2, .long (lN w)), (4, .int (nI 1))]) hx hb dX4_least_26 hl (by decide) rfl (fun ls hl => ?_)
        refine lv_goto (tgt := 6) hx hb dX4_least_28 (by decide) ?_
        exact ih_6 z (y % z) (by omega) (by omega) ((eu_gcd y z).trans hg) (by omega) _ _ _ hw (lv_sub hl [3, 4, 5, 1, 0] rfl)
  exact loop_6 (w + 1) u w (by omega) (by omega) rfl (Nat.lt_succ_self _) _ _ _ hw (lv_sub hl [2, 3, 4, 1, 0] rfl)

abbrev rm_X4_leastL : Room := { frames := 0, cells := 0, slots := 0, locals := 0 }
set_option maxHeartbeats 4000000 in
set_option maxRecDepth 100000 in
theorem c_X4_leastL (l : Launch) (G : XG) (u : Nat) (w : Nat) (hu : u < 1152921504606846976) (hw0 : w < 1073741824) (hwp : 0 < w) : CfL l yX4_least wsX4_least rm_X4_leastL G [.long (lN u), .long (lN w), .int (nI 0)] [] (lN (w / Nat.gcd u w)) [] := by
  refine CtL.go (cc := cX4_least) (maxL := 11) RX4 rfl (by decide) rfl (Nat.le_of_ble_eq_true rfl) ?_
  intro p e s m args below meth c A Q ls E hw hl hret
  have hx := E.1
  have hb := E.2.1
  have hl : lv_has ls 11 [(0, .long (lN u)), (2, .long (lN w)), (4, .int (nI 0))] := hl
  refine lv_lload_n hx hb dX4_least_0 rfl (lv_at hl 0 rfl) ?_
  refine lv_lstore (lv' := [(5, .long (lN u)), (0, .long (lN u)), (2, .long (lN w)), (4, .int (nI 0))]) hx hb dX4_least_1 hl (by decide) rfl (fun ls hl => ?_)
  refine lv_lload_n hx hb dX4_least_3 rfl (lv_at hl 2 rfl) ?_
  refine lv_lstore (lv' := [(7, .long (lN w)), (5, .long (lN u)), (0, .long (lN u)), (2, .long (lN w)), (4, .int (nI 0))]) hx hb dX4_least_4 hl (by decide) rfl (fun ls hl => ?_)
  have loop_6 : ∀ (fu : Nat) (y : Nat) (z : Nat), y < 1152921504606846976 → z < 1073741824 → Nat.gcd y z = Nat.gcd u w → z < fu → ∀ (H : Heap) (locs : List Loc) (ls : Array Slot), Wd G s A [] H locs → lv_has ls 11 [(0, .long (lN u)), (2, .long (lN w)), (4, .int (nI 0)), (5, .long (lN y)), (7, .long (lN z))] → W p l e rm_X4_leastL s m args below meth c H locs 0 0 Q (F0 m 6 ls []) := by
    intro fu
    induction fu with
    | zero =>
      intro y z hyb hzb hg hmu
      exact absurd hmu (Nat.not_lt_zero _)
    | succ fu ih_6 =>
      intro y z hyb hzb hg hmu_6 H locs ls hw hl
      refine lv_lload hx hb dX4_least_6 (lv_at hl 4 rfl) ?_
      refine lv_lconst (v := (lN 0)) hx hb dX4_least_8 (by decide) ?_
      refine x_lc_eq E (lN_toI (show z < 9223372036854775808 by omega)) (lN_toI (by decide)) (tgt := 31) dX4_least_9 dX4_least_10 (by decide) (fun c_1 => ?_) (fun c_1 => ?_)
      · obtain rfl : z = 0 := by omega
        rw [Nat.gcd_zero_right] at hg
        have hgp : 0 < Nat.gcd u w := Nat.gcd_pos_of_pos_right _ hwp
        refine lv_iload hx hb dX4_least_31 (lv_at hl 2 rfl) ?_
        refine x_if_eq E (nI_toI (by decide)) (tgt := 43) dX4_least_33 (by decide) (fun c_2 => ?_) (fun c_2 => ?_)
        · refine lv_lload_n hx hb dX4_least_43 rfl (lv_at hl 1 rfl) ?_
          refine lv_lload hx hb dX4_least_44 (lv_at hl 3 rfl) ?_
          refine x_ldiv E (v := (lN (w / y))) dX4_least_46 (lN_ne0 (by omega) (by omega)) (pk_lDiv (by omega) (by omega) (by omega)) ?_
          exact hret (lN (w / y)) () _ _ _ _ dX4_least_47 (by rw [hg]) hw
        · exact absurd c_2 (by decide)
      · have hz0 : 0 < z := by omega
        have hmod := Nat.mod_lt y hz0
        refine lv_lload hx hb dX4_least_13 (lv_at hl 3 rfl) ?_
        refine lv_lload hx hb dX4_least_15 (lv_at hl 4 rfl) ?_
        refine x_lrem E (v := (lN (y % z))) dX4_least_17 (lN_ne0 (by omega) (by omega)) (pk_lRem (by omega) (by omega) (by omega)) ?_
        refine lv_lstore (lv' := [(9, .long (lN (y % z))), (0, .long (lN u)), (2, .long (lN w)), (4, .int (nI 0)), (5, .long (lN y)), (7, .long (lN z))]) hx hb dX4_least_18 hl (by decide) rfl (fun ls hl => ?_)
        refine lv_lload hx hb dX4_least_20 (lv_at hl 5 rfl) ?_
        refine lv_lstore (lv' := [(5, .long (lN z)), (9, .long (lN (y % z))), (0, .long (lN u)), (2, .long (lN w)), (4, .int (nI 0)), (7, .long (lN z))]) hx hb dX4_least_22 hl (by decide) rfl (fun ls hl => ?_)
        refine lv_lload hx hb dX4_least_24 (lv_at hl 1 rfl) ?_
        refine lv_lstore (lv' := [(7, .long (lN (y % z))), (5, .long (lN z)), (9, .long (lN (y % z))), (0, .long (lN u)), (2, .long (lN w)), (4, .int (nI 0))]) hx hb dX4_least_26 hl (by decide) rfl (fun ls hl => ?_)
        refine lv_goto (tgt := 6) hx hb dX4_least_28 (by decide) ?_
        exact ih_6 z (y % z) (by omega) (by omega) ((eu_gcd y z).trans hg) (by omega) _ _ _ hw (lv_sub hl [3, 4, 5, 1, 0] rfl)
  exact loop_6 (w + 1) u w (by omega) (by omega) rfl (Nat.lt_succ_self _) _ _ _ hw (lv_sub hl [2, 3, 4, 1, 0] rfl)

abbrev rm_X4_crease : Room := { frames := 2, cells := 0, slots := 0, locals := 46 }
set_option maxHeartbeats 4000000 in
set_option maxRecDepth 100000 in
theorem c_X4_crease (l : Launch) (G : XG) (x : Nat) (xt : Nat) (xw : Nat) (xo : Nat) (xh : Nat) (xr : Nat) (xs : Nat) (xi : Nat) (xd : Nat) (xf : Nat) (nb : Nat) (pa : Nat) (pt : Nat) (off : Nat) (ha : Nat) (n : Nat) (nl : Nat) (ns : Nat) (tr : Int64) (u1 : Int32) (u2 : Int32) (u3 : Int32) (u4 : Int64) (u5 : Int32) (k : Int32) (a : Int32) (gw : Nat → Nat) (go : Nat → Nat) (gh : Nat → Nat) (hn : n ≤ 23) (hn3 : 3 ≤ n) (hpa : pa ≤ 63) (hpa3 : 3 ≤ pa) (hgw : ∀ q, gw q < 1073741824) (hgo : ∀ q, go q < 1073741824) (hgh : ∀ q, gh q < 1073741824) : CfL l yX4_crease wsX4_crease rm_X4_crease G [.ref x, .int k, .int a] [(x, .inr (4, [.ref xt, .int (nI nb), .int (nI pa), .int (nI pt), .int (nI off), .int (nI ha), .int (nI n), .ref xw, .ref xo, .ref xh, .int (nI nl), .ref xr, .int (nI ns), .ref xs, .ref xi, .long tr, .int u1, .int u2, .int u3, .long u4, .ref xd, .int u5, .ref xf])), (xw, .inl (cJ G, 23, .inr (.inl (fJ gw)))), (xo, .inl (cJ G, 23, .inr (.inl (fJ go)))), (xh, .inl (cJ G, 23, .inr (.inl (fJ gh))))] (creaseF n pa gw go gh k.toInt a.toInt) [(x, .inr (4, [.ref xt, .int (nI nb), .int (nI pa), .int (nI pt), .int (nI off), .int (nI ha), .int (nI n), .ref xw, .ref xo, .ref xh, .int (nI nl), .ref xr, .int (nI ns), .ref xs, .ref xi, .long tr, .int u1, .int u2, .int u3, .long u4, .ref xd, .int u5, .ref xf])), (xw, .inl (cJ G, 23, .inr (.inl (fJ gw)))), (xo, .inl (cJ G, 23, .inr (.inl (fJ go)))), (xh, .inl (cJ G, 23, .inr (.inl (fJ gh))))] := by
  refine CtL.go (cc := cX4_crease) (maxL := 5) RX4 rfl (by decide) rfl (Nat.le_of_ble_eq_true rfl) ?_
  intro p e s m args below meth c A Q ls E hw hl hret
  have hx := E.1
  have hb := E.2.1
  have hinX4 : ∀ w ∈ wsX40, w ∈ wsX4_crease := (fun w h => List.mem_cons_of_mem _ (List.mem_append_right _ h))
  have hl : lv_has ls 5 [(0, .ref x), (1, .int k), (2, .int a)] := hl
  refine lv_aload_n hx hb dX4_crease_0 rfl (lv_at hl 0 rfl) ?_
  refine lv_iload_n hx hb dX4_crease_1 rfl (lv_at hl 1 rfl) ?_
  refine x_cfVi E hw hl.1 (As := [.int k]) (rest := []) (c_X4_isCrease l G x xt xw xo xh xr xs xi xd xf nb pa pt off ha n nl ns tr u1 u2 u3 u4 u5 k (by omega) (by omega)) 1 gX4_crease_X4_isCrease rfl rfl rfl (by decide) ⟨Nat.le_of_ble_eq_true rfl, Nat.le_of_ble_eq_true rfl⟩ ⟨Nat.le_of_ble_eq_true rfl, Nat.le_of_ble_eq_true rfl⟩ rfl 0 (ci := 4) (C := RX4) (T := TX4) (N := 23) rfl rfl [0] [1, 2, 3] rfl rfl rfl rfl rfl [3, 0, 1, 2] [(x, .inr (4, [.ref xt, .int (nI nb), .int (nI pa), .int (nI pt), .int (nI off), .int (nI ha), .int (nI n), .ref xw, .ref xo, .ref xh, .int (nI nl), .ref xr, .int (nI ns), .ref xs, .ref xi, .long tr, .int u1, .int u2, .int u3, .long u4, .ref xd, .int u5, .ref xf])), (xw, .inl (cJ G, 23, .inr (.inl (fJ gw)))), (xo, .inl (cJ G, 23, .inr (.inl (fJ go)))), (xh, .inl (cJ G, 23, .inr (.inl (fJ gh))))] rfl rfl rfl (Nat.le_of_ble_eq_true rfl) dX4_crease_2 (fun H locs hw => ?_)
  refine x_ifb_eq E (P := 0 ≤ k.toInt ∧ k.toInt < (n : Int)) (tgt := 20) dX4_crease_5 (by decide) (fun c_1 => ?_) (fun c_1 => ?_)
  · refine lv_ldc2 (v := (-1)) hx hb E.2.2.2.1 (E.2.2.2.2 _ (List.mem_of_getElem? (i := 2) rfl)) dX4_crease_20 ?_
    exact hret (-1 : Int64) () _ _ _ _ dX4_crease_23 (ifF (by omega) rfl) hw
  · refine lv_iload_n hx hb dX4_crease_8 rfl (lv_at hl 2 rfl) ?_
    refine lv_i2l (v := a.toInt64) hx hb dX4_crease_9 rfl ?_
    refine lv_lconst (v := (lN 0)) hx hb dX4_crease_10 (by decide) ?_
    refine lv_ldc2 (v := (6)) hx hb E.2.2.2.1 (E.2.2.2.2 _ (List.mem_of_getElem? (i := 1) rfl)) dX4_crease_11 ?_
    refine x_topl (v := lN 6) (by decide) ?_
    refine x_cfSi E hw hl.1 (As := [.long a.toInt64, .long (lN 0), .long (lN 6)]) (rest := []) (c_X4_in l G a.toInt64 (lN 0) (lN 6) a.toInt (0 : Int) (6 : Int) ((Int32.toInt_toInt64 _).trans rfl) (lN_toI (by decide)) (lN_toI (by decide))) 3 gX4_crease_X4_in rfl rfl rfl (by decide) ⟨Nat.le_of_ble_eq_true rfl, Nat.le_of_ble_eq_true rfl⟩ ⟨Nat.le_of_ble_eq_true rfl, Nat.le_of_ble_eq_true rfl⟩ rfl [] [0, 1, 2, 3] rfl rfl rfl rfl rfl [0, 1, 2, 3] [(x, .inr (4, [.ref xt, .int (nI nb), .int (nI pa), .int (nI pt), .int (nI off), .int (nI ha), .int (nI n), .ref xw, .ref xo, .ref xh, .int (nI nl), .ref xr, .int (nI ns), .ref xs, .ref xi, .long tr, .int u1, .int u2, .int u3, .long u4, .ref xd, .int u5, .ref xf])), (xw, .inl (cJ G, 23, .inr (.inl (fJ gw)))), (xo, .inl (cJ G, 23, .inr (.inl (fJ go)))), (xh, .inl (cJ G, 23, .inr (.inl (fJ gh))))] rfl rfl rfl (Nat.le_of_ble_eq_true rfl) dX4_crease_14 (fun H locs hw => ?_)
    refine x_ifb_ne E (P := (0 : Int) ≤ a.toInt ∧ a.toInt ≤ (6 : Int)) (tgt := 24) dX4_crease_17 (by decide) (fun c_2 => ?_) (fun c_2 => ?_)
    · obtain ⟨kn, hkn1, hkn2, rfl⟩ := i_nI k (by omega)
      obtain ⟨an, han1, han2, rfl⟩ := i_nI a (by omega)
      refine lv_iload_n hx hb dX4_crease_24 rfl (lv_at hl 2 rfl) ?_
      refine lv_bipush (v := (nI 6)) hx hb dX4_crease_25 (by decide) ?_
      refine x_icmp_ne E (nI_toI (show an < 2147483648 by omega)) (nI_toI (by decide)) (tgt := 37) dX4_crease_27 (by decide) (fun c_3 => ?_) (fun c_3 => ?_)
      · refine lv_iload_n hx hb dX4_crease_37 rfl (lv_at hl 2 rfl) ?_
        refine lv_iconst (v := (nI 2)) hx hb dX4_crease_38 (by decide) ?_
        refine x_icmp_ge E (nI_toI (show an < 2147483648 by omega)) (nI_toI (by decide)) (tgt := 51) dX4_crease_39 (by decide) (fun c_4 => ?_) (fun c_4 => ?_)
        · refine lv_iload_n hx hb dX4_crease_51 rfl (lv_at hl 2 rfl) ?_
          refine lv_iconst (v := (nI 4)) hx hb dX4_crease_52 (by decide) ?_
          refine x_icmp_ge E (nI_toI (show an < 2147483648 by omega)) (nI_toI (by decide)) (tgt := 65) dX4_crease_53 (by decide) (fun c_5 => ?_) (fun c_5 => ?_)
          · refine lv_aload_n hx hb dX4_crease_65 rfl (lv_at hl 0 rfl) ?_
            refine x_get E hw (C := RX4) (T := TX4) (N := 23) hinX4 0 rfl rfl 9 (by decide) rfl (List.mem_of_getElem? (i := 5) rfl) dX4_crease_66 ?_
            refine lv_iload_n hx hb dX4_crease_69 rfl (lv_at hl 1 rfl) ?_
            refine x_lald E hw 3 (a := xh) (v := (lN (gh kn))) rfl rfl (show kn < 23 by omega) (by omega) rfl dX4_crease_70 ?_
            refine lv_lstore_n (lv' := [(3, .long (lN (gh kn))), (0, .ref x), (1, .int (nI kn)), (2, .int (nI an))]) hx hb dX4_crease_71 rfl hl (by decide) rfl (fun ls hl => ?_)
            refine lv_lload_n hx hb dX4_crease_72 rfl (lv_at hl 0 rfl) ?_
            refine lv_iload_n hx hb dX4_crease_73 rfl (lv_at hl 3 rfl) ?_
            refine lv_iconst (v := (nI 2)) hx hb dX4_crease_74 (by decide) ?_
            refine x_icmp_ge E (nI_toI (show an < 2147483648 by omega)) (nI_toI (by decide)) (tgt := 90) dX4_crease_75 (by decide) (fun c_6 => ?_) (fun c_6 => ?_)
            · refine lv_ldc2 (v := (1048576)) hx hb E.2.2.2.1 (E.2.2.2.2 _ (List.mem_of_getElem? (i := 7) rfl)) dX4_crease_90 ?_
              refine x_topl (v := lN 1048576) (by decide) ?_
              refine lv_iload_n hx hb dX4_crease_93 rfl (lv_at hl 3 rfl) ?_
              refine lv_iconst (v := (nI 2)) hx hb dX4_crease_94 (by decide) ?_
              refine x_irem E (v := (nI (an % 2))) dX4_crease_95 (by decide) (pk_rem (by omega) (by omega) (by omega)) ?_
              refine x_if_ne E (nI_toI (show an % 2 < 2147483648 by omega)) (tgt := 103) dX4_crease_96 (by decide) (fun c_7 => ?_) (fun c_7 => ?_)
              · refine lv_iconst (v := (nI 0)) hx hb dX4_crease_103 (by decide) ?_
                refine x_cfSl E hw hl.1 (As := [.long (lN (gh kn)), .long (lN 1048576), .int (nI 0)]) (rest := []) (c_X4_leastL l G (gh kn) 1048576 (Nat.lt_trans (hgh _) (by decide)) (by omega) (by omega)) 3 gX4_crease_X4_least rfl rfl rfl (by decide) ⟨Nat.le_of_ble_eq_true rfl, Nat.le_of_ble_eq_true rfl⟩ ⟨Nat.le_of_ble_eq_true rfl, Nat.le_of_ble_eq_true rfl⟩ rfl [] [0, 1, 2, 3] rfl rfl rfl rfl rfl [0, 1, 2, 3] [(x, .inr (4, [.ref xt, .int (nI nb), .int (nI pa), .int (nI pt), .int (nI off), .int (nI ha), .int (nI n), .ref xw, .ref xo, .ref xh, .int (nI nl), .ref xr, .int (nI ns), .ref xs, .ref xi, .long tr, .int u1, .int u2, .int u3, .long u4, .ref xd, .int u5, .ref xf])), (xw, .inl (cJ G, 23, .inr (.inl (fJ gw)))), (xo, .inl (cJ G, 23, .inr (.inl (fJ go)))), (xh, .inl (cJ G, 23, .inr (.inl (fJ gh))))] rfl rfl rfl (Nat.le_of_ble_eq_true rfl) dX4_crease_104 (fun H locs hw => ?_)
                exact hret (lN (1048576 / Nat.gcd (gh kn) 1048576)) () _ _ _ _ dX4_crease_107 (by unfold creaseF; rw [hkn2, tNat, if_pos (by omega), if_neg (by omega), if_neg (by omega), if_neg (by omega), if_neg (by omega), if_neg (by omega), if_pos (by omega)]) hw
              · refine lv_iconst (v := (nI 1)) hx hb dX4_crease_99 (by decide) ?_
                refine lv_goto (tgt := 104) hx hb dX4_crease_100 (by decide) ?_
                refine x_cfSl E hw hl.1 (As := [.long (lN (gh kn)), .long (lN 1048576), .int (nI 1)]) (rest := []) (c_X4_leastU l G (gh kn) 1048576 (Nat.lt_trans (hgh _) (by decide)) (by omega) (by omega)) 3 gX4_crease_X4_least rfl rfl rfl (by decide) ⟨Nat.le_of_ble_eq_true rfl, Nat.le_of_ble_eq_true rfl⟩ ⟨Nat.le_of_ble_eq_true rfl, Nat.le_of_ble_eq_true rfl⟩ rfl [] [0, 1, 2, 3] rfl rfl rfl rfl rfl [0, 1, 2, 3] [(x, .inr (4, [.ref xt, .int (nI nb), .int (nI pa), .int (nI pt), .int (nI off), .int (nI ha), .int (nI n), .ref xw, .ref xo, .ref xh, .int (nI nl), .ref xr, .int (nI ns), .ref xs, .ref xi, .long tr, .int u1, .int u2, .int u3, .long u4, .ref xd, .int u5, .ref xf])), (xw, .inl (cJ G, 23, .inr (.inl (fJ gw)))), (xo, .inl (cJ G, 23, .inr (.inl (fJ go)))), (xh, .inl (cJ G, 23, .inr (.inl (fJ gh))))] rfl rfl rfl (Nat.le_of_ble_eq_true rfl) dX4_crease_104 (fun H locs hw => ?_)
                exact hret (lN ((gh kn) / Nat.gcd (gh kn) 1048576)) () _ _ _ _ dX4_crease_107 (by unfold creaseF; rw [hkn2, tNat, if_pos (by omega), if_neg (by omega), if_neg (by omega), if_neg (by omega), if_neg (by omega), if_pos (by omega)]) hw
            · exfalso; omega
          · refine lv_aload_n hx hb dX4_crease_56 rfl (lv_at hl 0 rfl) ?_
            refine x_get E hw (C := RX4) (T := TX4) (N := 23) hinX4 0 rfl rfl 8 (by decide) rfl (List.mem_of_getElem? (i := 4) rfl) dX4_crease_57 ?_
            refine lv_iload_n hx hb dX4_crease_60 rfl (lv_at hl 1 rfl) ?_
            refine x_lald E hw 2 (a := xo) (v := (lN (go kn))) rfl rfl (show kn < 23 by omega) (by omega) rfl dX4_crease_61 ?_
            refine lv_goto (tgt := 71) hx hb dX4_crease_62 (by decide) ?_
            refine lv_lstore_n (lv' := [(3, .long (lN (go kn))), (0, .ref x), (1, .int (nI kn)), (2, .int (nI an))]) hx hb dX4_crease_71 rfl hl (by decide) rfl (fun ls hl => ?_)
            refine lv_lload_n hx hb dX4_crease_72 rfl (lv_at hl 0 rfl) ?_
            refine lv_iload_n hx hb dX4_crease_73 rfl (lv_at hl 3 rfl) ?_
            refine lv_iconst (v := (nI 2)) hx hb dX4_crease_74 (by decide) ?_
            refine x_icmp_ge E (nI_toI (show an < 2147483648 by omega)) (nI_toI (by decide)) (tgt := 90) dX4_crease_75 (by decide) (fun c_8 => ?_) (fun c_8 => ?_)
            · refine lv_ldc2 (v := (1048576)) hx hb E.2.2.2.1 (E.2.2.2.2 _ (List.mem_of_getElem? (i := 7) rfl)) dX4_crease_90 ?_
              refine x_topl (v := lN 1048576) (by decide) ?_
              refine lv_iload_n hx hb dX4_crease_93 rfl (lv_at hl 3 rfl) ?_
              refine lv_iconst (v := (nI 2)) hx hb dX4_crease_94 (by decide) ?_
              refine x_irem E (v := (nI (an % 2))) dX4_crease_95 (by decide) (pk_rem (by omega) (by omega) (by omega)) ?_
              refine x_if_ne E (nI_toI (show an % 2 < 2147483648 by omega)) (tgt := 103) dX4_crease_96 (by decide) (fun c_9 => ?_) (fun c_9 => ?_)
              · refine lv_iconst (v := (nI 0)) hx hb dX4_crease_103 (by decide) ?_
                refine x_cfSl E hw hl.1 (As := [.long (lN (go kn)), .long (lN 1048576), .int (nI 0)]) (rest := []) (c_X4_leastL l G (go kn) 1048576 (Nat.lt_trans (hgo _) (by decide)) (by omega) (by omega)) 3 gX4_crease_X4_least rfl rfl rfl (by decide) ⟨Nat.le_of_ble_eq_true rfl, Nat.le_of_ble_eq_true rfl⟩ ⟨Nat.le_of_ble_eq_true rfl, Nat.le_of_ble_eq_true rfl⟩ rfl [] [0, 1, 2, 3] rfl rfl rfl rfl rfl [0, 1, 2, 3] [(x, .inr (4, [.ref xt, .int (nI nb), .int (nI pa), .int (nI pt), .int (nI off), .int (nI ha), .int (nI n), .ref xw, .ref xo, .ref xh, .int (nI nl), .ref xr, .int (nI ns), .ref xs, .ref xi, .long tr, .int u1, .int u2, .int u3, .long u4, .ref xd, .int u5, .ref xf])), (xw, .inl (cJ G, 23, .inr (.inl (fJ gw)))), (xo, .inl (cJ G, 23, .inr (.inl (fJ go)))), (xh, .inl (cJ G, 23, .inr (.inl (fJ gh))))] rfl rfl rfl (Nat.le_of_ble_eq_true rfl) dX4_crease_104 (fun H locs hw => ?_)
                exact hret (lN (1048576 / Nat.gcd (go kn) 1048576)) () _ _ _ _ dX4_crease_107 (by unfold creaseF; rw [hkn2, tNat, if_pos (by omega), if_neg (by omega), if_neg (by omega), if_neg (by omega), if_pos (by omega)]) hw
              · refine lv_iconst (v := (nI 1)) hx hb dX4_crease_99 (by decide) ?_
                refine lv_goto (tgt := 104) hx hb dX4_crease_100 (by decide) ?_
                refine x_cfSl E hw hl.1 (As := [.long (lN (go kn)), .long (lN 1048576), .int (nI 1)]) (rest := []) (c_X4_leastU l G (go kn) 1048576 (Nat.lt_trans (hgo _) (by decide)) (by omega) (by omega)) 3 gX4_crease_X4_least rfl rfl rfl (by decide) ⟨Nat.le_of_ble_eq_true rfl, Nat.le_of_ble_eq_true rfl⟩ ⟨Nat.le_of_ble_eq_true rfl, Nat.le_of_ble_eq_true rfl⟩ rfl [] [0, 1, 2, 3] rfl rfl rfl rfl rfl [0, 1, 2, 3] [(x, .inr (4, [.ref xt, .int (nI nb), .int (nI pa), .int (nI pt), .int (nI off), .int (nI ha), .int (nI n), .ref xw, .ref xo, .ref xh, .int (nI nl), .ref xr, .int (nI ns), .ref xs, .ref xi, .long tr, .int u1, .int u2, .int u3, .long u4, .ref xd, .int u5, .ref xf])), (xw, .inl (cJ G, 23, .inr (.inl (fJ gw)))), (xo, .inl (cJ G, 23, .inr (.inl (fJ go)))), (xh, .inl (cJ G, 23, .inr (.inl (fJ gh))))] rfl rfl rfl (Nat.le_of_ble_eq_true rfl) dX4_crease_104 (fun H locs hw => ?_)
                exact hret (lN ((go kn) / Nat.gcd (go kn) 1048576)) () _ _ _ _ dX4_crease_107 (by unfold creaseF; rw [hkn2, tNat, if_pos (by omega), if_neg (by omega), if_neg (by omega), if_pos (by omega)]) hw
            · exfalso; omega
        · refine lv_aload_n hx hb dX4_crease_42 rfl (lv_at hl 0 rfl) ?_
          refine x_get E hw (C := RX4) (T := TX4) (N := 23) hinX4 0 rfl rfl 7 (by decide) rfl (List.mem_of_getElem? (i := 3) rfl) dX4_crease_43 ?_
          refine lv_iload_n hx hb dX4_crease_46 rfl (lv_at hl 1 rfl) ?_
          refine x_lald E hw 1 (a := xw) (v := (lN (gw kn))) rfl rfl (show kn < 23 by omega) (by omega) rfl dX4_crease_47 ?_
          refine lv_goto (tgt := 71) hx hb dX4_crease_48 (by decide) ?_
          refine lv_lstore_n (lv' := [(3, .long (lN (gw kn))), (0, .ref x), (1, .int (nI kn)), (2, .int (nI an))]) hx hb dX4_crease_71 rfl hl (by decide) rfl (fun ls hl => ?_)
          refine lv_lload_n hx hb dX4_crease_72 rfl (lv_at hl 0 rfl) ?_
          refine lv_iload_n hx hb dX4_crease_73 rfl (lv_at hl 3 rfl) ?_
          refine lv_iconst (v := (nI 2)) hx hb dX4_crease_74 (by decide) ?_
          refine x_icmp_ge E (nI_toI (show an < 2147483648 by omega)) (nI_toI (by decide)) (tgt := 90) dX4_crease_75 (by decide) (fun c_10 => ?_) (fun c_10 => ?_)
          · exfalso; omega
          · refine lv_aload_n hx hb dX4_crease_78 rfl (lv_at hl 1 rfl) ?_
            refine x_get E hw (C := RX4) (T := TX4) (N := 23) hinX4 0 rfl rfl 2 (by decide) rfl (List.mem_of_getElem? (i := 6) rfl) dX4_crease_79 ?_
            refine lv_i2l (v := (lN pa)) hx hb dX4_crease_82 (nI_l (by omega)) ?_
            refine lv_ldc2 (v := (1048576)) hx hb E.2.2.2.1 (E.2.2.2.2 _ (List.mem_of_getElem? (i := 7) rfl)) dX4_crease_83 ?_
            refine x_topl (v := lN 1048576) (by decide) ?_
            refine x_lmul E (v := (lN (pa * 1048576))) dX4_crease_86 (lN_mul _ _) ?_
            refine lv_goto (tgt := 93) hx hb dX4_crease_87 (by decide) ?_
            refine lv_iload_n hx hb dX4_crease_93 rfl (lv_at hl 3 rfl) ?_
            refine lv_iconst (v := (nI 2)) hx hb dX4_crease_94 (by decide) ?_
            refine x_irem E (v := (nI (an % 2))) dX4_crease_95 (by decide) (pk_rem (by omega) (by omega) (by omega)) ?_
            refine x_if_ne E (nI_toI (show an % 2 < 2147483648 by omega)) (tgt := 103) dX4_crease_96 (by decide) (fun c_11 => ?_) (fun c_11 => ?_)
            · refine lv_iconst (v := (nI 0)) hx hb dX4_crease_103 (by decide) ?_
              refine x_cfSl E hw hl.1 (As := [.long (lN (gw kn)), .long (lN (pa * 1048576)), .int (nI 0)]) (rest := []) (c_X4_leastL l G (gw kn) (pa * 1048576) (Nat.lt_trans (hgw _) (by decide)) (by omega) (by omega)) 3 gX4_crease_X4_least rfl rfl rfl (by decide) ⟨Nat.le_of_ble_eq_true rfl, Nat.le_of_ble_eq_true rfl⟩ ⟨Nat.le_of_ble_eq_true rfl, Nat.le_of_ble_eq_true rfl⟩ rfl [] [0, 1, 2, 3] rfl rfl rfl rfl rfl [0, 1, 2, 3] [(x, .inr (4, [.ref xt, .int (nI nb), .int (nI pa), .int (nI pt), .int (nI off), .int (nI ha), .int (nI n), .ref xw, .ref xo, .ref xh, .int (nI nl), .ref xr, .int (nI ns), .ref xs, .ref xi, .long tr, .int u1, .int u2, .int u3, .long u4, .ref xd, .int u5, .ref xf])), (xw, .inl (cJ G, 23, .inr (.inl (fJ gw)))), (xo, .inl (cJ G, 23, .inr (.inl (fJ go)))), (xh, .inl (cJ G, 23, .inr (.inl (fJ gh))))] rfl rfl rfl (Nat.le_of_ble_eq_true rfl) dX4_crease_104 (fun H locs hw => ?_)
              exact hret (lN ((pa * 1048576) / Nat.gcd (gw kn) (pa * 1048576))) () _ _ _ _ dX4_crease_107 (by unfold creaseF; rw [hkn2, tNat, if_pos (by omega), if_neg (by omega), if_pos (by omega)]) hw
            · refine lv_iconst (v := (nI 1)) hx hb dX4_crease_99 (by decide) ?_
              refine lv_goto (tgt := 104) hx hb dX4_crease_100 (by decide) ?_
              refine x_cfSl E hw hl.1 (As := [.long (lN (gw kn)), .long (lN (pa * 1048576)), .int (nI 1)]) (rest := []) (c_X4_leastU l G (gw kn) (pa * 1048576) (Nat.lt_trans (hgw _) (by decide)) (by omega) (by omega)) 3 gX4_crease_X4_least rfl rfl rfl (by decide) ⟨Nat.le_of_ble_eq_true rfl, Nat.le_of_ble_eq_true rfl⟩ ⟨Nat.le_of_ble_eq_true rfl, Nat.le_of_ble_eq_true rfl⟩ rfl [] [0, 1, 2, 3] rfl rfl rfl rfl rfl [0, 1, 2, 3] [(x, .inr (4, [.ref xt, .int (nI nb), .int (nI pa), .int (nI pt), .int (nI off), .int (nI ha), .int (nI n), .ref xw, .ref xo, .ref xh, .int (nI nl), .ref xr, .int (nI ns), .ref xs, .ref xi, .long tr, .int u1, .int u2, .int u3, .long u4, .ref xd, .int u5, .ref xf])), (xw, .inl (cJ G, 23, .inr (.inl (fJ gw)))), (xo, .inl (cJ G, 23, .inr (.inl (fJ go)))), (xh, .inl (cJ G, 23, .inr (.inl (fJ gh))))] rfl rfl rfl (Nat.le_of_ble_eq_true rfl) dX4_crease_104 (fun H locs hw => ?_)
              exact hret (lN ((gw kn) / Nat.gcd (gw kn) (pa * 1048576))) () _ _ _ _ dX4_crease_107 (by unfold creaseF; rw [hkn2, tNat, if_pos (by omega), if_pos (by omega)]) hw
      · have hgk := hgw kn
        by_cases hm : gw kn % 1048576 = 0
        · have hgk := hgw kn
          refine lv_aload_n hx hb dX4_crease_30 rfl (lv_at hl 0 rfl) ?_
          refine lv_iload_n hx hb dX4_crease_31 rfl (lv_at hl 1 rfl) ?_
          refine x_cfVi E hw hl.1 (As := [.int (nI kn)]) (rest := []) (c_X4_partOfY l G x xt xw xo xh xr xs xi xd xf nb pa pt off ha n nl ns tr u1 u2 u3 u4 u5 kn gw (by omega) (hgw _) (by assumption)) 1 gX4_crease_X4_partOf rfl rfl rfl (by decide) ⟨Nat.le_of_ble_eq_true rfl, Nat.le_of_ble_eq_true rfl⟩ ⟨Nat.le_of_ble_eq_true rfl, Nat.le_of_ble_eq_true rfl⟩ rfl 0 (ci := 4) (C := RX4) (T := TX4) (N := 23) rfl rfl [0, 1] [2, 3] rfl rfl rfl rfl rfl [2, 3, 0, 1] [(x, .inr (4, [.ref xt, .int (nI nb), .int (nI pa), .int (nI pt), .int (nI off), .int (nI ha), .int (nI n), .ref xw, .ref xo, .ref xh, .int (nI nl), .ref xr, .int (nI ns), .ref xs, .ref xi, .long tr, .int u1, .int u2, .int u3, .long u4, .ref xd, .int u5, .ref xf])), (xw, .inl (cJ G, 23, .inr (.inl (fJ gw)))), (xo, .inl (cJ G, 23, .inr (.inl (fJ go)))), (xh, .inl (cJ G, 23, .inr (.inl (fJ gh))))] rfl rfl rfl (Nat.le_of_ble_eq_true rfl) dX4_crease_32 (fun H locs hw => ?_)
          refine lv_i2l (v := (lN (gw kn / 1048576))) hx hb dX4_crease_35 (nI_l (by omega)) ?_
          exact hret (lN (gw kn / 1048576)) () _ _ _ _ dX4_crease_36 (by unfold creaseF; rw [hkn2, tNat, if_pos (by omega), if_neg (by omega), if_neg (by omega), if_neg (by omega), if_neg (by omega), if_neg (by omega), if_neg (by omega)]; unfold ptJ; rw [if_pos hm]) hw
        · have hgk := hgw kn
          refine lv_aload_n hx hb dX4_crease_30 rfl (lv_at hl 0 rfl) ?_
          refine lv_iload_n hx hb dX4_crease_31 rfl (lv_at hl 1 rfl) ?_
          refine x_cfVi E hw hl.1 (As := [.int (nI kn)]) (rest := []) (c_X4_partOfN l G x xt xw xo xh xr xs xi xd xf nb pa pt off ha n nl ns tr u1 u2 u3 u4 u5 kn gw (by omega) (hgw _) (by assumption)) 1 gX4_crease_X4_partOf rfl rfl rfl (by decide) ⟨Nat.le_of_ble_eq_true rfl, Nat.le_of_ble_eq_true rfl⟩ ⟨Nat.le_of_ble_eq_true rfl, Nat.le_of_ble_eq_true rfl⟩ rfl 0 (ci := 4) (C := RX4) (T := TX4) (N := 23) rfl rfl [0, 1] [2, 3] rfl rfl rfl rfl rfl [2, 3, 0, 1] [(x, .inr (4, [.ref xt, .int (nI nb), .int (nI pa), .int (nI pt), .int (nI off), .int (nI ha), .int (nI n), .ref xw, .ref xo, .ref xh, .int (nI nl), .ref xr, .int (nI ns), .ref xs, .ref xi, .long tr, .int u1, .int u2, .int u3, .long u4, .ref xd, .int u5, .ref xf])), (xw, .inl (cJ G, 23, .inr (.inl (fJ gw)))), (xo, .inl (cJ G, 23, .inr (.inl (fJ go)))), (xh, .inl (cJ G, 23, .inr (.inl (fJ gh))))] rfl rfl rfl (Nat.le_of_ble_eq_true rfl) dX4_crease_32 (fun H locs hw => ?_)
          refine lv_i2l (v := (-9 : Int64)) hx hb dX4_crease_35 (by decide) ?_
          exact hret (-9 : Int64) () _ _ _ _ dX4_crease_36 (by unfold creaseF; rw [hkn2, tNat, if_pos (by omega), if_neg (by omega), if_neg (by omega), if_neg (by omega), if_neg (by omega), if_neg (by omega), if_neg (by omega)]; unfold ptJ; rw [if_neg hm]) hw
    · refine lv_ldc2 (v := (-1)) hx hb E.2.2.2.1 (E.2.2.2.2 _ (List.mem_of_getElem? (i := 2) rfl)) dX4_crease_20 ?_
      exact hret (-1 : Int64) () _ _ _ _ dX4_crease_23 (ifF (by omega) rfl) hw

abbrev rm_X4_told : Room := { frames := 0, cells := 0, slots := 0, locals := 0 }
set_option maxHeartbeats 4000000 in
set_option maxRecDepth 100000 in
theorem c_X4_told (l : Launch) (G : XG) (x : Nat) (xt : Nat) (xw : Nat) (xo : Nat) (xh : Nat) (xr : Nat) (xs : Nat) (xi : Nat) (xd : Nat) (xf : Nat) (nb : Nat) (pa : Nat) (pt : Nat) (off : Nat) (ha : Nat) (n : Nat) (nl : Nat) (ns : Nat) (tr : Int64) (u1 : Int32) (u2 : Int32) (u3 : Int32) (u4 : Int64) (u5 : Int32) (k : Int32)  : CfI l yX4_told wsX4_told rm_X4_told G [.ref x, .int k] [(x, .inr (4, [.ref xt, .int (nI nb), .int (nI pa), .int (nI pt), .int (nI off), .int (nI ha), .int (nI n), .ref xw, .ref xo, .ref xh, .int (nI nl), .ref xr, .int (nI ns), .ref xs, .ref xi, .long tr, .int u1, .int u2, .int u3, .long u4, .ref xd, .int u5, .ref xf]))] (toldF pa pt off ha k.toInt) [(x, .inr (4, [.ref xt, .int (nI nb), .int (nI pa), .int (nI pt), .int (nI off), .int (nI ha), .int (nI n), .ref xw, .ref xo, .ref xh, .int (nI nl), .ref xr, .int (nI ns), .ref xs, .ref xi, .long tr, .int u1, .int u2, .int u3, .long u4, .ref xd, .int u5, .ref xf]))] := by
  refine CtI.go (cc := cX4_told) (maxL := 2) RX4 rfl (by decide) rfl (Nat.le_of_ble_eq_true rfl) ?_
  intro p e s m args below meth c A Q ls E hw hl hret
  have hx := E.1
  have hb := E.2.1
  have hinX4 : ∀ w ∈ wsX40, w ∈ wsX4_told := (fun w h => List.mem_cons_of_mem _ (List.mem_append_right _ h))
  have hl : lv_has ls 2 [(0, .ref x), (1, .int k)] := hl
  refine lv_iload_n hx hb dX4_told_0 rfl (lv_at hl 1 rfl) ?_
  refine x_if_ne E rfl (tgt := 11) dX4_told_1 (by decide) (fun c_1 => ?_) (fun c_1 => ?_)
  · refine lv_iload_n hx hb dX4_told_11 rfl (lv_at hl 1 rfl) ?_
    refine lv_iconst (v := (nI 1)) hx hb dX4_told_12 (by decide) ?_
    refine x_icmp_ne E rfl (nI_toI (by decide)) (tgt := 23) dX4_told_13 (by decide) (fun c_2 => ?_) (fun c_2 => ?_)
    · refine lv_iload_n hx hb dX4_told_23 rfl (lv_at hl 1 rfl) ?_
      refine lv_iconst (v := (nI 2)) hx hb dX4_told_24 (by decide) ?_
      refine x_icmp_ne E rfl (nI_toI (by decide)) (tgt := 35) dX4_told_25 (by decide) (fun c_3 => ?_) (fun c_3 => ?_)
      · refine lv_iload_n hx hb dX4_told_35 rfl (lv_at hl 1 rfl) ?_
        refine lv_iconst (v := (nI 3)) hx hb dX4_told_36 (by decide) ?_
        refine x_icmp_ne E rfl (nI_toI (by decide)) (tgt := 47) dX4_told_37 (by decide) (fun c_4 => ?_) (fun c_4 => ?_)
        · refine lv_iconst (v := (-1 : Int32)) hx hb dX4_told_47 (by decide) ?_
          exact hret (-1 : Int32) () _ _ _ _ dX4_told_48 rfl (ifF (by omega) (ifF (by omega) (ifF (by omega) (ifF (by omega) rfl)))) hw
        · refine lv_aload_n hx hb dX4_told_40 rfl (lv_at hl 0 rfl) ?_
          refine x_get E hw (C := RX4) (T := TX4) (N := 23) hinX4 0 rfl rfl 5 (by decide) rfl (List.mem_of_getElem? (i := 4) rfl) dX4_told_41 ?_
          refine lv_goto (tgt := 48) hx hb dX4_told_44 (by decide) ?_
          exact hret (nI ha) () _ _ _ _ dX4_told_48 rfl (ifF (by omega) (ifF (by omega) (ifF (by omega) (ifT (by omega) rfl)))) hw
      · refine lv_aload_n hx hb dX4_told_28 rfl (lv_at hl 0 rfl) ?_
        refine x_get E hw (C := RX4) (T := TX4) (N := 23) hinX4 0 rfl rfl 4 (by decide) rfl (List.mem_of_getElem? (i := 3) rfl) dX4_told_29 ?_
        refine lv_goto (tgt := 48) hx hb dX4_told_32 (by decide) ?_
        exact hret (nI off) () _ _ _ _ dX4_told_48 rfl (ifF (by omega) (ifF (by omega) (ifT (by omega) rfl))) hw
    · refine lv_aload_n hx hb dX4_told_16 rfl (lv_at hl 0 rfl) ?_
      refine x_get E hw (C := RX4) (T := TX4) (N := 23) hinX4 0 rfl rfl 3 (by decide) rfl (List.mem_of_getElem? (i := 2) rfl) dX4_told_17 ?_
      refine lv_goto (tgt := 48) hx hb dX4_told_20 (by decide) ?_
      exact hret (nI pt) () _ _ _ _ dX4_told_48 rfl (ifF (by omega) (ifT (by omega) rfl)) hw
  · refine lv_aload_n hx hb dX4_told_4 rfl (lv_at hl 0 rfl) ?_
    refine x_get E hw (C := RX4) (T := TX4) (N := 23) hinX4 0 rfl rfl 2 (by decide) rfl (List.mem_of_getElem? (i := 1) rfl) dX4_told_5 ?_
    refine lv_goto (tgt := 48) hx hb dX4_told_8 (by decide) ?_
    exact hret (nI pa) () _ _ _ _ dX4_told_48 rfl (ifT (by omega) rfl) hw

abbrev rm_X4_count : Room := { frames := 0, cells := 0, slots := 0, locals := 0 }
set_option maxHeartbeats 4000000 in
set_option maxRecDepth 100000 in
theorem c_X4_count (l : Launch) (G : XG) (x : Nat) (xt : Nat) (xw : Nat) (xo : Nat) (xh : Nat) (xr : Nat) (xs : Nat) (xi : Nat) (xd : Nat) (xf : Nat) (nb : Nat) (pa : Nat) (pt : Nat) (off : Nat) (ha : Nat) (n : Nat) (nl : Nat) (ns : Nat) (tr : Int64) (u1 : Int32) (u2 : Int32) (u3 : Int32) (u4 : Int64) (u5 : Int32) (k : Int32)  : CfI l yX4_count wsX4_count rm_X4_count G [.ref x, .int k] [(x, .inr (4, [.ref xt, .int (nI nb), .int (nI pa), .int (nI pt), .int (nI off), .int (nI ha), .int (nI n), .ref xw, .ref xo, .ref xh, .int (nI nl), .ref xr, .int (nI ns), .ref xs, .ref xi, .long tr, .int u1, .int u2, .int u3, .long u4, .ref xd, .int u5, .ref xf]))] (countF n nl ns nb k.toInt) [(x, .inr (4, [.ref xt, .int (nI nb), .int (nI pa), .int (nI pt), .int (nI off), .int (nI ha), .int (nI n), .ref xw, .ref xo, .ref xh, .int (nI nl), .ref xr, .int (nI ns), .ref xs, .ref xi, .long tr, .int u1, .int u2, .int u3, .long u4, .ref xd, .int u5, .ref xf]))] := by
  refine CtI.go (cc := cX4_count) (maxL := 2) RX4 rfl (by decide) rfl (Nat.le_of_ble_eq_true rfl) ?_
  intro p e s m args below meth c A Q ls E hw hl hret
  have hx := E.1
  have hb := E.2.1
  have hinX4 : ∀ w ∈ wsX40, w ∈ wsX4_count := (fun w h => List.mem_cons_of_mem _ (List.mem_append_right _ h))
  have hl : lv_has ls 2 [(0, .ref x), (1, .int k)] := hl
  refine lv_iload_n hx hb dX4_count_0 rfl (lv_at hl 1 rfl) ?_
  refine x_if_ne E rfl (tgt := 11) dX4_count_1 (by decide) (fun c_1 => ?_) (fun c_1 => ?_)
  · refine lv_iload_n hx hb dX4_count_11 rfl (lv_at hl 1 rfl) ?_
    refine lv_iconst (v := (nI 1)) hx hb dX4_count_12 (by decide) ?_
    refine x_icmp_ne E rfl (nI_toI (by decide)) (tgt := 23) dX4_count_13 (by decide) (fun c_2 => ?_) (fun c_2 => ?_)
    · refine lv_iload_n hx hb dX4_count_23 rfl (lv_at hl 1 rfl) ?_
      refine lv_iconst (v := (nI 2)) hx hb dX4_count_24 (by decide) ?_
      refine x_icmp_ne E rfl (nI_toI (by decide)) (tgt := 35) dX4_count_25 (by decide) (fun c_3 => ?_) (fun c_3 => ?_)
      · refine lv_iload_n hx hb dX4_count_35 rfl (lv_at hl 1 rfl) ?_
        refine lv_iconst (v := (nI 3)) hx hb dX4_count_36 (by decide) ?_
        refine x_icmp_ne E rfl (nI_toI (by decide)) (tgt := 47) dX4_count_37 (by decide) (fun c_4 => ?_) (fun c_4 => ?_)
        · refine lv_iconst (v := (-1 : Int32)) hx hb dX4_count_47 (by decide) ?_
          exact hret (-1 : Int32) () _ _ _ _ dX4_count_48 rfl (ifF (by omega) (ifF (by omega) (ifF (by omega) (ifF (by omega) rfl)))) hw
        · refine lv_aload_n hx hb dX4_count_40 rfl (lv_at hl 0 rfl) ?_
          refine x_get E hw (C := RX4) (T := TX4) (N := 23) hinX4 0 rfl rfl 1 (by decide) rfl (List.mem_of_getElem? (i := 4) rfl) dX4_count_41 ?_
          refine lv_goto (tgt := 48) hx hb dX4_count_44 (by decide) ?_
          exact hret (nI nb) () _ _ _ _ dX4_count_48 rfl (ifF (by omega) (ifF (by omega) (ifF (by omega) (ifT (by omega) rfl)))) hw
      · refine lv_aload_n hx hb dX4_count_28 rfl (lv_at hl 0 rfl) ?_
        refine x_get E hw (C := RX4) (T := TX4) (N := 23) hinX4 0 rfl rfl 12 (by decide) rfl (List.mem_of_getElem? (i := 3) rfl) dX4_count_29 ?_
        refine lv_goto (tgt := 48) hx hb dX4_count_32 (by decide) ?_
        exact hret (nI ns) () _ _ _ _ dX4_count_48 rfl (ifF (by omega) (ifF (by omega) (ifT (by omega) rfl))) hw
    · refine lv_aload_n hx hb dX4_count_16 rfl (lv_at hl 0 rfl) ?_
      refine x_get E hw (C := RX4) (T := TX4) (N := 23) hinX4 0 rfl rfl 10 (by decide) rfl (List.mem_of_getElem? (i := 2) rfl) dX4_count_17 ?_
      refine lv_goto (tgt := 48) hx hb dX4_count_20 (by decide) ?_
      exact hret (nI nl) () _ _ _ _ dX4_count_48 rfl (ifF (by omega) (ifT (by omega) rfl)) hw
  · refine lv_aload_n hx hb dX4_count_4 rfl (lv_at hl 0 rfl) ?_
    refine x_get E hw (C := RX4) (T := TX4) (N := 23) hinX4 0 rfl rfl 6 (by decide) rfl (List.mem_of_getElem? (i := 1) rfl) dX4_count_5 ?_
    refine lv_goto (tgt := 48) hx hb dX4_count_8 (by decide) ?_
    exact hret (nI n) () _ _ _ _ dX4_count_48 rfl (ifT (by omega) rfl) hw

abbrev rm_X4_trace : Room := { frames := 0, cells := 0, slots := 0, locals := 0 }
set_option maxHeartbeats 4000000 in
set_option maxRecDepth 100000 in
theorem c_X4_trace (l : Launch) (G : XG) (x : Nat) (xt : Nat) (xw : Nat) (xo : Nat) (xh : Nat) (xr : Nat) (xs : Nat) (xi : Nat) (xd : Nat) (xf : Nat) (nb : Nat) (pa : Nat) (pt : Nat) (off : Nat) (ha : Nat) (n : Nat) (nl : Nat) (ns : Nat) (tr : Int64) (u1 : Int32) (u2 : Int32) (u3 : Int32) (u4 : Int64) (u5 : Int32)  : CfL l yX4_trace wsX4_trace rm_X4_trace G [.ref x] [(x, .inr (4, [.ref xt, .int (nI nb), .int (nI pa), .int (nI pt), .int (nI off), .int (nI ha), .int (nI n), .ref xw, .ref xo, .ref xh, .int (nI nl), .ref xr, .int (nI ns), .ref xs, .ref xi, .long tr, .int u1, .int u2, .int u3, .long u4, .ref xd, .int u5, .ref xf]))] tr [(x, .inr (4, [.ref xt, .int (nI nb), .int (nI pa), .int (nI pt), .int (nI off), .int (nI ha), .int (nI n), .ref xw, .ref xo, .ref xh, .int (nI nl), .ref xr, .int (nI ns), .ref xs, .ref xi, .long tr, .int u1, .int u2, .int u3, .long u4, .ref xd, .int u5, .ref xf]))] := by
  refine CtL.go (cc := cX4_trace) (maxL := 1) RX4 rfl (by decide) rfl (Nat.le_of_ble_eq_true rfl) ?_
  intro p e s m args below meth c A Q ls E hw hl hret
  have hx := E.1
  have hb := E.2.1
  have hinX4 : ∀ w ∈ wsX40, w ∈ wsX4_trace := (fun w h => List.mem_cons_of_mem _ (List.mem_append_right _ h))
  have hl : lv_has ls 1 [(0, .ref x)] := hl
  refine lv_aload_n hx hb dX4_trace_0 rfl (lv_at hl 0 rfl) ?_
  refine x_get E hw (C := RX4) (T := TX4) (N := 23) hinX4 0 rfl rfl 15 (by decide) rfl (List.mem_of_getElem? (i := 1) rfl) dX4_trace_1 ?_
  exact hret tr () _ _ _ _ dX4_trace_4 rfl hw

abbrev rm_X4_fold_bad : Room := { frames := 2, cells := 0, slots := 0, locals := 46 }
set_option maxHeartbeats 4000000 in
set_option maxRecDepth 100000 in
theorem c_X4_fold_bad (l : Launch) (G : XG) (x : Nat) (xt : Nat) (xw : Nat) (xo : Nat) (xh : Nat) (xr : Nat) (xs : Nat) (xi : Nat) (xd : Nat) (xf : Nat) (nb : Nat) (pa : Nat) (pt : Nat) (off : Nat) (ha : Nat) (n : Nat) (nl : Nat) (ns : Nat) (tr : Int64) (u1 : Int32) (u2 : Int32) (u3 : Int32) (u4 : Int64) (u5 : Int32) (i : Int32) (j : Int32) (gw : Nat → Nat) (go : Nat → Nat) (gh : Nat → Nat) (hn : n ≤ 23) (hn3 : 3 ≤ n) (hbad : ¬ ((0 ≤ i.toInt ∧ i.toInt < (n : Int)) ∧ (0 ≤ j.toInt ∧ j.toInt < (n : Int)) ∧ ¬ i.toInt = j.toInt)) : CfI l yX4_fold wsX4_fold rm_X4_fold_bad G [.ref x, .int i, .int j] [(x, .inr (4, [.ref xt, .int (nI nb), .int (nI pa), .int (nI pt), .int (nI off), .int (nI ha), .int (nI n), .ref xw, .ref xo, .ref xh, .int (nI nl), .ref xr, .int (nI ns), .ref xs, .ref xi, .long tr, .int u1, .int u2, .int u3, .long u4, .ref xd, .int u5, .ref xf])), (xw, .inl (cJ G, 23, .inr (.inl (fJ gw)))), (xo, .inl (cJ G, 23, .inr (.inl (fJ go)))), (xh, .inl (cJ G, 23, .inr (.inl (fJ gh))))] (-1 : Int32) [(x, .inr (4, [.ref xt, .int (nI nb), .int (nI pa), .int (nI pt), .int (nI off), .int (nI ha), .int (nI n), .ref xw, .ref xo, .ref xh, .int (nI nl), .ref xr, .int (nI ns), .ref xs, .ref xi, .long tr, .int u1, .int u2, .int u3, .long u4, .ref xd, .int u5, .ref xf])), (xw, .inl (cJ G, 23, .inr (.inl (fJ gw)))), (xo, .inl (cJ G, 23, .inr (.inl (fJ go)))), (xh, .inl (cJ G, 23, .inr (.inl (fJ gh))))] := by
  refine CtI.go (cc := cX4_fold) (maxL := 3) RX4 rfl (by decide) rfl (Nat.le_of_ble_eq_true rfl) ?_
  intro p e s m args below meth c A Q ls E hw hl hret
  have hx := E.1
  have hb := E.2.1
  have hl : lv_has ls 3 [(0, .ref x), (1, .int i), (2, .int j)] := hl
  refine lv_aload_n hx hb dX4_fold_0 rfl (lv_at hl 0 rfl) ?_
  refine lv_iload_n hx hb dX4_fold_1 rfl (lv_at hl 1 rfl) ?_
  refine x_cfVi E hw hl.1 (As := [.int i]) (rest := []) (c_X4_isCrease l G x xt xw xo xh xr xs xi xd xf nb pa pt off ha n nl ns tr u1 u2 u3 u4 u5 i (by omega) (by omega)) 1 gX4_fold_X4_isCrease rfl rfl rfl (by decide) ⟨Nat.le_of_ble_eq_true rfl, Nat.le_of_ble_eq_true rfl⟩ ⟨Nat.le_of_ble_eq_true rfl, Nat.le_of_ble_eq_true rfl⟩ rfl 0 (ci := 4) (C := RX4) (T := TX4) (N := 23) rfl rfl [0] [1, 2, 3] rfl rfl rfl rfl rfl [3, 0, 1, 2] [(x, .inr (4, [.ref xt, .int (nI nb), .int (nI pa), .int (nI pt), .int (nI off), .int (nI ha), .int (nI n), .ref xw, .ref xo, .ref xh, .int (nI nl), .ref xr, .int (nI ns), .ref xs, .ref xi, .long tr, .int u1, .int u2, .int u3, .long u4, .ref xd, .int u5, .ref xf])), (xw, .inl (cJ G, 23, .inr (.inl (fJ gw)))), (xo, .inl (cJ G, 23, .inr (.inl (fJ go)))), (xh, .inl (cJ G, 23, .inr (.inl (fJ gh))))] rfl rfl rfl (Nat.le_of_ble_eq_true rfl) dX4_fold_2 (fun H locs hw => ?_)
  refine x_ifb_eq E (P := 0 ≤ i.toInt ∧ i.toInt < (n : Int)) (tgt := 21) dX4_fold_5 (by decide) (fun c_1 => ?_) (fun c_1 => ?_)
  · refine lv_iconst (v := (-1 : Int32)) hx hb dX4_fold_21 (by decide) ?_
    exact hret (-1 : Int32) () _ _ _ _ dX4_fold_22 rfl rfl hw
  · refine lv_aload_n hx hb dX4_fold_8 rfl (lv_at hl 0 rfl) ?_
    refine lv_iload_n hx hb dX4_fold_9 rfl (lv_at hl 2 rfl) ?_
    refine x_cfVi E hw hl.1 (As := [.int j]) (rest := []) (c_X4_isCrease l G x xt xw xo xh xr xs xi xd xf nb pa pt off ha n nl ns tr u1 u2 u3 u4 u5 j (by omega) (by omega)) 1 gX4_fold_X4_isCrease rfl rfl rfl (by decide) ⟨Nat.le_of_ble_eq_true rfl, Nat.le_of_ble_eq_true rfl⟩ ⟨Nat.le_of_ble_eq_true rfl, Nat.le_of_ble_eq_true rfl⟩ rfl 0 (ci := 4) (C := RX4) (T := TX4) (N := 23) rfl rfl [0] [1, 2, 3] rfl rfl rfl rfl rfl [3, 0, 1, 2] [(x, .inr (4, [.ref xt, .int (nI nb), .int (nI pa), .int (nI pt), .int (nI off), .int (nI ha), .int (nI n), .ref xw, .ref xo, .ref xh, .int (nI nl), .ref xr, .int (nI ns), .ref xs, .ref xi, .long tr, .int u1, .int u2, .int u3, .long u4, .ref xd, .int u5, .ref xf])), (xw, .inl (cJ G, 23, .inr (.inl (fJ gw)))), (xo, .inl (cJ G, 23, .inr (.inl (fJ go)))), (xh, .inl (cJ G, 23, .inr (.inl (fJ gh))))] rfl rfl rfl (Nat.le_of_ble_eq_true rfl) dX4_fold_10 (fun H locs hw => ?_)
    refine x_ifb_eq E (P := 0 ≤ j.toInt ∧ j.toInt < (n : Int)) (tgt := 21) dX4_fold_13 (by decide) (fun c_2 => ?_) (fun c_2 => ?_)
    · refine lv_iconst (v := (-1 : Int32)) hx hb dX4_fold_21 (by decide) ?_
      exact hret (-1 : Int32) () _ _ _ _ dX4_fold_22 rfl rfl hw
    · refine lv_iload_n hx hb dX4_fold_16 rfl (lv_at hl 1 rfl) ?_
      refine lv_iload_n hx hb dX4_fold_17 rfl (lv_at hl 2 rfl) ?_
      refine x_icmp_ne E rfl rfl (tgt := 23) dX4_fold_18 (by decide) (fun c_3 => ?_) (fun c_3 => ?_)
      · exfalso; omega
      · refine lv_iconst (v := (-1 : Int32)) hx hb dX4_fold_21 (by decide) ?_
        exact hret (-1 : Int32) () _ _ _ _ dX4_fold_22 rfl rfl hw

abbrev rm_X4_fold_full : Room := { frames := 2, cells := 0, slots := 0, locals := 46 }
set_option maxHeartbeats 4000000 in
set_option maxRecDepth 100000 in
theorem c_X4_fold_full (l : Launch) (G : XG) (x : Nat) (xt : Nat) (xw : Nat) (xo : Nat) (xh : Nat) (xr : Nat) (xs : Nat) (xi : Nat) (xd : Nat) (xf : Nat) (nb : Nat) (pa : Nat) (pt : Nat) (off : Nat) (ha : Nat) (n : Nat) (nl : Nat) (ns : Nat) (tr : Int64) (u1 : Int32) (u2 : Int32) (u3 : Int32) (u4 : Int64) (u5 : Int32) (i : Nat) (j : Nat) (gw : Nat → Nat) (go : Nat → Nat) (gh : Nat → Nat) (hn : n ≤ 23) (hn3 : 3 ≤ n) (hi : i < n) (hj : j < n) (hij : i ≠ j) (hf : 23 ≤ n) : CfI l yX4_fold wsX4_fold rm_X4_fold_full G [.ref x, .int (nI i), .int (nI j)] [(x, .inr (4, [.ref xt, .int (nI nb), .int (nI pa), .int (nI pt), .int (nI off), .int (nI ha), .int (nI n), .ref xw, .ref xo, .ref xh, .int (nI nl), .ref xr, .int (nI ns), .ref xs, .ref xi, .long tr, .int u1, .int u2, .int u3, .long u4, .ref xd, .int u5, .ref xf])), (xw, .inl (cJ G, 23, .inr (.inl (fJ gw)))), (xo, .inl (cJ G, 23, .inr (.inl (fJ go)))), (xh, .inl (cJ G, 23, .inr (.inl (fJ gh))))] (-3 : Int32) [(x, .inr (4, [.ref xt, .int (nI nb), .int (nI pa), .int (nI pt), .int (nI off), .int (nI ha), .int (nI n), .ref xw, .ref xo, .ref xh, .int (nI nl), .ref xr, .int (nI ns), .ref xs, .ref xi, .long tr, .int u1, .int u2, .int u3, .long u4, .ref xd, .int u5, .ref xf])), (xw, .inl (cJ G, 23, .inr (.inl (fJ gw)))), (xo, .inl (cJ G, 23, .inr (.inl (fJ go)))), (xh, .inl (cJ G, 23, .inr (.inl (fJ gh))))] := by
  refine CtI.go (cc := cX4_fold) (maxL := 3) RX4 rfl (by decide) rfl (Nat.le_of_ble_eq_true rfl) ?_
  intro p e s m args below meth c A Q ls E hw hl hret
  have hx := E.1
  have hb := E.2.1
  have hinX4 : ∀ w ∈ wsX40, w ∈ wsX4_fold := (fun w h => List.mem_cons_of_mem _ (List.mem_append_right _ h))
  have hl : lv_has ls 3 [(0, .ref x), (1, .int (nI i)), (2, .int (nI j))] := hl
  refine lv_aload_n hx hb dX4_fold_0 rfl (lv_at hl 0 rfl) ?_
  refine lv_iload_n hx hb dX4_fold_1 rfl (lv_at hl 1 rfl) ?_
  refine x_cfVi E hw hl.1 (As := [.int (nI i)]) (rest := []) (c_X4_isCreaseN l G x xt xw xo xh xr xs xi xd xf nb pa pt off ha n nl ns tr u1 u2 u3 u4 u5 i (by omega) (by omega) (by omega)) 1 gX4_fold_X4_isCrease rfl rfl rfl (by decide) ⟨Nat.le_of_ble_eq_true rfl, Nat.le_of_ble_eq_true rfl⟩ ⟨Nat.le_of_ble_eq_true rfl, Nat.le_of_ble_eq_true rfl⟩ rfl 0 (ci := 4) (C := RX4) (T := TX4) (N := 23) rfl rfl [0] [1, 2, 3] rfl rfl rfl rfl rfl [3, 0, 1, 2] [(x, .inr (4, [.ref xt, .int (nI nb), .int (nI pa), .int (nI pt), .int (nI off), .int (nI ha), .int (nI n), .ref xw, .ref xo, .ref xh, .int (nI nl), .ref xr, .int (nI ns), .ref xs, .ref xi, .long tr, .int u1, .int u2, .int u3, .long u4, .ref xd, .int u5, .ref xf])), (xw, .inl (cJ G, 23, .inr (.inl (fJ gw)))), (xo, .inl (cJ G, 23, .inr (.inl (fJ go)))), (xh, .inl (cJ G, 23, .inr (.inl (fJ gh))))] rfl rfl rfl (Nat.le_of_ble_eq_true rfl) dX4_fold_2 (fun H locs hw => ?_)
  refine x_ifb_eq E (P := i < n) (tgt := 21) dX4_fold_5 (by decide) (fun c_1 => ?_) (fun c_1 => ?_)
  · exfalso; omega
  · refine lv_aload_n hx hb dX4_fold_8 rfl (lv_at hl 0 rfl) ?_
    refine lv_iload_n hx hb dX4_fold_9 rfl (lv_at hl 2 rfl) ?_
    refine x_cfVi E hw hl.1 (As := [.int (nI j)]) (rest := []) (c_X4_isCreaseN l G x xt xw xo xh xr xs xi xd xf nb pa pt off ha n nl ns tr u1 u2 u3 u4 u5 j (by omega) (by omega) (by omega)) 1 gX4_fold_X4_isCrease rfl rfl rfl (by decide) ⟨Nat.le_of_ble_eq_true rfl, Nat.le_of_ble_eq_true rfl⟩ ⟨Nat.le_of_ble_eq_true rfl, Nat.le_of_ble_eq_true rfl⟩ rfl 0 (ci := 4) (C := RX4) (T := TX4) (N := 23) rfl rfl [0] [1, 2, 3] rfl rfl rfl rfl rfl [3, 0, 1, 2] [(x, .inr (4, [.ref xt, .int (nI nb), .int (nI pa), .int (nI pt), .int (nI off), .int (nI ha), .int (nI n), .ref xw, .ref xo, .ref xh, .int (nI nl), .ref xr, .int (nI ns), .ref xs, .ref xi, .long tr, .int u1, .int u2, .int u3, .long u4, .ref xd, .int u5, .ref xf])), (xw, .inl (cJ G, 23, .inr (.inl (fJ gw)))), (xo, .inl (cJ G, 23, .inr (.inl (fJ go)))), (xh, .inl (cJ G, 23, .inr (.inl (fJ gh))))] rfl rfl rfl (Nat.le_of_ble_eq_true rfl) dX4_fold_10 (fun H locs hw => ?_)
    refine x_ifb_eq E (P := j < n) (tgt := 21) dX4_fold_13 (by decide) (fun c_2 => ?_) (fun c_2 => ?_)
    · exfalso; omega
    · refine lv_iload_n hx hb dX4_fold_16 rfl (lv_at hl 1 rfl) ?_
      refine lv_iload_n hx hb dX4_fold_17 rfl (lv_at hl 2 rfl) ?_
      refine x_icmp_ne E (nI_toI (show i < 2147483648 by omega)) (nI_toI (show j < 2147483648 by omega)) (tgt := 23) dX4_fold_18 (by decide) (fun c_3 => ?_) (fun c_3 => ?_)
      · refine lv_aload_n hx hb dX4_fold_23 rfl (lv_at hl 0 rfl) ?_
        refine x_get E hw (C := RX4) (T := TX4) (N := 23) hinX4 0 rfl rfl 6 (by decide) rfl (List.mem_of_getElem? (i := 1) rfl) dX4_fold_24 ?_
        refine lv_bipush (v := (nI 23)) hx hb dX4_fold_27 (by decide) ?_
        refine x_icmp_ne E (nI_toI (show n < 2147483648 by omega)) (nI_toI (by decide)) (tgt := 35) dX4_fold_29 (by decide) (fun c_4 => ?_) (fun c_4 => ?_)
        · exfalso; omega
        · refine lv_bipush (v := (-3 : Int32)) hx hb dX4_fold_32 (by decide) ?_
          exact hret (-3 : Int32) () _ _ _ _ dX4_fold_34 rfl rfl hw
      · exfalso; omega

abbrev rm_X4_fold_ok : Room := { frames := 2, cells := 0, slots := 0, locals := 46 }
set_option maxHeartbeats 4000000 in
set_option maxRecDepth 100000 in
theorem c_X4_fold_ok (l : Launch) (G : XG) (x : Nat) (xt : Nat) (xw : Nat) (xo : Nat) (xh : Nat) (xr : Nat) (xs : Nat) (xi : Nat) (xd : Nat) (xf : Nat) (nb : Nat) (pa : Nat) (pt : Nat) (off : Nat) (ha : Nat) (n : Nat) (nl : Nat) (ns : Nat) (tr : Int64) (u1 : Int32) (u2 : Int32) (u3 : Int32) (u4 : Int64) (u5 : Int32) (i : Nat) (j : Nat) (gw : Nat → Nat) (go : Nat → Nat) (gh : Nat → Nat) (hn : n ≤ 23) (hn3 : 3 ≤ n) (hi : i < n) (hj : j < n) (hij : i ≠ j) (hf : n < 23) (hgw : ∀ q, gw q < 1073741824) (hgo : ∀ q, go q < 1073741824) (hgh : ∀ q, gh q < 1073741824) : CfI l yX4_fold wsX4_fold rm_X4_fold_ok G [.ref x, .int (nI i), .int (nI j)] [(x, .inr (4, [.ref xt, .int (nI nb), .int (nI pa), .int (nI pt), .int (nI off), .int (nI ha), .int (nI n), .ref xw, .ref xo, .ref xh, .int (nI nl), .ref xr, .int (nI ns), .ref xs, .ref xi, .long tr, .int u1, .int u2, .int u3, .long u4, .ref xd, .int u5, .ref xf])), (xw, .inl (cJ G, 23, .inr (.inl (fJ gw)))), (xo, .inl (cJ G, 23, .inr (.inl (fJ go)))), (xh, .inl (cJ G, 23, .inr (.inl (fJ gh))))] (nI n) [(x, .inr (4, [.ref xt, .int (nI nb), .int (nI pa), .int (nI pt), .int (nI off), .int (nI ha), .int (nI (n + 1)), .ref xw, .ref xo, .ref xh, .int (nI nl), .ref xr, .int (nI ns), .ref xs, .ref xi, .long tr, .int u1, .int u2, .int u3, .long u4, .ref xd, .int u5, .ref xf])), (xw, .inl (cJ G, 23, .inr (.inl (fJ (mid gw n i j))))), (xo, .inl (cJ G, 23, .inr (.inl (fJ (mid go n i j))))), (xh, .inl (cJ G, 23, .inr (.inl (fJ (midH gh n i j)))))] := by
  refine CtI.go (cc := cX4_fold) (maxL := 3) RX4 rfl (by decide) rfl (Nat.le_of_ble_eq_true rfl) ?_
  intro p e s m args below meth c A Q ls E hw hl hret
  have hx := E.1
  have hb := E.2.1
  have hinX4 : ∀ w ∈ wsX40, w ∈ wsX4_fold := (fun w h => List.mem_cons_of_mem _ (List.mem_append_right _ h))
  have hl : lv_has ls 3 [(0, .ref x), (1, .int (nI i)), (2, .int (nI j))] := hl
  refine lv_aload_n hx hb dX4_fold_0 rfl (lv_at hl 0 rfl) ?_
  refine lv_iload_n hx hb dX4_fold_1 rfl (lv_at hl 1 rfl) ?_
  refine x_cfVi E hw hl.1 (As := [.int (nI i)]) (rest := []) (c_X4_isCreaseN l G x xt xw xo xh xr xs xi xd xf nb pa pt off ha n nl ns tr u1 u2 u3 u4 u5 i (by omega) (by omega) (by omega)) 1 gX4_fold_X4_isCrease rfl rfl rfl (by decide) ⟨Nat.le_of_ble_eq_true rfl, Nat.le_of_ble_eq_true rfl⟩ ⟨Nat.le_of_ble_eq_true rfl, Nat.le_of_ble_eq_true rfl⟩ rfl 0 (ci := 4) (C := RX4) (T := TX4) (N := 23) rfl rfl [0] [1, 2, 3] rfl rfl rfl rfl rfl [3, 0, 1, 2] [(x, .inr (4, [.ref xt, .int (nI nb), .int (nI pa), .int (nI pt), .int (nI off), .int (nI ha), .int (nI n), .ref xw, .ref xo, .ref xh, .int (nI nl), .ref xr, .int (nI ns), .ref xs, .ref xi, .long tr, .int u1, .int u2, .int u3, .long u4, .ref xd, .int u5, .ref xf])), (xw, .inl (cJ G, 23, .inr (.inl (fJ gw)))), (xo, .inl (cJ G, 23, .inr (.inl (fJ go)))), (xh, .inl (cJ G, 23, .inr (.inl (fJ gh))))] rfl rfl rfl (Nat.le_of_ble_eq_true rfl) dX4_fold_2 (fun H locs hw => ?_)
  refine x_ifb_eq E (P := i < n) (tgt := 21) dX4_fold_5 (by decide) (fun c_1 => ?_) (fun c_1 => ?_)
  · exfalso; omega
  · refine lv_aload_n hx hb dX4_fold_8 rfl (lv_at hl 0 rfl) ?_
    refine lv_iload_n hx hb dX4_fold_9 rfl (lv_at hl 2 rfl) ?_
    refine x_cfVi E hw hl.1 (As := [.int (nI j)]) (rest := []) (c_X4_isCreaseN l G x xt xw xo xh xr xs xi xd xf nb pa pt off ha n nl ns tr u1 u2 u3 u4 u5 j (by omega) (by omega) (by omega)) 1 gX4_fold_X4_isCrease rfl rfl rfl (by decide) ⟨Nat.le_of_ble_eq_true rfl, Nat.le_of_ble_eq_true rfl⟩ ⟨Nat.le_of_ble_eq_true rfl, Nat.le_of_ble_eq_true rfl⟩ rfl 0 (ci := 4) (C := RX4) (T := TX4) (N := 23) rfl rfl [0] [1, 2, 3] rfl rfl rfl rfl rfl [3, 0, 1, 2] [(x, .inr (4, [.ref xt, .int (nI nb), .int (nI pa), .int (nI pt), .int (nI off), .int (nI ha), .int (nI n), .ref xw, .ref xo, .ref xh, .int (nI nl), .ref xr, .int (nI ns), .ref xs, .ref xi, .long tr, .int u1, .int u2, .int u3, .long u4, .ref xd, .int u5, .ref xf])), (xw, .inl (cJ G, 23, .inr (.inl (fJ gw)))), (xo, .inl (cJ G, 23, .inr (.inl (fJ go)))), (xh, .inl (cJ G, 23, .inr (.inl (fJ gh))))] rfl rfl rfl (Nat.le_of_ble_eq_true rfl) dX4_fold_10 (fun H locs hw => ?_)
    refine x_ifb_eq E (P := j < n) (tgt := 21) dX4_fold_13 (by decide) (fun c_2 => ?_) (fun c_2 => ?_)
    · exfalso; omega
    · refine lv_iload_n hx hb dX4_fold_16 rfl (lv_at hl 1 rfl) ?_
      refine lv_iload_n hx hb dX4_fold_17 rfl (lv_at hl 2 rfl) ?_
      refine x_icmp_ne E (nI_toI (show i < 2147483648 by omega)) (nI_toI (show j < 2147483648 by omega)) (tgt := 23) dX4_fold_18 (by decide) (fun c_3 => ?_) (fun c_3 => ?_)
      · refine lv_aload_n hx hb dX4_fold_23 rfl (lv_at hl 0 rfl) ?_
        refine x_get E hw (C := RX4) (T := TX4) (N := 23) hinX4 0 rfl rfl 6 (by decide) rfl (List.mem_of_getElem? (i := 1) rfl) dX4_fold_24 ?_
        refine lv_bipush (v := (nI 23)) hx hb dX4_fold_27 (by decide) ?_
        refine x_icmp_ne E (nI_toI (show n < 2147483648 by omega)) (nI_toI (by decide)) (tgt := 35) dX4_fold_29 (by decide) (fun c_4 => ?_) (fun c_4 => ?_)
        · refine lv_aload_n hx hb dX4_fold_35 rfl (lv_at hl 0 rfl) ?_
          refine lv_iload_n hx hb dX4_fold_36 rfl (lv_at hl 1 rfl) ?_
          refine lv_iload_n hx hb dX4_fold_37 rfl (lv_at hl 2 rfl) ?_
          refine x_cfVv E hw hl.1 (As := [.int (nI i), .int (nI j)]) (rest := []) (c_X4_folds l G x xt xw xo xh xr xs xi xd xf nb pa pt off ha n nl ns tr u1 u2 u3 u4 u5 i j gw go gh (by omega) (by omega) (by omega) hgw hgo hgh) 2 gX4_fold_X4_folds rfl rfl rfl (by decide) ⟨Nat.le_of_ble_eq_true rfl, Nat.le_of_ble_eq_true rfl⟩ ⟨Nat.le_of_ble_eq_true rfl, Nat.le_of_ble_eq_true rfl⟩ rfl 0 (ci := 4) (C := RX4) (T := TX4) (N := 23) rfl rfl [0, 1, 2, 3] [] rfl rfl rfl rfl rfl [0, 1, 2, 3] [(x, .inr (4, [.ref xt, .int (nI nb), .int (nI pa), .int (nI pt), .int (nI off), .int (nI ha), .int (nI (n + 1)), .ref xw, .ref xo, .ref xh, .int (nI nl), .ref xr, .int (nI ns), .ref xs, .ref xi, .long tr, .int u1, .int u2, .int u3, .long u4, .ref xd, .int u5, .ref xf])), (xw, .inl (cJ G, 23, .inr (.inl (fJ (mid gw n i j))))), (xo, .inl (cJ G, 23, .inr (.inl (fJ (mid go n i j))))), (xh, .inl (cJ G, 23, .inr (.inl (fJ (midH gh n i j)))))] rfl rfl rfl (Nat.le_of_ble_eq_true rfl) dX4_fold_38 (fun H locs hw => ?_)
          refine lv_aload_n hx hb dX4_fold_41 rfl (lv_at hl 0 rfl) ?_
          refine x_get E hw (C := RX4) (T := TX4) (N := 23) hinX4 0 rfl rfl 6 (by decide) rfl (List.mem_of_getElem? (i := 1) rfl) dX4_fold_42 ?_
          refine lv_iconst (v := (nI 1)) hx hb dX4_fold_45 (by decide) ?_
          refine x_isub E (v := (nI ((n + 1) - 1))) dX4_fold_46 (pk_sub (by omega)) ?_
          exact hret (nI ((n + 1) - 1)) () _ _ _ _ dX4_fold_47 rfl (by rw [show n + 1 - 1 = n by omega]) hw
        · exfalso; omega
      · exfalso; omega

abbrev rm_X4_rule_state : Room := { frames := 2, cells := 0, slots := 0, locals := 46 }
set_option maxHeartbeats 4000000 in
set_option maxRecDepth 100000 in
theorem c_X4_rule_state (l : Launch) (G : XG) (x : Nat) (xt : Nat) (xw : Nat) (xo : Nat) (xh : Nat) (xr : Nat) (xs : Nat) (xi : Nat) (xd : Nat) (xf : Nat) (nb : Nat) (pa : Nat) (pt : Nat) (off : Nat) (ha : Nat) (n : Nat) (nl : Nat) (ns : Nat) (tr : Int64) (u1 : Int32) (u2 : Int32) (u3 : Int32) (u4 : Int64) (u5 : Int32) (gw : Nat → Nat) (go : Nat → Nat) (gh : Nat → Nat) (hn : n ≤ 23) (hn3 : 3 ≤ n) (hpa : pa ≤ 63) (hpa3 : 3 ≤ pa) (hgw : ∀ q, gw q < 1073741824) (hbad : ¬ (gw (n - 1) % 1048576 = 0 ∧ 1 ≤ gw (n - 1) / 1048576 ∧ gw (n - 1) / 1048576 < pa)) : CfI l yX4_rule wsX4_rule rm_X4_rule_state G [.ref x] [(x, .inr (4, [.ref xt, .int (nI nb), .int (nI pa), .int (nI pt), .int (nI off), .int (nI ha), .int (nI n), .ref xw, .ref xo, .ref xh, .int (nI nl), .ref xr, .int (nI ns), .ref xs, .ref xi, .long tr, .int u1, .int u2, .int u3, .long u4, .ref xd, .int u5, .ref xf])), (xw, .inl (cJ G, 23, .inr (.inl (fJ gw)))), (xo, .inl (cJ G, 23, .inr (.inl (fJ go)))), (xh, .inl (cJ G, 23, .inr (.inl (fJ gh))))] (-2 : Int32) [(x, .inr (4, [.ref xt, .int (nI nb), .int (nI pa), .int (nI pt), .int (nI off), .int (nI ha), .int (nI n), .ref xw, .ref xo, .ref xh, .int (nI nl), .ref xr, .int (nI ns), .ref xs, .ref xi, .long tr, .int u1, .int u2, .int u3, .long u4, .ref xd, .int u5, .ref xf])), (xw, .inl (cJ G, 23, .inr (.inl (fJ gw)))), (xo, .inl (cJ G, 23, .inr (.inl (fJ go)))), (xh, .inl (cJ G, 23, .inr (.inl (fJ gh))))] := by
  refine CtI.go (cc := cX4_rule) (maxL := 3) RX4 rfl (by decide) rfl (Nat.le_of_ble_eq_true rfl) ?_
  intro p e s m args below meth c A Q ls E hw hl hret
  have hx := E.1
  have hb := E.2.1
  have hinX4 : ∀ w ∈ wsX40, w ∈ wsX4_rule := (fun w h => List.mem_cons_of_mem _ (List.mem_append_right _ h))
  have hl : lv_has ls 3 [(0, .ref x)] := hl
  by_cases hm : gw (n - 1) % 1048576 = 0
  · refine lv_aload_n hx hb dX4_rule_0 rfl (lv_at hl 0 rfl) ?_
    refine lv_aload_n hx hb dX4_rule_1 rfl (lv_at hl 0 rfl) ?_
    refine x_get E hw (C := RX4) (T := TX4) (N := 23) hinX4 0 rfl rfl 6 (by decide) rfl (List.mem_of_getElem? (i := 1) rfl) dX4_rule_2 ?_
    refine lv_iconst (v := (nI 1)) hx hb dX4_rule_5 (by decide) ?_
    refine x_isub E (v := (nI (n - 1))) dX4_rule_6 (pk_sub (by omega)) ?_
    refine x_cfVi E hw hl.1 (As := [.int (nI (n - 1))]) (rest := []) (c_X4_partOfY l G x xt xw xo xh xr xs xi xd xf nb pa pt off ha n nl ns tr u1 u2 u3 u4 u5 (n - 1) gw (by omega) (hgw _) (by assumption)) 1 gX4_rule_X4_partOf rfl rfl rfl (by decide) ⟨Nat.le_of_ble_eq_true rfl, Nat.le_of_ble_eq_true rfl⟩ ⟨Nat.le_of_ble_eq_true rfl, Nat.le_of_ble_eq_true rfl⟩ rfl 0 (ci := 4) (C := RX4) (T := TX4) (N := 23) rfl rfl [0, 1] [2, 3] rfl rfl rfl rfl rfl [2, 3, 0, 1] [(x, .inr (4, [.ref xt, .int (nI nb), .int (nI pa), .int (nI pt), .int (nI off), .int (nI ha), .int (nI n), .ref xw, .ref xo, .ref xh, .int (nI nl), .ref xr, .int (nI ns), .ref xs, .ref xi, .long tr, .int u1, .int u2, .int u3, .long u4, .ref xd, .int u5, .ref xf])), (xw, .inl (cJ G, 23, .inr (.inl (fJ gw)))), (xo, .inl (cJ G, 23, .inr (.inl (fJ go)))), (xh, .inl (cJ G, 23, .inr (.inl (fJ gh))))] rfl rfl rfl (Nat.le_of_ble_eq_true rfl) dX4_rule_7 (fun H locs hw => ?_)
    refine lv_istore_n (lv' := [(1, .int (nI (gw (n - 1) / 1048576))), (0, .ref x)]) hx hb dX4_rule_10 rfl hl (by decide) rfl (fun ls hl => ?_)
    refine lv_aload_n hx hb dX4_rule_11 rfl (lv_at hl 1 rfl) ?_
    refine lv_iload_n hx hb dX4_rule_12 rfl (lv_at hl 0 rfl) ?_
    refine x_cfVi E hw hl.1 (As := [.int (nI (gw (n - 1) / 1048576))]) (rest := []) (c_X4_isPartN l G x xt xw xo xh xr xs xi xd xf nb pa pt off ha n nl ns tr u1 u2 u3 u4 u5 (gw (n - 1) / 1048576) (by omega) (by omega) (by have := hgw (n - 1); omega)) 1 gX4_rule_X4_isPart rfl rfl rfl (by decide) ⟨Nat.le_of_ble_eq_true rfl, Nat.le_of_ble_eq_true rfl⟩ ⟨Nat.le_of_ble_eq_true rfl, Nat.le_of_ble_eq_true rfl⟩ rfl 0 (ci := 4) (C := RX4) (T := TX4) (N := 23) rfl rfl [0] [1, 2, 3] rfl rfl rfl rfl rfl [3, 0, 1, 2] [(x, .inr (4, [.ref xt, .int (nI nb), .int (nI pa), .int (nI pt), .int (nI off), .int (nI ha), .int (nI n), .ref xw, .ref xo, .ref xh, .int (nI nl), .ref xr, .int (nI ns), .ref xs, .ref xi, .long tr, .int u1, .int u2, .int u3, .long u4, .ref xd, .int u5, .ref xf])), (xw, .inl (cJ G, 23, .inr (.inl (fJ gw)))), (xo, .inl (cJ G, 23, .inr (.inl (fJ go)))), (xh, .inl (cJ G, 23, .inr (.inl (fJ gh))))] rfl rfl rfl (Nat.le_of_ble_eq_true rfl) dX4_rule_13 (fun H locs hw => ?_)
    refine x_ifb_ne E (P := 1 ≤ (gw (n - 1) / 1048576) ∧ (gw (n - 1) / 1048576) < pa) (tgt := 22) dX4_rule_16 (by decide) (fun hin => ?_) (fun hin => ?_)
    · first | (exact absurd hin.1 (by decide)) | (exfalso; omega)
    · refine lv_bipush (v := (-2 : Int32)) hx hb dX4_rule_19 (by decide) ?_
      exact hret (-2 : Int32) () _ _ _ _ dX4_rule_21 rfl rfl hw
  · refine lv_aload_n hx hb dX4_rule_0 rfl (lv_at hl 0 rfl) ?_
    refine lv_aload_n hx hb dX4_rule_1 rfl (lv_at hl 0 rfl) ?_
    refine x_get E hw (C := RX4) (T := TX4) (N := 23) hinX4 0 rfl rfl 6 (by decide) rfl (List.mem_of_getElem? (i := 1) rfl) dX4_rule_2 ?_
    refine lv_iconst (v := (nI 1)) hx hb dX4_rule_5 (by decide) ?_
    refine x_isub E (v := (nI (n - 1))) dX4_rule_6 (pk_sub (by omega)) ?_
    refine x_cfVi E hw hl.1 (As := [.int (nI (n - 1))]) (rest := []) (c_X4_partOfN l G x xt xw xo xh xr xs xi xd xf nb pa pt off ha n nl ns tr u1 u2 u3 u4 u5 (n - 1) gw (by omega) (hgw _) (by assumption)) 1 gX4_rule_X4_partOf rfl rfl rfl (by decide) ⟨Nat.le_of_ble_eq_true rfl, Nat.le_of_ble_eq_true rfl⟩ ⟨Nat.le_of_ble_eq_true rfl, Nat.le_of_ble_eq_true rfl⟩ rfl 0 (ci := 4) (C := RX4) (T := TX4) (N := 23) rfl rfl [0, 1] [2, 3] rfl rfl rfl rfl rfl [2, 3, 0, 1] [(x, .inr (4, [.ref xt, .int (nI nb), .int (nI pa), .int (nI pt), .int (nI off), .int (nI ha), .int (nI n), .ref xw, .ref xo, .ref xh, .int (nI nl), .ref xr, .int (nI ns), .ref xs, .ref xi, .long tr, .int u1, .int u2, .int u3, .long u4, .ref xd, .int u5, .ref xf])), (xw, .inl (cJ G, 23, .inr (.inl (fJ gw)))), (xo, .inl (cJ G, 23, .inr (.inl (fJ go)))), (xh, .inl (cJ G, 23, .inr (.inl (fJ gh))))] rfl rfl rfl (Nat.le_of_ble_eq_true rfl) dX4_rule_7 (fun H locs hw => ?_)
    refine lv_istore_n (lv' := [(1, .int (-9 : Int32)), (0, .ref x)]) hx hb dX4_rule_10 rfl hl (by decide) rfl (fun ls hl => ?_)
    refine lv_aload_n hx hb dX4_rule_11 rfl (lv_at hl 1 rfl) ?_
    refine lv_iload_n hx hb dX4_rule_12 rfl (lv_at hl 0 rfl) ?_
    refine x_cfVi E hw hl.1 (As := [.int (-9 : Int32)]) (rest := []) (c_X4_isPart l G x xt xw xo xh xr xs xi xd xf nb pa pt off ha n nl ns tr u1 u2 u3 u4 u5 (-9 : Int32) (by omega) (by omega)) 1 gX4_rule_X4_isPart rfl rfl rfl (by decide) ⟨Nat.le_of_ble_eq_true rfl, Nat.le_of_ble_eq_true rfl⟩ ⟨Nat.le_of_ble_eq_true rfl, Nat.le_of_ble_eq_true rfl⟩ rfl 0 (ci := 4) (C := RX4) (T := TX4) (N := 23) rfl rfl [0] [1, 2, 3] rfl rfl rfl rfl rfl [3, 0, 1, 2] [(x, .inr (4, [.ref xt, .int (nI nb), .int (nI pa), .int (nI pt), .int (nI off), .int (nI ha), .int (nI n), .ref xw, .ref xo, .ref xh, .int (nI nl), .ref xr, .int (nI ns), .ref xs, .ref xi, .long tr, .int u1, .int u2, .int u3, .long u4, .ref xd, .int u5, .ref xf])), (xw, .inl (cJ G, 23, .inr (.inl (fJ gw)))), (xo, .inl (cJ G, 23, .inr (.inl (fJ go)))), (xh, .inl (cJ G, 23, .inr (.inl (fJ gh))))] rfl rfl rfl (Nat.le_of_ble_eq_true rfl) dX4_rule_13 (fun H locs hw => ?_)
    refine x_ifb_ne E (P := 1 ≤ (-9 : Int32).toInt ∧ (-9 : Int32).toInt < (pa : Int)) (tgt := 22) dX4_rule_16 (by decide) (fun hin => ?_) (fun hin => ?_)
    · first | (exact absurd hin.1 (by decide)) | (exfalso; omega)
    · refine lv_bipush (v := (-2 : Int32)) hx hb dX4_rule_19 (by decide) ?_
      exact hret (-2 : Int32) () _ _ _ _ dX4_rule_21 rfl rfl hw

abbrev rm_X4_rule_full : Room := { frames := 2, cells := 0, slots := 0, locals := 46 }
set_option maxHeartbeats 4000000 in
set_option maxRecDepth 100000 in
theorem c_X4_rule_full (l : Launch) (G : XG) (x : Nat) (xt : Nat) (xw : Nat) (xo : Nat) (xh : Nat) (xr : Nat) (xs : Nat) (xi : Nat) (xd : Nat) (xf : Nat) (nb : Nat) (pa : Nat) (pt : Nat) (off : Nat) (ha : Nat) (n : Nat) (nl : Nat) (ns : Nat) (tr : Int64) (u1 : Int32) (u2 : Int32) (u3 : Int32) (u4 : Int64) (u5 : Int32) (gw : Nat → Nat) (go : Nat → Nat) (gh : Nat → Nat) (hn : n ≤ 23) (hn3 : 3 ≤ n) (hpa : pa ≤ 63) (hpa3 : 3 ≤ pa) (hgw : ∀ q, gw q < 1073741824) (hin : gw (n - 1) % 1048576 = 0 ∧ 1 ≤ gw (n - 1) / 1048576 ∧ gw (n - 1) / 1048576 < pa) (hf : 23 ≤ n) : CfI l yX4_rule wsX4_rule rm_X4_rule_full G [.ref x] [(x, .inr (4, [.ref xt, .int (nI nb), .int (nI pa), .int (nI pt), .int (nI off), .int (nI ha), .int (nI n), .ref xw, .ref xo, .ref xh, .int (nI nl), .ref xr, .int (nI ns), .ref xs, .ref xi, .long tr, .int u1, .int u2, .int u3, .long u4, .ref xd, .int u5, .ref xf])), (xw, .inl (cJ G, 23, .inr (.inl (fJ gw)))), (xo, .inl (cJ G, 23, .inr (.inl (fJ go)))), (xh, .inl (cJ G, 23, .inr (.inl (fJ gh))))] (-3 : Int32) [(x, .inr (4, [.ref xt, .int (nI nb), .int (nI pa), .int (nI pt), .int (nI off), .int (nI ha), .int (nI n), .ref xw, .ref xo, .ref xh, .int (nI nl), .ref xr, .int (nI ns), .ref xs, .ref xi, .long tr, .int u1, .int u2, .int u3, .long u4, .ref xd, .int u5, .ref xf])), (xw, .inl (cJ G, 23, .inr (.inl (fJ gw)))), (xo, .inl (cJ G, 23, .inr (.inl (fJ go)))), (xh, .inl (cJ G, 23, .inr (.inl (fJ gh))))] := by
  refine CtI.go (cc := cX4_rule) (maxL := 3) RX4 rfl (by decide) rfl (Nat.le_of_ble_eq_true rfl) ?_
  intro p e s m args below meth c A Q ls E hw hl hret
  have hx := E.1
  have hb := E.2.1
  have hinX4 : ∀ w ∈ wsX40, w ∈ wsX4_rule := (fun w h => List.mem_cons_of_mem _ (List.mem_append_right _ h))
  have hl : lv_has ls 3 [(0, .ref x)] := hl
  have hm := hin.1
  refine lv_aload_n hx hb dX4_rule_0 rfl (lv_at hl 0 rfl) ?_
  refine lv_aload_n hx hb dX4_rule_1 rfl (lv_at hl 0 rfl) ?_
  refine x_get E hw (C := RX4) (T := TX4) (N := 23) hinX4 0 rfl rfl 6 (by decide) rfl (List.mem_of_getElem? (i := 1) rfl) dX4_rule_2 ?_
  refine lv_iconst (v := (nI 1)) hx hb dX4_rule_5 (by decide) ?_
  refine x_isub E (v := (nI (n - 1))) dX4_rule_6 (pk_sub (by omega)) ?_
  refine x_cfVi E hw hl.1 (As := [.int (nI (n - 1))]) (rest := []) (c_X4_partOfY l G x xt xw xo xh xr xs xi xd xf nb pa pt off ha n nl ns tr u1 u2 u3 u4 u5 (n - 1) gw (by omega) (hgw _) (by assumption)) 1 gX4_rule_X4_partOf rfl rfl rfl (by decide) ⟨Nat.le_of_ble_eq_true rfl, Nat.le_of_ble_eq_true rfl⟩ ⟨Nat.le_of_ble_eq_true rfl, Nat.le_of_ble_eq_true rfl⟩ rfl 0 (ci := 4) (C := RX4) (T := TX4) (N := 23) rfl rfl [0, 1] [2, 3] rfl rfl rfl rfl rfl [2, 3, 0, 1] [(x, .inr (4, [.ref xt, .int (nI nb), .int (nI pa), .int (nI pt), .int (nI off), .int (nI ha), .int (nI n), .ref xw, .ref xo, .ref xh, .int (nI nl), .ref xr, .int (nI ns), .ref xs, .ref xi, .long tr, .int u1, .int u2, .int u3, .long u4, .ref xd, .int u5, .ref xf])), (xw, .inl (cJ G, 23, .inr (.inl (fJ gw)))), (xo, .inl (cJ G, 23, .inr (.inl (fJ go)))), (xh, .inl (cJ G, 23, .inr (.inl (fJ gh))))] rfl rfl rfl (Nat.le_of_ble_eq_true rfl) dX4_rule_7 (fun H locs hw => ?_)
  refine lv_istore_n (lv' := [(1, .int (nI (gw (n - 1) / 1048576))), (0, .ref x)]) hx hb dX4_rule_10 rfl hl (by decide) rfl (fun ls hl => ?_)
  refine lv_aload_n hx hb dX4_rule_11 rfl (lv_at hl 1 rfl) ?_
  refine lv_iload_n hx hb dX4_rule_12 rfl (lv_at hl 0 rfl) ?_
  refine x_cfVi E hw hl.1 (As := [.int (nI (gw (n - 1) / 1048576))]) (rest := []) (c_X4_isPartN l G x xt xw xo xh xr xs xi xd xf nb pa pt off ha n nl ns tr u1 u2 u3 u4 u5 (gw (n - 1) / 1048576) (by omega) (by omega) (by have := hgw (n - 1); omega)) 1 gX4_rule_X4_isPart rfl rfl rfl (by decide) ⟨Nat.le_of_ble_eq_true rfl, Nat.le_of_ble_eq_true rfl⟩ ⟨Nat.le_of_ble_eq_true rfl, Nat.le_of_ble_eq_true rfl⟩ rfl 0 (ci := 4) (C := RX4) (T := TX4) (N := 23) rfl rfl [0] [1, 2, 3] rfl rfl rfl rfl rfl [3, 0, 1, 2] [(x, .inr (4, [.ref xt, .int (nI nb), .int (nI pa), .int (nI pt), .int (nI off), .int (nI ha), .int (nI n), .ref xw, .ref xo, .ref xh, .int (nI nl), .ref xr, .int (nI ns), .ref xs, .ref xi, .long tr, .int u1, .int u2, .int u3, .long u4, .ref xd, .int u5, .ref xf])), (xw, .inl (cJ G, 23, .inr (.inl (fJ gw)))), (xo, .inl (cJ G, 23, .inr (.inl (fJ go)))), (xh, .inl (cJ G, 23, .inr (.inl (fJ gh))))] rfl rfl rfl (Nat.le_of_ble_eq_true rfl) dX4_rule_13 (fun H locs hw => ?_)
  refine x_ifb_ne E (P := 1 ≤ (gw (n - 1) / 1048576) ∧ (gw (n - 1) / 1048576) < pa) (tgt := 22) dX4_rule_16 (by decide) (fun c_1 => ?_) (fun c_1 => ?_)
  · refine lv_aload_n hx hb dX4_rule_22 rfl (lv_at hl 1 rfl) ?_
    refine x_get E hw (C := RX4) (T := TX4) (N := 23) hinX4 0 rfl rfl 6 (by decide) rfl (List.mem_of_getElem? (i := 1) rfl) dX4_rule_23 ?_
    refine lv_bipush (v := (nI 23)) hx hb dX4_rule_26 (by decide) ?_
    refine x_icmp_ne E (nI_toI (show n < 2147483648 by omega)) (nI_toI (by decide)) (tgt := 34) dX4_rule_28 (by decide) (fun c_2 => ?_) (fun c_2 => ?_)
    · exfalso; omega
    · refine lv_bipush (v := (-3 : Int32)) hx hb dX4_rule_31 (by decide) ?_
      exact hret (-3 : Int32) () _ _ _ _ dX4_rule_33 rfl rfl hw
  · exfalso; omega

abbrev rm_X4_rule_ok : Room := { frames := 2, cells := 0, slots := 0, locals := 46 }
set_option maxHeartbeats 4000000 in
set_option maxRecDepth 100000 in
theorem c_X4_rule_ok (l : Launch) (G : XG) (x : Nat) (xt : Nat) (xw : Nat) (xo : Nat) (xh : Nat) (xr : Nat) (xs : Nat) (xi : Nat) (xd : Nat) (xf : Nat) (nb : Nat) (pa : Nat) (pt : Nat) (off : Nat) (ha : Nat) (n : Nat) (nl : Nat) (ns : Nat) (tr : Int64) (u1 : Int32) (u2 : Int32) (u3 : Int32) (u4 : Int64) (u5 : Int32) (gw : Nat → Nat) (go : Nat → Nat) (gh : Nat → Nat) (hn : n ≤ 23) (hn3 : 3 ≤ n) (hpa : pa ≤ 63) (hpa3 : 3 ≤ pa) (hgw : ∀ q, gw q < 1073741824) (hgo : ∀ q, go q < 1073741824) (hgh : ∀ q, gh q < 1073741824) (hin : gw (n - 1) % 1048576 = 0 ∧ 1 ≤ gw (n - 1) / 1048576 ∧ gw (n - 1) / 1048576 < pa) (hf : n < 23) : CfI l yX4_rule wsX4_rule rm_X4_rule_ok G [.ref x] [(x, .inr (4, [.ref xt, .int (nI nb), .int (nI pa), .int (nI pt), .int (nI off), .int (nI ha), .int (nI n), .ref xw, .ref xo, .ref xh, .int (nI nl), .ref xr, .int (nI ns), .ref xs, .ref xi, .long tr, .int u1, .int u2, .int u3, .long u4, .ref xd, .int u5, .ref xf])), (xw, .inl (cJ G, 23, .inr (.inl (fJ gw)))), (xo, .inl (cJ G, 23, .inr (.inl (fJ go)))), (xh, .inl (cJ G, 23, .inr (.inl (fJ gh))))] (nI (gw (n - 1) / 1048576 % 2)) [(x, .inr (4, [.ref xt, .int (nI nb), .int (nI pa), .int (nI pt), .int (nI off), .int (nI ha), .int (nI (n + 1)), .ref xw, .ref xo, .ref xh, .int (nI nl), .ref xr, .int (nI ns), .ref xs, .ref xi, .long tr, .int u1, .int u2, .int u3, .long u4, .ref xd, .int u5, .ref xf])), (xw, .inl (cJ G, 23, .inr (.inl (fJ (mid gw n (gw (n - 1) / 1048576 % 2) (n - 1)))))), (xo, .inl (cJ G, 23, .inr (.inl (fJ (mid go n (gw (n - 1) / 1048576 % 2) (n - 1)))))), (xh, .inl (cJ G, 23, .inr (.inl (fJ (midH gh n (gw (n - 1) / 1048576 % 2) (n - 1))))))] := by
  refine CtI.go (cc := cX4_rule) (maxL := 3) RX4 rfl (by decide) rfl (Nat.le_of_ble_eq_true rfl) ?_
  intro p e s m args below meth c A Q ls E hw hl hret
  have hx := E.1
  have hb := E.2.1
  have hinX4 : ∀ w ∈ wsX40, w ∈ wsX4_rule := (fun w h => List.mem_cons_of_mem _ (List.mem_append_right _ h))
  have hl : lv_has ls 3 [(0, .ref x)] := hl
  have hm := hin.1
  refine lv_aload_n hx hb dX4_rule_0 rfl (lv_at hl 0 rfl) ?_
  refine lv_aload_n hx hb dX4_rule_1 rfl (lv_at hl 0 rfl) ?_
  refine x_get E hw (C := RX4) (T := TX4) (N := 23) hinX4 0 rfl rfl 6 (by decide) rfl (List.mem_of_getElem? (i := 1) rfl) dX4_rule_2 ?_
  refine lv_iconst (v := (nI 1)) hx hb dX4_rule_5 (by decide) ?_
  refine x_isub E (v := (nI (n - 1))) dX4_rule_6 (pk_sub (by omega)) ?_
  refine x_cfVi E hw hl.1 (As := [.int (nI (n - 1))]) (rest := []) (c_X4_partOfY l G x xt xw xo xh xr xs xi xd xf nb pa pt off ha n nl ns tr u1 u2 u3 u4 u5 (n - 1) gw (by omega) (hgw _) (by assumption)) 1 gX4_rule_X4_partOf rfl rfl rfl (by decide) ⟨Nat.le_of_ble_eq_true rfl, Nat.le_of_ble_eq_true rfl⟩ ⟨Nat.le_of_ble_eq_true rfl, Nat.le_of_ble_eq_true rfl⟩ rfl 0 (ci := 4) (C := RX4) (T := TX4) (N := 23) rfl rfl [0, 1] [2, 3] rfl rfl rfl rfl rfl [2, 3, 0, 1] [(x, .inr (4, [.ref xt, .int (nI nb), .int (nI pa), .int (nI pt), .int (nI off), .int (nI ha), .int (nI n), .ref xw, .ref xo, .ref xh, .int (nI nl), .ref xr, .int (nI ns), .ref xs, .ref xi, .long tr, .int u1, .int u2, .int u3, .long u4, .ref xd, .int u5, .ref xf])), (xw, .inl (cJ G, 23, .inr (.inl (fJ gw)))), (xo, .inl (cJ G, 23, .inr (.inl (fJ go)))), (xh, .inl (cJ G, 23, .inr (.inl (fJ gh))))] rfl rfl rfl (Nat.le_of_ble_eq_true rfl) dX4_rule_7 (fun H locs hw => ?_)
  refine lv_istore_n (lv' := [(1, .int (nI (gw (n - 1) / 1048576))), (0, .ref x)]) hx hb dX4_rule_10 rfl hl (by decide) rfl (fun ls hl => ?_)
  refine lv_aload_n hx hb dX4_rule_11 rfl (lv_at hl 1 rfl) ?_
  refine lv_iload_n hx hb dX4_rule_12 rfl (lv_at hl 0 rfl) ?_
  refine x_cfVi E hw hl.1 (As := [.int (nI (gw (n - 1) / 1048576))]) (rest := []) (c_X4_isPartN l G x xt xw xo xh xr xs xi xd xf nb pa pt off ha n nl ns tr u1 u2 u3 u4 u5 (gw (n - 1) / 1048576) (by omega) (by omega) (by have := hgw (n - 1); omega)) 1 gX4_rule_X4_isPart rfl rfl rfl (by decide) ⟨Nat.le_of_ble_eq_true rfl, Nat.le_of_ble_eq_true rfl⟩ ⟨Nat.le_of_ble_eq_true rfl, Nat.le_of_ble_eq_true rfl⟩ rfl 0 (ci := 4) (C := RX4) (T := TX4) (N := 23) rfl rfl [0] [1, 2, 3] rfl rfl rfl rfl rfl [3, 0, 1, 2] [(x, .inr (4, [.ref xt, .int (nI nb), .int (nI pa), .int (nI pt), .int (nI off), .int (nI ha), .int (nI n), .ref xw, .ref xo, .ref xh, .int (nI nl), .ref xr, .int (nI ns), .ref xs, .ref xi, .long tr, .int u1, .int u2, .int u3, .long u4, .ref xd, .int u5, .ref xf])), (xw, .inl (cJ G, 23, .inr (.inl (fJ gw)))), (xo, .inl (cJ G, 23, .inr (.inl (fJ go)))), (xh, .inl (cJ G, 23, .inr (.inl (fJ gh))))] rfl rfl rfl (Nat.le_of_ble_eq_true rfl) dX4_rule_13 (fun H locs hw => ?_)
  refine x_ifb_ne E (P := 1 ≤ (gw (n - 1) / 1048576) ∧ (gw (n - 1) / 1048576) < pa) (tgt := 22) dX4_rule_16 (by decide) (fun c_1 => ?_) (fun c_1 => ?_)
  · refine lv_aload_n hx hb dX4_rule_22 rfl (lv_at hl 1 rfl) ?_
    refine x_get E hw (C := RX4) (T := TX4) (N := 23) hinX4 0 rfl rfl 6 (by decide) rfl (List.mem_of_getElem? (i := 1) rfl) dX4_rule_23 ?_
    refine lv_bipush (v := (nI 23)) hx hb dX4_rule_26 (by decide) ?_
    refine x_icmp_ne E (nI_toI (show n < 2147483648 by omega)) (nI_toI (by decide)) (tgt := 34) dX4_rule_28 (by decide) (fun c_2 => ?_) (fun c_2 => ?_)
    · refine lv_iload_n hx hb dX4_rule_34 rfl (lv_at hl 0 rfl) ?_
      refine lv_iconst (v := (nI 2)) hx hb dX4_rule_35 (by decide) ?_
      have hgk := hgw (n - 1)
      refine x_irem E (v := (nI ((gw (n - 1) / 1048576) % 2))) dX4_rule_36 (by decide) (pk_rem (by omega) (by omega) (by omega)) ?_
      refine x_if_ne E (nI_toI (show (gw (n - 1) / 1048576) % 2 < 2147483648 by omega)) (tgt := 44) dX4_rule_37 (by decide) (fun c_3 => ?_) (fun c_3 => ?_)
      · have hsd : 1 = gw (n - 1) / 1048576 % 2 := by omega
        refine lv_iconst (v := (nI 1)) hx hb dX4_rule_44 (by decide) ?_
        refine x_topi (v := nI (gw (n - 1) / 1048576 % 2)) (by rw [← hsd]) ?_
        refine lv_istore_n (lv' := [(2, .int (nI (gw (n - 1) / 1048576 % 2))), (1, .int (nI (gw (n - 1) / 1048576))), (0, .ref x)]) hx hb dX4_rule_45 rfl hl (by decide) rfl (fun ls hl => ?_)
        refine lv_aload_n hx hb dX4_rule_46 rfl (lv_at hl 2 rfl) ?_
        refine lv_iload_n hx hb dX4_rule_47 rfl (lv_at hl 0 rfl) ?_
        refine lv_aload_n hx hb dX4_rule_48 rfl (lv_at hl 2 rfl) ?_
        refine x_get E hw (C := RX4) (T := TX4) (N := 23) hinX4 0 rfl rfl 6 (by decide) rfl (List.mem_of_getElem? (i := 1) rfl) dX4_rule_49 ?_
        refine lv_iconst (v := (nI 1)) hx hb dX4_rule_52 (by decide) ?_
        refine x_isub E (v := (nI (n - 1))) dX4_rule_53 (pk_sub (by omega)) ?_
        refine x_cfVv E hw hl.1 (As := [.int (nI (gw (n - 1) / 1048576 % 2)), .int (nI (n - 1))]) (rest := []) (c_X4_folds l G x xt xw xo xh xr xs xi xd xf nb pa pt off ha n nl ns tr u1 u2 u3 u4 u5 (gw (n - 1) / 1048576 % 2) (n - 1) gw go gh (by omega) (by omega) (by omega) hgw hgo hgh) 2 gX4_rule_X4_folds rfl rfl rfl (by decide) ⟨Nat.le_of_ble_eq_true rfl, Nat.le_of_ble_eq_true rfl⟩ ⟨Nat.le_of_ble_eq_true rfl, Nat.le_of_ble_eq_true rfl⟩ rfl 0 (ci := 4) (C := RX4) (T := TX4) (N := 23) rfl rfl [0, 1, 2, 3] [] rfl rfl rfl rfl rfl [0, 1, 2, 3] [(x, .inr (4, [.ref xt, .int (nI nb), .int (nI pa), .int (nI pt), .int (nI off), .int (nI ha), .int (nI (n + 1)), .ref xw, .ref xo, .ref xh, .int (nI nl), .ref xr, .int (nI ns), .ref xs, .ref xi, .long tr, .int u1, .int u2, .int u3, .long u4, .ref xd, .int u5, .ref xf])), (xw, .inl (cJ G, 23, .inr (.inl (fJ (mid gw n (gw (n - 1) / 1048576 % 2) (n - 1)))))), (xo, .inl (cJ G, 23, .inr (.inl (fJ (mid go n (gw (n - 1) / 1048576 % 2) (n - 1)))))), (xh, .inl (cJ G, 23, .inr (.inl (fJ (midH gh n (gw (n - 1) / 1048576 % 2) (n - 1))))))] rfl rfl rfl (Nat.le_of_ble_eq_true rfl) dX4_rule_54 (fun H locs hw => ?_)
        refine lv_iload_n hx hb dX4_rule_57 rfl (lv_at hl 0 rfl) ?_
        exact hret (nI (gw (n - 1) / 1048576 % 2)) () _ _ _ _ dX4_rule_58 rfl rfl hw
      · have hsd : 0 = gw (n - 1) / 1048576 % 2 := by omega
        refine lv_iconst (v := (nI 0)) hx hb dX4_rule_40 (by decide) ?_
        refine lv_goto (tgt := 45) hx hb dX4_rule_41 (by decide) ?_
        refine x_topi (v := nI (gw (n - 1) / 1048576 % 2)) (by rw [← hsd]) ?_
        refine lv_istore_n (lv' := [(2, .int (nI (gw (n - 1) / 1048576 % 2))), (1, .int (nI (gw (n - 1) / 1048576))), (0, .ref x)]) hx hb dX4_rule_45 rfl hl (by decide) rfl (fun ls hl => ?_)
        refine lv_aload_n hx hb dX4_rule_46 rfl (lv_at hl 2 rfl) ?_
        refine lv_iload_n hx hb dX4_rule_47 rfl (lv_at hl 0 rfl) ?_
        refine lv_aload_n hx hb dX4_rule_48 rfl (lv_at hl 2 rfl) ?_
        refine x_get E hw (C := RX4) (T := TX4) (N := 23) hinX4 0 rfl rfl 6 (by decide) rfl (List.mem_of_getElem? (i := 1) rfl) dX4_rule_49 ?_
        refine lv_iconst (v := (nI 1)) hx hb dX4_rule_52 (by decide) ?_
        refine x_isub E (v := (nI (n - 1))) dX4_rule_53 (pk_sub (by omega)) ?_
        refine x_cfVv E hw hl.1 (As := [.int (nI (gw (n - 1) / 1048576 % 2)), .int (nI (n - 1))]) (rest := []) (c_X4_folds l G x xt xw xo xh xr xs xi xd xf nb pa pt off ha n nl ns tr u1 u2 u3 u4 u5 (gw (n - 1) / 1048576 % 2) (n - 1) gw go gh (by omega) (by omega) (by omega) hgw hgo hgh) 2 gX4_rule_X4_folds rfl rfl rfl (by decide) ⟨Nat.le_of_ble_eq_true rfl, Nat.le_of_ble_eq_true rfl⟩ ⟨Nat.le_of_ble_eq_true rfl, Nat.le_of_ble_eq_true rfl⟩ rfl 0 (ci := 4) (C := RX4) (T := TX4) (N := 23) rfl rfl [0, 1, 2, 3] [] rfl rfl rfl rfl rfl [0, 1, 2, 3] [(x, .inr (4, [.ref xt, .int (nI nb), .int (nI pa), .int (nI pt), .int (nI off), .int (nI ha), .int (nI (n + 1)), .ref xw, .ref xo, .ref xh, .int (nI nl), .ref xr, .int (nI ns), .ref xs, .ref xi, .long tr, .int u1, .int u2, .int u3, .long u4, .ref xd, .int u5, .ref xf])), (xw, .inl (cJ G, 23, .inr (.inl (fJ (mid gw n (gw (n - 1) / 1048576 % 2) (n - 1)))))), (xo, .inl (cJ G, 23, .inr (.inl (fJ (mid go n (gw (n - 1) / 1048576 % 2) (n - 1)))))), (xh, .inl (cJ G, 23, .inr (.inl (fJ (midH gh n (gw (n - 1) / 1048576 % 2) (n - 1))))))] rfl rfl rfl (Nat.le_of_ble_eq_true rfl) dX4_rule_54 (fun H locs hw => ?_)
        refine lv_iload_n hx hb dX4_rule_57 rfl (lv_at hl 0 rfl) ?_
        exact hret (nI (gw (n - 1) / 1048576 % 2)) () _ _ _ _ dX4_rule_58 rfl rfl hw
    · exfalso; omega
  · exfalso; omega

abbrev rm_X4_undo_state : Room := { frames := 0, cells := 0, slots := 0, locals := 0 }
set_option maxHeartbeats 4000000 in
set_option maxRecDepth 100000 in
theorem c_X4_undo_state (l : Launch) (G : XG) (x : Nat) (xt : Nat) (xw : Nat) (xo : Nat) (xh : Nat) (xr : Nat) (xs : Nat) (xi : Nat) (xd : Nat) (xf : Nat) (nb : Nat) (pa : Nat) (pt : Nat) (off : Nat) (ha : Nat) (n : Nat) (nl : Nat) (ns : Nat) (tr : Int64) (u1 : Int32) (u2 : Int32) (u3 : Int32) (u4 : Int64) (u5 : Int32) (hn : n = 3) : CfI l yX4_undo wsX4_undo rm_X4_undo_state G [.ref x] [(x, .inr (4, [.ref xt, .int (nI nb), .int (nI pa), .int (nI pt), .int (nI off), .int (nI ha), .int (nI n), .ref xw, .ref xo, .ref xh, .int (nI nl), .ref xr, .int (nI ns), .ref xs, .ref xi, .long tr, .int u1, .int u2, .int u3, .long u4, .ref xd, .int u5, .ref xf]))] (-2 : Int32) [(x, .inr (4, [.ref xt, .int (nI nb), .int (nI pa), .int (nI pt), .int (nI off), .int (nI ha), .int (nI n), .ref xw, .ref xo, .ref xh, .int (nI nl), .ref xr, .int (nI ns), .ref xs, .ref xi, .long tr, .int u1, .int u2, .int u3, .long u4, .ref xd, .int u5, .ref xf]))] := by
  refine CtI.go (cc := cX4_undo) (maxL := 1) RX4 rfl (by decide) rfl (Nat.le_of_ble_eq_true rfl) ?_
  intro p e s m args below meth c A Q ls E hw hl hret
  have hx := E.1
  have hb := E.2.1
  have hinX4 : ∀ w ∈ wsX40, w ∈ wsX4_undo := (fun w h => List.mem_cons_of_mem _ (List.mem_append_right _ h))
  have hl : lv_has ls 1 [(0, .ref x)] := hl
  refine lv_aload_n hx hb dX4_undo_0 rfl (lv_at hl 0 rfl) ?_
  refine x_get E hw (C := RX4) (T := TX4) (N := 23) hinX4 0 rfl rfl 6 (by decide) rfl (List.mem_of_getElem? (i := 1) rfl) dX4_undo_1 ?_
  refine lv_iconst (v := (nI 3)) hx hb dX4_undo_4 (by decide) ?_
  refine x_icmp_ne E (nI_toI (show n < 2147483648 by omega)) (nI_toI (by decide)) (tgt := 11) dX4_undo_5 (by decide) (fun c_1 => ?_) (fun c_1 => ?_)
  · exfalso; omega
  · refine lv_bipush (v := (-2 : Int32)) hx hb dX4_undo_8 (by decide) ?_
    exact hret (-2 : Int32) () _ _ _ _ dX4_undo_10 rfl rfl hw

abbrev rm_X4_undo_ok : Room := { frames := 0, cells := 0, slots := 0, locals := 0 }
set_option maxHeartbeats 4000000 in
set_option maxRecDepth 100000 in
theorem c_X4_undo_ok (l : Launch) (G : XG) (x : Nat) (xt : Nat) (xw : Nat) (xo : Nat) (xh : Nat) (xr : Nat) (xs : Nat) (xi : Nat) (xd : Nat) (xf : Nat) (nb : Nat) (pa : Nat) (pt : Nat) (off : Nat) (ha : Nat) (n : Nat) (nl : Nat) (ns : Nat) (tr : Int64) (u1 : Int32) (u2 : Int32) (u3 : Int32) (u4 : Int64) (u5 : Int32) (hn : 3 < n) (hn2 : n ≤ 23) : CfI l yX4_undo wsX4_undo rm_X4_undo_ok G [.ref x] [(x, .inr (4, [.ref xt, .int (nI nb), .int (nI pa), .int (nI pt), .int (nI off), .int (nI ha), .int (nI n), .ref xw, .ref xo, .ref xh, .int (nI nl), .ref xr, .int (nI ns), .ref xs, .ref xi, .long tr, .int u1, .int u2, .int u3, .long u4, .ref xd, .int u5, .ref xf]))] (nI (n - 1)) [(x, .inr (4, [.ref xt, .int (nI nb), .int (nI pa), .int (nI pt), .int (nI off), .int (nI ha), .int (nI (n - 1)), .ref xw, .ref xo, .ref xh, .int (nI nl), .ref xr, .int (nI ns), .ref xs, .ref xi, .long tr, .int u1, .int u2, .int u3, .long u4, .ref xd, .int u5, .ref xf]))] := by
  refine CtI.go (cc := cX4_undo) (maxL := 1) RX4 rfl (by decide) rfl (Nat.le_of_ble_eq_true rfl) ?_
  intro p e s m args below meth c A Q ls E hw hl hret
  have hx := E.1
  have hb := E.2.1
  have hinX4 : ∀ w ∈ wsX40, w ∈ wsX4_undo := (fun w h => List.mem_cons_of_mem _ (List.mem_append_right _ h))
  have hl : lv_has ls 1 [(0, .ref x)] := hl
  refine lv_aload_n hx hb dX4_undo_0 rfl (lv_at hl 0 rfl) ?_
  refine x_get E hw (C := RX4) (T := TX4) (N := 23) hinX4 0 rfl rfl 6 (by decide) rfl (List.mem_of_getElem? (i := 1) rfl) dX4_undo_1 ?_
  refine lv_iconst (v := (nI 3)) hx hb dX4_undo_4 (by decide) ?_
  refine x_icmp_ne E (nI_toI (show n < 2147483648 by omega)) (nI_toI (by decide)) (tgt := 11) dX4_undo_5 (by decide) (fun c_1 => ?_) (fun c_1 => ?_)
  · refine lv_aload_n hx hb dX4_undo_11 rfl (lv_at hl 0 rfl) ?_
    refine lv_dup hx hb dX4_undo_12 rfl ?_
    refine x_get E hw (C := RX4) (T := TX4) (N := 23) hinX4 0 rfl rfl 6 (by decide) rfl (List.mem_of_getElem? (i := 1) rfl) dX4_undo_13 ?_
    refine lv_iconst (v := (nI 1)) hx hb dX4_undo_16 (by decide) ?_
    refine x_isub E (v := (nI (n - 1))) dX4_undo_17 (pk_sub (by omega)) ?_
    refine x_put E hw (C := RX4) (T := TX4) (N := 23) (ws1 := [(x, .inr (4, [.ref xt, .int (nI nb), .int (nI pa), .int (nI pt), .int (nI off), .int (nI ha), .int (nI (n - 1)), .ref xw, .ref xo, .ref xh, .int (nI nl), .ref xr, .int (nI ns), .ref xs, .ref xi, .long tr, .int u1, .int u2, .int u3, .long u4, .ref xd, .int u5, .ref xf]))]) hinX4 tyX4_ok nmX4 0 rfl rfl 6 (by decide) (List.mem_of_getElem? (i := 1) rfl) rfl rfl rfl (Nat.le_of_ble_eq_true rfl) rfl dX4_undo_18 (fun H locs hw => ?_)
    refine lv_aload_n hx hb dX4_undo_21 rfl (lv_at hl 0 rfl) ?_
    refine x_get E hw (C := RX4) (T := TX4) (N := 23) hinX4 0 rfl rfl 6 (by decide) rfl (List.mem_of_getElem? (i := 1) rfl) dX4_undo_22 ?_
    exact hret (nI (n - 1)) () _ _ _ _ dX4_undo_25 rfl rfl hw
  · exfalso; omega

abbrev rm_X4_goes : Room := { frames := 0, cells := 0, slots := 0, locals := 0 }
set_option maxHeartbeats 4000000 in
set_option maxRecDepth 100000 in
theorem c_X4_goes (l : Launch) (G : XG) (j : Nat) (P : Nat) (hj : j + P < 2147483648) : CfI l yX4_goes wsX4_goes rm_X4_goes G [.int (nI j), .int (nI P)] [] (nI (gz P j)) [] := by
  refine CtI.go (cc := cX4_goes) (maxL := 2) RX4 rfl (by decide) rfl (Nat.le_of_ble_eq_true rfl) ?_
  intro p e s m args below meth c A Q ls E hw hl hret
  have hx := E.1
  have hb := E.2.1
  have hl : lv_has ls 2 [(0, .int (nI j)), (1, .int (nI P))] := hl
  refine lv_iload_n hx hb dX4_goes_0 rfl (lv_at hl 0 rfl) ?_
  refine lv_iconst (v := (nI 2)) hx hb dX4_goes_1 (by decide) ?_
  refine x_irem E (v := (nI (j % 2))) dX4_goes_2 (by decide) (pk_rem (by omega) (by omega) (by omega)) ?_
  refine x_if_ne E (nI_toI (show j % 2 < 2147483648 by omega)) (tgt := 10) dX4_goes_3 (by decide) (fun c_1 => ?_) (fun c_1 => ?_)
  · refine lv_iload_n hx hb dX4_goes_10 rfl (lv_at hl 0 rfl) ?_
    refine lv_iload_n hx hb dX4_goes_11 rfl (lv_at hl 1 rfl) ?_
    refine x_iadd E (v := (nI (j + P))) dX4_goes_12 (nI_add _ _) ?_
    refine lv_iconst (v := (nI 2)) hx hb dX4_goes_13 (by decide) ?_
    refine x_idiv E (v := (nI ((j + P) / 2))) dX4_goes_14 (by decide) (pk_div (by omega) (by omega) (by omega)) ?_
    exact hret (nI ((j + P) / 2)) () _ _ _ _ dX4_goes_15 rfl (by rw [gz_odd (by omega)]) hw
  · refine lv_iload_n hx hb dX4_goes_6 rfl (lv_at hl 0 rfl) ?_
    refine lv_goto (tgt := 13) hx hb dX4_goes_7 (by decide) ?_
    refine lv_iconst (v := (nI 2)) hx hb dX4_goes_13 (by decide) ?_
    refine x_idiv E (v := (nI (j / 2))) dX4_goes_14 (by decide) (pk_div (by omega) (by omega) (by omega)) ?_
    exact hret (nI (j / 2)) () _ _ _ _ dX4_goes_15 rfl (by rw [gz_even (by omega)]) hw

abbrev rm_X4_says : Room := { frames := 2, cells := 0, slots := 0, locals := 46 }
set_option maxHeartbeats 4000000 in
set_option maxRecDepth 100000 in
theorem c_X4_says (l : Launch) (G : XG) (x : Nat) (xt : Nat) (xw : Nat) (xo : Nat) (xh : Nat) (xr : Nat) (xs : Nat) (xi : Nat) (xd : Nat) (xf : Nat) (nb : Nat) (pa : Nat) (pt : Nat) (off : Nat) (ha : Nat) (n : Nat) (nl : Nat) (ns : Nat) (tr : Int64) (u1 : Int32) (u2 : Int32) (u3 : Int32) (u4 : Int64) (u5 : Int32) (j : Int32) (hpa : pa ≤ 63) (hpa3 : 3 ≤ pa) : CfI l yX4_says wsX4_says rm_X4_says G [.ref x, .int j] [(x, .inr (4, [.ref xt, .int (nI nb), .int (nI pa), .int (nI pt), .int (nI off), .int (nI ha), .int (nI n), .ref xw, .ref xo, .ref xh, .int (nI nl), .ref xr, .int (nI ns), .ref xs, .ref xi, .long tr, .int u1, .int u2, .int u3, .long u4, .ref xd, .int u5, .ref xf]))] (saysF pa j.toInt) [(x, .inr (4, [.ref xt, .int (nI nb), .int (nI pa), .int (nI pt), .int (nI off), .int (nI ha), .int (nI n), .ref xw, .ref xo, .ref xh, .int (nI nl), .ref xr, .int (nI ns), .ref xs, .ref xi, .long tr, .int u1, .int u2, .int u3, .long u4, .ref xd, .int u5, .ref xf]))] := by
  refine CtI.go (cc := cX4_says) (maxL := 2) RX4 rfl (by decide) rfl (Nat.le_of_ble_eq_true rfl) ?_
  intro p e s m args below meth c A Q ls E hw hl hret
  have hx := E.1
  have hb := E.2.1
  have hl : lv_has ls 2 [(0, .ref x), (1, .int j)] := hl
  refine lv_aload_n hx hb dX4_says_0 rfl (lv_at hl 0 rfl) ?_
  refine lv_iload_n hx hb dX4_says_1 rfl (lv_at hl 1 rfl) ?_
  refine x_cfVi E hw hl.1 (As := [.int j]) (rest := []) (c_X4_isPart l G x xt xw xo xh xr xs xi xd xf nb pa pt off ha n nl ns tr u1 u2 u3 u4 u5 j (by omega) (by omega)) 1 gX4_says_X4_isPart rfl rfl rfl (by decide) ⟨Nat.le_of_ble_eq_true rfl, Nat.le_of_ble_eq_true rfl⟩ ⟨Nat.le_of_ble_eq_true rfl, Nat.le_of_ble_eq_true rfl⟩ rfl 0 (ci := 4) (C := RX4) (T := TX4) (N := 23) rfl rfl [0] [] rfl rfl rfl rfl rfl [0] [(x, .inr (4, [.ref xt, .int (nI nb), .int (nI pa), .int (nI pt), .int (nI off), .int (nI ha), .int (nI n), .ref xw, .ref xo, .ref xh, .int (nI nl), .ref xr, .int (nI ns), .ref xs, .ref xi, .long tr, .int u1, .int u2, .int u3, .long u4, .ref xd, .int u5, .ref xf]))] rfl rfl rfl (Nat.le_of_ble_eq_true rfl) dX4_says_2 (fun H locs hw => ?_)
  refine x_ifb_eq E (P := 1 ≤ j.toInt ∧ j.toInt < (pa : Int)) (tgt := 22) dX4_says_5 (by decide) (fun c_1 => ?_) (fun c_1 => ?_)
  · refine lv_iconst (v := (-1 : Int32)) hx hb dX4_says_22 (by decide) ?_
    exact hret (-1 : Int32) () _ _ _ _ dX4_says_23 rfl (ifF (by omega) rfl) hw
  · obtain ⟨jn, hjn1, hjn2, rfl⟩ := i_nI j (by omega)
    refine lv_iload_n hx hb dX4_says_8 rfl (lv_at hl 1 rfl) ?_
    refine lv_iconst (v := (nI 2)) hx hb dX4_says_9 (by decide) ?_
    refine x_irem E (v := (nI (jn % 2))) dX4_says_10 (by decide) (pk_rem (by omega) (by omega) (by omega)) ?_
    refine x_if_ne E (nI_toI (show jn % 2 < 2147483648 by omega)) (tgt := 18) dX4_says_11 (by decide) (fun c_2 => ?_) (fun c_2 => ?_)
    · refine lv_iconst (v := (nI 1)) hx hb dX4_says_18 (by decide) ?_
      refine lv_goto (tgt := 23) hx hb dX4_says_19 (by decide) ?_
      exact hret (nI 1) () _ _ _ _ dX4_says_23 rfl (ifT (by omega) (by rw [hjn2, tNat, show jn % 2 = 1 by omega])) hw
    · refine lv_iconst (v := (nI 0)) hx hb dX4_says_14 (by decide) ?_
      refine lv_goto (tgt := 23) hx hb dX4_says_15 (by decide) ?_
      exact hret (nI 0) () _ _ _ _ dX4_says_23 rfl (ifT (by omega) (by rw [hjn2, tNat, show jn % 2 = 0 by omega])) hw

abbrev rm_X4_foldsTo : Room := { frames := 1, cells := 0, slots := 0, locals := 21 }
set_option maxHeartbeats 4000000 in
set_option maxRecDepth 100000 in
theorem c_X4_foldsTo (l : Launch) (G : XG) (x : Nat) (xt : Nat) (xw : Nat) (xo : Nat) (xh : Nat) (xr : Nat) (xs : Nat) (xi : Nat) (xd : Nat) (xf : Nat) (nb : Nat) (pa : Nat) (pt : Nat) (off : Nat) (ha : Nat) (n : Nat) (nl : Nat) (ns : Nat) (tr : Int64) (u1 : Int32) (u2 : Int32) (u3 : Int32) (u4 : Int64) (u5 : Int32) (i : Nat) (j : Nat) (hpa : pa ≤ 63) (hpa3 : 3 ≤ pa) (hi : i < pa) (hj : j < pa) : CfI l yX4_foldsTo wsX4_foldsTo rm_X4_foldsTo G [.ref x, .int (nI i), .int (nI j)] [(x, .inr (4, [.ref xt, .int (nI nb), .int (nI pa), .int (nI pt), .int (nI off), .int (nI ha), .int (nI n), .ref xw, .ref xo, .ref xh, .int (nI nl), .ref xr, .int (nI ns), .ref xs, .ref xi, .long tr, .int u1, .int u2, .int u3, .long u4, .ref xd, .int u5, .ref xf]))] (ffL pa j pa i 0) [(x, .inr (4, [.ref xt, .int (nI nb), .int (nI pa), .int (nI pt), .int (nI off), .int (nI ha), .int (nI n), .ref xw, .ref xo, .ref xh, .int (nI nl), .ref xr, .int (nI ns), .ref xs, .ref xi, .long tr, .int u1, .int u2, .int u3, .long u4, .ref xd, .int u5, .ref xf]))] := by
  refine CtI.go (cc := cX4_foldsTo) (maxL := 5) RX4 rfl (by decide) rfl (Nat.le_of_ble_eq_true rfl) ?_
  intro p e s m args below meth c A Q ls E hw hl hret
  have hx := E.1
  have hb := E.2.1
  have hinX4 : ∀ w ∈ wsX40, w ∈ wsX4_foldsTo := (fun w h => List.mem_cons_of_mem _ (List.mem_append_right _ h))
  have hl : lv_has ls 5 [(0, .ref x), (1, .int (nI i)), (2, .int (nI j))] := hl
  refine lv_iload_n hx hb dX4_foldsTo_0 rfl (lv_at hl 1 rfl) ?_
  refine lv_istore_n (lv' := [(3, .int (nI i)), (0, .ref x), (1, .int (nI i)), (2, .int (nI j))]) hx hb dX4_foldsTo_1 rfl hl (by decide) rfl (fun ls hl => ?_)
  refine lv_iconst (v := (nI 0)) hx hb dX4_foldsTo_2 (by decide) ?_
  refine lv_istore (lv' := [(4, .int (nI 0)), (3, .int (nI i)), (0, .ref x), (1, .int (nI i)), (2, .int (nI j))]) hx hb dX4_foldsTo_3 hl (by decide) rfl (fun ls hl => ?_)
  have loop_5 : ∀ (fu : Nat) (y : Nat) (k : Nat), k ≤ pa → y < pa → ffL pa j (pa - k) y k = ffL pa j pa i 0 → pa - k < fu → ∀ (H : Heap) (locs : List Loc) (ls : Array Slot), Wd G s A [(x, .inr (4, [.ref xt, .int (nI nb), .int (nI pa), .int (nI pt), .int (nI off), .int (nI ha), .int (nI n), .ref xw, .ref xo, .ref xh, .int (nI nl), .ref xr, .int (nI ns), .ref xs, .ref xi, .long tr, .int u1, .int u2, .int u3, .long u4, .ref xd, .int u5, .ref xf]))] H locs → lv_has ls 5 [(0, .ref x), (2, .int (nI j)), (3, .int (nI y)), (4, .int (nI k))] → W p l e rm_X4_foldsTo s m args below meth c H locs 0 0 Q (F0 m 5 ls []) := by
    intro fu
    induction fu with
    | zero =>
      intro y k hk hy hinv hmu
      exact absurd hmu (Nat.not_lt_zero _)
    | succ fu ih_5 =>
      intro y k hk hy hinv hmu_5 H locs ls hw hl
      refine lv_iload hx hb dX4_foldsTo_5 (lv_at hl 3 rfl) ?_
      refine lv_aload_n hx hb dX4_foldsTo_7 rfl (lv_at hl 0 rfl) ?_
      refine x_get E hw (C := RX4) (T := TX4) (N := 23) hinX4 0 rfl rfl 2 (by decide) rfl (List.mem_of_getElem? (i := 1) rfl) dX4_foldsTo_8 ?_
      refine x_icmp_ge E (nI_toI (show k < 2147483648 by omega)) (nI_toI (show pa < 2147483648 by omega)) (tgt := 37) dX4_foldsTo_11 (by decide) (fun c_1 => ?_) (fun c_1 => ?_)
      · refine lv_bipush (v := (-9 : Int32)) hx hb dX4_foldsTo_37 (by decide) ?_
        exact hret (-9 : Int32) () _ _ _ _ dX4_foldsTo_39 rfl (by rw [← hinv, show pa - k = 0 by omega]; rfl) hw
      · refine lv_iload_n hx hb dX4_foldsTo_14 rfl (lv_at hl 2 rfl) ?_
        refine lv_iload_n hx hb dX4_foldsTo_15 rfl (lv_at hl 1 rfl) ?_
        refine x_icmp_ne E (nI_toI (show y < 2147483648 by omega)) (nI_toI (show j < 2147483648 by omega)) (tgt := 22) dX4_foldsTo_16 (by decide) (fun c_2 => ?_) (fun c_2 => ?_)
        · have hne : ¬ y = j := by omega
          refine lv_iload_n hx hb dX4_foldsTo_22 rfl (lv_at hl 2 rfl) ?_
          refine lv_aload_n hx hb dX4_foldsTo_23 rfl (lv_at hl 0 rfl) ?_
          refine x_get E hw (C := RX4) (T := TX4) (N := 23) hinX4 0 rfl rfl 2 (by decide) rfl (List.mem_of_getElem? (i := 1) rfl) dX4_foldsTo_24 ?_
          refine x_cfSi E hw hl.1 (As := [.int (nI y), .int (nI pa)]) (rest := []) (c_X4_goes l G y pa (by omega)) 2 gX4_foldsTo_X4_goes rfl rfl rfl (by decide) ⟨Nat.le_of_ble_eq_true rfl, Nat.le_of_ble_eq_true rfl⟩ ⟨Nat.le_of_ble_eq_true rfl, Nat.le_of_ble_eq_true rfl⟩ rfl [] [0] rfl rfl rfl rfl rfl [0] [(x, .inr (4, [.ref xt, .int (nI nb), .int (nI pa), .int (nI pt), .int (nI off), .int (nI ha), .int (nI n), .ref xw, .ref xo, .ref xh, .int (nI nl), .ref xr, .int (nI ns), .ref xs, .ref xi, .long tr, .int u1, .int u2, .int u3, .long u4, .ref xd, .int u5, .ref xf]))] rfl rfl rfl (Nat.le_of_ble_eq_true rfl) dX4_foldsTo_27 (fun H locs hw => ?_)
          refine lv_istore_n (lv' := [(3, .int (nI (gz pa y))), (0, .ref x), (2, .int (nI j)), (4, .int (nI k))]) hx hb dX4_foldsTo_30 rfl hl (by decide) rfl (fun ls hl => ?_)
          refine lv_iinc (v := (nI (k + 1))) (lv' := [(4, .int (nI (k + 1))), (3, .int (nI (gz pa y))), (0, .ref x), (2, .int (nI j))]) hx hb dX4_foldsTo_31 hl (k := 3) rfl (x_inc1 _) (by decide) rfl (fun ls hl => ?_)
          refine lv_goto (tgt := 5) hx hb dX4_foldsTo_34 (by decide) ?_
          exact ih_5 (gz pa y) (k + 1) (by omega) (gz_lt hy) ((ffL_step (by omega) hne).symm.trans hinv) (by omega) _ _ _ hw (lv_sub hl [2, 3, 1, 0] rfl)
        · obtain rfl : y = j := by omega
          refine lv_iload hx hb dX4_foldsTo_19 (lv_at hl 3 rfl) ?_
          exact hret (nI k) () _ _ _ _ dX4_foldsTo_21 rfl (by rw [← hinv]; obtain ⟨f, hf⟩ : ∃ f, pa - k = f + 1 := ⟨pa - k - 1, by omega⟩; rw [hf, ffL_hit]) hw
  exact loop_5 (pa - 0 + 1) i 0 (by omega) (by omega) rfl (Nat.lt_succ_self _) _ _ _ hw (lv_sub hl [2, 4, 1, 0] rfl)

abbrev rm_X4_round : Room := { frames := 2, cells := 0, slots := 0, locals := 46 }
set_option maxHeartbeats 4000000 in
set_option maxRecDepth 100000 in
theorem c_X4_round (l : Launch) (G : XG) (x : Nat) (xt : Nat) (xw : Nat) (xo : Nat) (xh : Nat) (xr : Nat) (xs : Nat) (xi : Nat) (xd : Nat) (xf : Nat) (nb : Nat) (pa : Nat) (pt : Nat) (off : Nat) (ha : Nat) (n : Nat) (nl : Nat) (ns : Nat) (tr : Int64) (u1 : Int32) (u2 : Int32) (u3 : Int32) (u4 : Int64) (u5 : Int32) (j : Int32) (hpa : pa ≤ 63) (hpa3 : 3 ≤ pa) : CfI l yX4_round wsX4_round rm_X4_round G [.ref x, .int j] [(x, .inr (4, [.ref xt, .int (nI nb), .int (nI pa), .int (nI pt), .int (nI off), .int (nI ha), .int (nI n), .ref xw, .ref xo, .ref xh, .int (nI nl), .ref xr, .int (nI ns), .ref xs, .ref xi, .long tr, .int u1, .int u2, .int u3, .long u4, .ref xd, .int u5, .ref xf]))] (roundM pa j.toInt) [(x, .inr (4, [.ref xt, .int (nI nb), .int (nI pa), .int (nI pt), .int (nI off), .int (nI ha), .int (nI n), .ref xw, .ref xo, .ref xh, .int (nI nl), .ref xr, .int (nI ns), .ref xs, .ref xi, .long tr, .int u1, .int u2, .int u3, .long u4, .ref xd, .int u5, .ref xf]))] := by
  refine CtI.go (cc := cX4_round) (maxL := 2) RX4 rfl (by decide) rfl (Nat.le_of_ble_eq_true rfl) ?_
  intro p e s m args below meth c A Q ls E hw hl hret
  have hx := E.1
  have hb := E.2.1
  have hinX4 : ∀ w ∈ wsX40, w ∈ wsX4_round := (fun w h => List.mem_cons_of_mem _ (List.mem_append_right _ h))
  have hl : lv_has ls 2 [(0, .ref x), (1, .int j)] := hl
  refine lv_aload_n hx hb dX4_round_0 rfl (lv_at hl 0 rfl) ?_
  refine lv_iload_n hx hb dX4_round_1 rfl (lv_at hl 1 rfl) ?_
  refine x_cfVi E hw hl.1 (As := [.int j]) (rest := []) (c_X4_isPart l G x xt xw xo xh xr xs xi xd xf nb pa pt off ha n nl ns tr u1 u2 u3 u4 u5 j (by omega) (by omega)) 1 gX4_round_X4_isPart rfl rfl rfl (by decide) ⟨Nat.le_of_ble_eq_true rfl, Nat.le_of_ble_eq_true rfl⟩ ⟨Nat.le_of_ble_eq_true rfl, Nat.le_of_ble_eq_true rfl⟩ rfl 0 (ci := 4) (C := RX4) (T := TX4) (N := 23) rfl rfl [0] [] rfl rfl rfl rfl rfl [0] [(x, .inr (4, [.ref xt, .int (nI nb), .int (nI pa), .int (nI pt), .int (nI off), .int (nI ha), .int (nI n), .ref xw, .ref xo, .ref xh, .int (nI nl), .ref xr, .int (nI ns), .ref xs, .ref xi, .long tr, .int u1, .int u2, .int u3, .long u4, .ref xd, .int u5, .ref xf]))] rfl rfl rfl (Nat.le_of_ble_eq_true rfl) dX4_round_2 (fun H locs hw => ?_)
  refine x_ifb_eq E (P := 1 ≤ j.toInt ∧ j.toInt < (pa : Int)) (tgt := 26) dX4_round_5 (by decide) (fun c_1 => ?_) (fun c_1 => ?_)
  · refine lv_iconst (v := (-1 : Int32)) hx hb dX4_round_26 (by decide) ?_
    exact hret (-1 : Int32) () _ _ _ _ dX4_round_27 rfl (ifF (by omega) rfl) hw
  · obtain ⟨jn, hjn1, hjn2, rfl⟩ := i_nI j (by omega)
    refine lv_iconst (v := (nI 1)) hx hb dX4_round_8 (by decide) ?_
    refine lv_aload_n hx hb dX4_round_9 rfl (lv_at hl 0 rfl) ?_
    refine lv_iload_n hx hb dX4_round_10 rfl (lv_at hl 1 rfl) ?_
    have hgl := gz_lt (P := pa) (j := jn) (by omega)
    refine lv_aload_n hx hb dX4_round_11 rfl (lv_at hl 0 rfl) ?_
    refine x_get E hw (C := RX4) (T := TX4) (N := 23) hinX4 0 rfl rfl 2 (by decide) rfl (List.mem_of_getElem? (i := 1) rfl) dX4_round_12 ?_
    refine x_cfSi E hw hl.1 (As := [.int (nI jn), .int (nI pa)]) (rest := [.ref x, .int (nI 1)]) (c_X4_goes l G jn pa (by omega)) 2 gX4_round_X4_goes rfl rfl rfl (by decide) ⟨Nat.le_of_ble_eq_true rfl, Nat.le_of_ble_eq_true rfl⟩ ⟨Nat.le_of_ble_eq_true rfl, Nat.le_of_ble_eq_true rfl⟩ rfl [] [0] rfl rfl rfl rfl rfl [0] [(x, .inr (4, [.ref xt, .int (nI nb), .int (nI pa), .int (nI pt), .int (nI off), .int (nI ha), .int (nI n), .ref xw, .ref xo, .ref xh, .int (nI nl), .ref xr, .int (nI ns), .ref xs, .ref xi, .long tr, .int u1, .int u2, .int u3, .long u4, .ref xd, .int u5, .ref xf]))] rfl rfl rfl (Nat.le_of_ble_eq_true rfl) dX4_round_15 (fun H locs hw => ?_)
    refine lv_iload_n hx hb dX4_round_18 rfl (lv_at hl 1 rfl) ?_
    refine x_cfVi E hw hl.1 (As := [.int (nI (gz pa jn)), .int (nI jn)]) (rest := [.int (nI 1)]) (c_X4_foldsTo l G x xt xw xo xh xr xs xi xd xf nb pa pt off ha n nl ns tr u1 u2 u3 u4 u5 (gz pa jn) jn (by omega) (by omega) (by omega) (by omega)) 2 gX4_round_X4_foldsTo rfl rfl rfl (by decide) ⟨Nat.le_of_ble_eq_true rfl, Nat.le_of_ble_eq_true rfl⟩ ⟨Nat.le_of_ble_eq_true rfl, Nat.le_of_ble_eq_true rfl⟩ rfl 0 (ci := 4) (C := RX4) (T := TX4) (N := 23) rfl rfl [0] [] rfl rfl rfl rfl rfl [0] [(x, .inr (4, [.ref xt, .int (nI nb), .int (nI pa), .int (nI pt), .int (nI off), .int (nI ha), .int (nI n), .ref xw, .ref xo, .ref xh, .int (nI nl), .ref xr, .int (nI ns), .ref xs, .ref xi, .long tr, .int u1, .int u2, .int u3, .long u4, .ref xd, .int u5, .ref xf]))] rfl rfl rfl (Nat.le_of_ble_eq_true rfl) dX4_round_19 (fun H locs hw => ?_)
    refine x_iadd E (v := ((nI 1) + (ffL pa jn pa (gz pa jn) 0))) dX4_round_22 rfl ?_
    refine lv_goto (tgt := 27) hx hb dX4_round_23 (by decide) ?_
    exact hret ((nI 1) + (ffL pa jn pa (gz pa jn) 0)) () _ _ _ _ dX4_round_27 rfl (ifT (by omega) (by rw [hjn2, tNat])) hw

abbrev rm_X4_fewest : Room := { frames := 2, cells := 0, slots := 0, locals := 46 }
set_option maxHeartbeats 4000000 in
set_option maxRecDepth 100000 in
theorem c_X4_fewest (l : Launch) (G : XG) (x : Nat) (xt : Nat) (xw : Nat) (xo : Nat) (xh : Nat) (xr : Nat) (xs : Nat) (xi : Nat) (xd : Nat) (xf : Nat) (nb : Nat) (pa : Nat) (pt : Nat) (off : Nat) (ha : Nat) (n : Nat) (nl : Nat) (ns : Nat) (tr : Int64) (u1 : Int32) (u2 : Int32) (u3 : Int32) (u4 : Int64) (u5 : Int32) (j : Int32) (hpa : pa ≤ 63) (hpa3 : 3 ≤ pa) (hpt : pt < pa) : CfI l yX4_fewest wsX4_fewest rm_X4_fewest G [.ref x, .int j] [(x, .inr (4, [.ref xt, .int (nI nb), .int (nI pa), .int (nI pt), .int (nI off), .int (nI ha), .int (nI n), .ref xw, .ref xo, .ref xh, .int (nI nl), .ref xr, .int (nI ns), .ref xs, .ref xi, .long tr, .int u1, .int u2, .int u3, .long u4, .ref xd, .int u5, .ref xf]))] (fewestM pa pt j.toInt) [(x, .inr (4, [.ref xt, .int (nI nb), .int (nI pa), .int (nI pt), .int (nI off), .int (nI ha), .int (nI n), .ref xw, .ref xo, .ref xh, .int (nI nl), .ref xr, .int (nI ns), .ref xs, .ref xi, .long tr, .int u1, .int u2, .int u3, .long u4, .ref xd, .int u5, .ref xf]))] := by
  refine CtI.go (cc := cX4_fewest) (maxL := 2) RX4 rfl (by decide) rfl (Nat.le_of_ble_eq_true rfl) ?_
  intro p e s m args below meth c A Q ls E hw hl hret
  have hx := E.1
  have hb := E.2.1
  have hinX4 : ∀ w ∈ wsX40, w ∈ wsX4_fewest := (fun w h => List.mem_cons_of_mem _ (List.mem_append_right _ h))
  have hl : lv_has ls 2 [(0, .ref x), (1, .int j)] := hl
  refine lv_aload_n hx hb dX4_fewest_0 rfl (lv_at hl 0 rfl) ?_
  refine lv_iload_n hx hb dX4_fewest_1 rfl (lv_at hl 1 rfl) ?_
  refine x_cfVi E hw hl.1 (As := [.int j]) (rest := []) (c_X4_isPart l G x xt xw xo xh xr xs xi xd xf nb pa pt off ha n nl ns tr u1 u2 u3 u4 u5 j (by omega) (by omega)) 1 gX4_fewest_X4_isPart rfl rfl rfl (by decide) ⟨Nat.le_of_ble_eq_true rfl, Nat.le_of_ble_eq_true rfl⟩ ⟨Nat.le_of_ble_eq_true rfl, Nat.le_of_ble_eq_true rfl⟩ rfl 0 (ci := 4) (C := RX4) (T := TX4) (N := 23) rfl rfl [0] [] rfl rfl rfl rfl rfl [0] [(x, .inr (4, [.ref xt, .int (nI nb), .int (nI pa), .int (nI pt), .int (nI off), .int (nI ha), .int (nI n), .ref xw, .ref xo, .ref xh, .int (nI nl), .ref xr, .int (nI ns), .ref xs, .ref xi, .long tr, .int u1, .int u2, .int u3, .long u4, .ref xd, .int u5, .ref xf]))] rfl rfl rfl (Nat.le_of_ble_eq_true rfl) dX4_fewest_2 (fun H locs hw => ?_)
  refine x_ifb_eq E (P := 1 ≤ j.toInt ∧ j.toInt < (pa : Int)) (tgt := 20) dX4_fewest_5 (by decide) (fun c_1 => ?_) (fun c_1 => ?_)
  · refine lv_iconst (v := (-1 : Int32)) hx hb dX4_fewest_20 (by decide) ?_
    exact hret (-1 : Int32) () _ _ _ _ dX4_fewest_21 rfl (ifF (by omega) rfl) hw
  · obtain ⟨jn, hjn1, hjn2, rfl⟩ := i_nI j (by omega)
    refine lv_aload_n hx hb dX4_fewest_8 rfl (lv_at hl 0 rfl) ?_
    refine lv_aload_n hx hb dX4_fewest_9 rfl (lv_at hl 0 rfl) ?_
    refine x_get E hw (C := RX4) (T := TX4) (N := 23) hinX4 0 rfl rfl 3 (by decide) rfl (List.mem_of_getElem? (i := 1) rfl) dX4_fewest_10 ?_
    refine lv_iload_n hx hb dX4_fewest_13 rfl (lv_at hl 1 rfl) ?_
    refine x_cfVi E hw hl.1 (As := [.int (nI pt), .int (nI jn)]) (rest := []) (c_X4_foldsTo l G x xt xw xo xh xr xs xi xd xf nb pa pt off ha n nl ns tr u1 u2 u3 u4 u5 pt jn (by omega) (by omega) (by omega) (by omega)) 2 gX4_fewest_X4_foldsTo rfl rfl rfl (by decide) ⟨Nat.le_of_ble_eq_true rfl, Nat.le_of_ble_eq_true rfl⟩ ⟨Nat.le_of_ble_eq_true rfl, Nat.le_of_ble_eq_true rfl⟩ rfl 0 (ci := 4) (C := RX4) (T := TX4) (N := 23) rfl rfl [0] [] rfl rfl rfl rfl rfl [0] [(x, .inr (4, [.ref xt, .int (nI nb), .int (nI pa), .int (nI pt), .int (nI off), .int (nI ha), .int (nI n), .ref xw, .ref xo, .ref xh, .int (nI nl), .ref xr, .int (nI ns), .ref xs, .ref xi, .long tr, .int u1, .int u2, .int u3, .long u4, .ref xd, .int u5, .ref xf]))] rfl rfl rfl (Nat.le_of_ble_eq_true rfl) dX4_fewest_14 (fun H locs hw => ?_)
    refine lv_goto (tgt := 21) hx hb dX4_fewest_17 (by decide) ?_
    exact hret (ffL pa jn pa pt 0) () _ _ _ _ dX4_fewest_21 rfl (ifT (by omega) (by rw [hjn2, tNat])) hw

abbrev rm_X4_near : Room := { frames := 1, cells := 0, slots := 0, locals := 25 }
set_option maxHeartbeats 4000000 in
set_option maxRecDepth 100000 in
theorem c_X4_near (l : Launch) (G : XG) (x : Nat) (xt : Nat) (xw : Nat) (xo : Nat) (xh : Nat) (xr : Nat) (xs : Nat) (xi : Nat) (xd : Nat) (xf : Nat) (nb : Nat) (pa : Nat) (pt : Nat) (off : Nat) (ha : Nat) (n : Nat) (nl : Nat) (ns : Nat) (tr : Int64) (u1 : Int32) (u2 : Int32) (u3 : Int32) (u4 : Int64) (u5 : Int32) (t : Int32) (ho : off ≤ 99) : CfI l yX4_near wsX4_near rm_X4_near G [.ref x, .int t] [(x, .inr (4, [.ref xt, .int (nI nb), .int (nI pa), .int (nI pt), .int (nI off), .int (nI ha), .int (nI n), .ref xw, .ref xo, .ref xh, .int (nI nl), .ref xr, .int (nI ns), .ref xs, .ref xi, .long tr, .int u1, .int u2, .int u3, .long u4, .ref xd, .int u5, .ref xf]))] (nearF off t.toInt) [(x, .inr (4, [.ref xt, .int (nI nb), .int (nI pa), .int (nI pt), .int (nI off), .int (nI ha), .int (nI n), .ref xw, .ref xo, .ref xh, .int (nI nl), .ref xr, .int (nI ns), .ref xs, .ref xi, .long tr, .int u1, .int u2, .int u3, .long u4, .ref xd, .int u5, .ref xf]))] := by
  refine CtI.go (cc := cX4_near) (maxL := 5) RX4 rfl (by decide) rfl (Nat.le_of_ble_eq_true rfl) ?_
  intro p e s m args below meth c A Q ls E hw hl hret
  have hx := E.1
  have hb := E.2.1
  have hinX4 : ∀ w ∈ wsX40, w ∈ wsX4_near := (fun w h => List.mem_cons_of_mem _ (List.mem_append_right _ h))
  have hl : lv_has ls 5 [(0, .ref x), (1, .int t)] := hl
  refine lv_iload_n hx hb dX4_near_0 rfl (lv_at hl 1 rfl) ?_
  refine lv_i2l (v := t.toInt64) hx hb dX4_near_1 rfl ?_
  refine lv_lconst (v := (lN 0)) hx hb dX4_near_2 (by decide) ?_
  refine lv_ldc2 (v := (99999)) hx hb E.2.2.2.1 (E.2.2.2.2 _ (List.mem_of_getElem? (i := 1) rfl)) dX4_near_3 ?_
  refine x_topl (v := lN 99999) (by decide) ?_
  refine x_cfSi E hw hl.1 (As := [.long t.toInt64, .long (lN 0), .long (lN 99999)]) (rest := []) (c_X4_in l G t.toInt64 (lN 0) (lN 99999) t.toInt (0 : Int) (99999 : Int) ((Int32.toInt_toInt64 _).trans rfl) (lN_toI (by decide)) (lN_toI (by decide))) 3 gX4_near_X4_in rfl rfl rfl (by decide) ⟨Nat.le_of_ble_eq_true rfl, Nat.le_of_ble_eq_true rfl⟩ ⟨Nat.le_of_ble_eq_true rfl, Nat.le_of_ble_eq_true rfl⟩ rfl [] [0] rfl rfl rfl rfl rfl [0] [(x, .inr (4, [.ref xt, .int (nI nb), .int (nI pa), .int (nI pt), .int (nI off), .int (nI ha), .int (nI n), .ref xw, .ref xo, .ref xh, .int (nI nl), .ref xr, .int (nI ns), .ref xs, .ref xi, .long tr, .int u1, .int u2, .int u3, .long u4, .ref xd, .int u5, .ref xf]))] rfl rfl rfl (Nat.le_of_ble_eq_true rfl) dX4_near_6 (fun H locs hw => ?_)
  refine x_ifb_ne E (P := (0 : Int) ≤ t.toInt ∧ t.toInt ≤ (99999 : Int)) (tgt := 14) dX4_near_9 (by decide) (fun c_1 => ?_) (fun c_1 => ?_)
  · obtain ⟨tn, htn1, htn2, rfl⟩ := i_nI t (by omega)
    refine lv_iload_n hx hb dX4_near_14 rfl (lv_at hl 1 rfl) ?_
    refine lv_i2l (v := (lN tn)) hx hb dX4_near_15 (nI_l (by omega)) ?_
    refine lv_lstore_n (lv' := [(2, .long (lN tn)), (0, .ref x), (1, .int (nI tn))]) hx hb dX4_near_16 rfl hl (by decide) rfl (fun ls hl => ?_)
    refine lv_iconst (v := (nI 0)) hx hb dX4_near_17 (by decide) ?_
    refine lv_istore (lv' := [(4, .int (nI 0)), (2, .long (lN tn)), (0, .ref x), (1, .int (nI tn))]) hx hb dX4_near_18 hl (by decide) rfl (fun ls hl => ?_)
    have loop_20 : ∀ (fu : Nat) (k : Nat), k ≤ 41 → nrL off tn (41 - k) k = nrL off tn 41 0 → 41 - k < fu → ∀ (H : Heap) (locs : List Loc) (ls : Array Slot), Wd G s A [(x, .inr (4, [.ref xt, .int (nI nb), .int (nI pa), .int (nI pt), .int (nI off), .int (nI ha), .int (nI n), .ref xw, .ref xo, .ref xh, .int (nI nl), .ref xr, .int (nI ns), .ref xs, .ref xi, .long tr, .int u1, .int u2, .int u3, .long u4, .ref xd, .int u5, .ref xf]))] H locs → lv_has ls 5 [(0, .ref x), (1, .int (nI tn)), (2, .long (lN (tn * 2 ^ k))), (4, .int (nI k))] → W p l e rm_X4_near s m args below meth c H locs 0 0 Q (F0 m 20 ls []) := by
      intro fu
      induction fu with
      | zero =>
        intro k hk hinv hmu
        exact absurd hmu (Nat.not_lt_zero _)
      | succ fu ih_20 =>
        intro k hk hinv hmu_20 H locs ls hw hl
        refine lv_iload hx hb dX4_near_20 (lv_at hl 3 rfl) ?_
        refine lv_bipush (v := (nI 40)) hx hb dX4_near_22 (by decide) ?_
        refine x_icmp_gt E (nI_toI (show k < 2147483648 by omega)) (nI_toI (by decide)) (tgt := 56) dX4_near_24 (by decide) (fun c_2 => ?_) (fun c_2 => ?_)
        · refine lv_bipush (v := (-9 : Int32)) hx hb dX4_near_56 (by decide) ?_
          exact hret (-9 : Int32) () _ _ _ _ dX4_near_58 rfl (ifT (by omega) (by rw [htn2, tNat, ← hinv, show 41 - k = 0 by omega]; rfl)) hw
        · refine lv_aload_n hx hb dX4_near_27 rfl (lv_at hl 0 rfl) ?_
          refine x_get E hw (C := RX4) (T := TX4) (N := 23) hinX4 0 rfl rfl 4 (by decide) rfl (List.mem_of_getElem? (i := 2) rfl) dX4_near_28 ?_
          refine lv_i2l (v := (lN off)) hx hb dX4_near_31 (nI_l (by omega)) ?_
          refine lv_ldc2 (v := (1000)) hx hb E.2.2.2.1 (E.2.2.2.2 _ (List.mem_of_getElem? (i := 3) rfl)) dX4_near_32 ?_
          refine x_topl (v := lN 1000) (by decide) ?_
          refine x_lmul E (v := (lN (off * 1000))) dX4_near_35 (lN_mul _ _) ?_
          refine lv_lload_n hx hb dX4_near_36 rfl (lv_at hl 2 rfl) ?_
          have hpw := pw40 (t := tn) (k := k) (by omega) (by omega)
          refine x_lc_gt E (lN_toI (show off * 1000 < 9223372036854775808 by omega)) (lN_toI (show tn * 2 ^ k < 9223372036854775808 by omega)) (tgt := 44) dX4_near_37 dX4_near_38 (by decide) (fun c_3 => ?_) (fun c_3 => ?_)
          · have hne : ¬ off * 1000 ≤ tn * 2 ^ k := by omega
            refine lv_lload_n hx hb dX4_near_44 rfl (lv_at hl 2 rfl) ?_
            refine lv_ldc2 (v := (2)) hx hb E.2.2.2.1 (E.2.2.2.2 _ (List.mem_of_getElem? (i := 4) rfl)) dX4_near_45 ?_
            refine x_topl (v := lN 2) (by decide) ?_
            refine x_lmul E (v := (lN (tn * 2 ^ (k + 1)))) dX4_near_48 (by rw [lN_mul, Nat.pow_succ, Nat.mul_assoc]) ?_
            refine lv_lstore_n (lv' := [(2, .long (lN (tn * 2 ^ (k + 1)))), (0, .ref x), (1, .int (nI tn)), (4, .int (nI k))]) hx hb dX4_near_49 rfl hl (by decide) rfl (fun ls hl => ?_)
            refine lv_iinc (v := (nI (k + 1))) (lv' := [(4, .int (nI (k + 1))), (2, .long (lN (tn * 2 ^ (k + 1)))), (0, .ref x), (1, .int (nI tn))]) hx hb dX4_near_50 hl (k := 3) rfl (x_inc1 _) (by decide) rfl (fun ls hl => ?_)
            refine lv_goto (tgt := 20) hx hb dX4_near_53 (by decide) ?_
            exact ih_20 (k + 1) (by omega) ((nrL_step (by omega) hne).symm.trans hinv) (by omega) _ _ _ hw (lv_sub hl [2, 3, 1, 0] rfl)
          · have hle : off * 1000 ≤ tn * 2 ^ k := by omega
            refine lv_iload hx hb dX4_near_41 (lv_at hl 3 rfl) ?_
            exact hret (nI k) () _ _ _ _ dX4_near_43 rfl (ifT (by omega) (by rw [htn2, tNat, ← hinv, nrL_hit (by omega) hle])) hw
    rw [show lN tn = lN (tn * 2 ^ 0) by rw [Nat.pow_zero, Nat.mul_one]] at hl
    exact loop_20 (41 - 0 + 1) 0 (by omega) rfl (Nat.lt_succ_self _) _ _ _ hw (lv_sub hl [2, 3, 1, 0] rfl)
  · refine lv_iconst (v := (-1 : Int32)) hx hb dX4_near_12 (by decide) ?_
    exact hret (-1 : Int32) () _ _ _ _ dX4_near_13 rfl (ifF (by omega) rfl) hw

abbrev rm_X4_letter_bad : Room := { frames := 1, cells := 0, slots := 0, locals := 25 }
set_option maxHeartbeats 4000000 in
set_option maxRecDepth 100000 in
theorem c_X4_letter_bad (l : Launch) (G : XG) (x : Nat) (xt : Nat) (xw : Nat) (xo : Nat) (xh : Nat) (xr : Nat) (xs : Nat) (xi : Nat) (xd : Nat) (xf : Nat) (nb : Nat) (pa : Nat) (pt : Nat) (off : Nat) (ha : Nat) (n : Nat) (nl : Nat) (ns : Nat) (tr : Int64) (u1 : Int32) (u2 : Int32) (u3 : Int32) (u4 : Int64) (u5 : Int32) (gl : Nat → Nat) (j : Int32) (hbad : ¬ (0 ≤ j.toInt ∧ j.toInt ≤ 1)) : CfI l yX4_letter wsX4_letter rm_X4_letter_bad G [.ref x, .int j] [(x, .inr (4, [.ref xt, .int (nI nb), .int (nI pa), .int (nI pt), .int (nI off), .int (nI ha), .int (nI n), .ref xw, .ref xo, .ref xh, .int (nI nl), .ref xr, .int (nI ns), .ref xs, .ref xi, .long tr, .int u1, .int u2, .int u3, .long u4, .ref xd, .int u5, .ref xf])), (xr, .inl (cI G, 12, .inl (fI gl)))] (-1 : Int32) [(x, .inr (4, [.ref xt, .int (nI nb), .int (nI pa), .int (nI pt), .int (nI off), .int (nI ha), .int (nI n), .ref xw, .ref xo, .ref xh, .int (nI nl), .ref xr, .int (nI ns), .ref xs, .ref xi, .long tr, .int u1, .int u2, .int u3, .long u4, .ref xd, .int u5, .ref xf])), (xr, .inl (cI G, 12, .inl (fI gl)))] := by
  refine CtI.go (cc := cX4_letter) (maxL := 2) RX4 rfl (by decide) rfl (Nat.le_of_ble_eq_true rfl) ?_
  intro p e s m args below meth c A Q ls E hw hl hret
  have hx := E.1
  have hb := E.2.1
  have hl : lv_has ls 2 [(0, .ref x), (1, .int j)] := hl
  refine lv_iload_n hx hb dX4_letter_0 rfl (lv_at hl 1 rfl) ?_
  refine lv_i2l (v := j.toInt64) hx hb dX4_letter_1 rfl ?_
  refine lv_lconst (v := (lN 0)) hx hb dX4_letter_2 (by decide) ?_
  refine lv_lconst (v := (lN 1)) hx hb dX4_letter_3 (by decide) ?_
  refine x_cfSi E hw hl.1 (As := [.long j.toInt64, .long (lN 0), .long (lN 1)]) (rest := []) (c_X4_in l G j.toInt64 (lN 0) (lN 1) j.toInt (0 : Int) (1 : Int) ((Int32.toInt_toInt64 _).trans rfl) (lN_toI (by decide)) (lN_toI (by decide))) 3 gX4_letter_X4_in rfl rfl rfl (by decide) ⟨Nat.le_of_ble_eq_true rfl, Nat.le_of_ble_eq_true rfl⟩ ⟨Nat.le_of_ble_eq_true rfl, Nat.le_of_ble_eq_true rfl⟩ rfl [] [0, 1] rfl rfl rfl rfl rfl [0, 1] [(x, .inr (4, [.ref xt, .int (nI nb), .int (nI pa), .int (nI pt), .int (nI off), .int (nI ha), .int (nI n), .ref xw, .ref xo, .ref xh, .int (nI nl), .ref xr, .int (nI ns), .ref xs, .ref xi, .long tr, .int u1, .int u2, .int u3, .long u4, .ref xd, .int u5, .ref xf])), (xr, .inl (cI G, 12, .inl (fI gl)))] rfl rfl rfl (Nat.le_of_ble_eq_true rfl) dX4_letter_4 (fun H locs hw => ?_)
  refine x_ifb_ne E (P := (0 : Int) ≤ j.toInt ∧ j.toInt ≤ (1 : Int)) (tgt := 12) dX4_letter_7 (by decide) (fun c_1 => ?_) (fun c_1 => ?_)
  · exfalso; omega
  · refine lv_iconst (v := (-1 : Int32)) hx hb dX4_letter_10 (by decide) ?_
    exact hret (-1 : Int32) () _ _ _ _ dX4_letter_11 rfl rfl hw

abbrev rm_X4_letter_full : Room := { frames := 1, cells := 0, slots := 0, locals := 25 }
set_option maxHeartbeats 4000000 in
set_option maxRecDepth 100000 in
theorem c_X4_letter_full (l : Launch) (G : XG) (x : Nat) (xt : Nat) (xw : Nat) (xo : Nat) (xh : Nat) (xr : Nat) (xs : Nat) (xi : Nat) (xd : Nat) (xf : Nat) (nb : Nat) (pa : Nat) (pt : Nat) (off : Nat) (ha : Nat) (n : Nat) (nl : Nat) (ns : Nat) (tr : Int64) (u1 : Int32) (u2 : Int32) (u3 : Int32) (u4 : Int64) (u5 : Int32) (gl : Nat → Nat) (j : Nat) (hj : j ≤ 1) (hf : nl = 12) : CfI l yX4_letter wsX4_letter rm_X4_letter_full G [.ref x, .int (nI j)] [(x, .inr (4, [.ref xt, .int (nI nb), .int (nI pa), .int (nI pt), .int (nI off), .int (nI ha), .int (nI n), .ref xw, .ref xo, .ref xh, .int (nI nl), .ref xr, .int (nI ns), .ref xs, .ref xi, .long tr, .int u1, .int u2, .int u3, .long u4, .ref xd, .int u5, .ref xf])), (xr, .inl (cI G, 12, .inl (fI gl)))] (-3 : Int32) [(x, .inr (4, [.ref xt, .int (nI nb), .int (nI pa), .int (nI pt), .int (nI off), .int (nI ha), .int (nI n), .ref xw, .ref xo, .ref xh, .int (nI nl), .ref xr, .int (nI ns), .ref xs, .ref xi, .long tr, .int u1, .int u2, .int u3, .long u4, .ref xd, .int u5, .ref xf])), (xr, .inl (cI G, 12, .inl (fI gl)))] := by
  refine CtI.go (cc := cX4_letter) (maxL := 2) RX4 rfl (by decide) rfl (Nat.le_of_ble_eq_true rfl) ?_
  intro p e s m args below meth c A Q ls E hw hl hret
  have hx := E.1
  have hb := E.2.1
  have hinX4 : ∀ w ∈ wsX40, w ∈ wsX4_letter := (fun w h => List.mem_cons_of_mem _ (List.mem_append_right _ h))
  have hl : lv_has ls 2 [(0, .ref x), (1, .int (nI j))] := hl
  refine lv_iload_n hx hb dX4_letter_0 rfl (lv_at hl 1 rfl) ?_
  refine lv_i2l (v := (lN j)) hx hb dX4_letter_1 (nI_l (by omega)) ?_
  refine lv_lconst (v := (lN 0)) hx hb dX4_letter_2 (by decide) ?_
  refine lv_lconst (v := (lN 1)) hx hb dX4_letter_3 (by decide) ?_
  refine x_cfSi E hw hl.1 (As := [.long (lN j), .long (lN 0), .long (lN 1)]) (rest := []) (c_X4_in l G (lN j) (lN 0) (lN 1) ((j : Nat) : Int) (0 : Int) (1 : Int) (lN_toI (show j < 9223372036854775808 by omega)) (lN_toI (by decide)) (lN_toI (by decide))) 3 gX4_letter_X4_in rfl rfl rfl (by decide) ⟨Nat.le_of_ble_eq_true rfl, Nat.le_of_ble_eq_true rfl⟩ ⟨Nat.le_of_ble_eq_true rfl, Nat.le_of_ble_eq_true rfl⟩ rfl [] [0, 1] rfl rfl rfl rfl rfl [0, 1] [(x, .inr (4, [.ref xt, .int (nI nb), .int (nI pa), .int (nI pt), .int (nI off), .int (nI ha), .int (nI n), .ref xw, .ref xo, .ref xh, .int (nI nl), .ref xr, .int (nI ns), .ref xs, .ref xi, .long tr, .int u1, .int u2, .int u3, .long u4, .ref xd, .int u5, .ref xf])), (xr, .inl (cI G, 12, .inl (fI gl)))] rfl rfl rfl (Nat.le_of_ble_eq_true rfl) dX4_letter_4 (fun H locs hw => ?_)
  refine x_ifb_ne E (P := (0 : Int) ≤ ((j : Nat) : Int) ∧ ((j : Nat) : Int) ≤ (1 : Int)) (tgt := 12) dX4_letter_7 (by decide) (fun c_1 => ?_) (fun c_1 => ?_)
  · refine lv_aload_n hx hb dX4_letter_12 rfl (lv_at hl 0 rfl) ?_
    refine x_get E hw (C := RX4) (T := TX4) (N := 23) hinX4 0 rfl rfl 10 (by decide) rfl (List.mem_of_getElem? (i := 1) rfl) dX4_letter_13 ?_
    refine lv_bipush (v := (nI 12)) hx hb dX4_letter_16 (by decide) ?_
    refine x_icmp_ne E (nI_toI (show nl < 2147483648 by omega)) (nI_toI (by decide)) (tgt := 24) dX4_letter_18 (by decide) (fun c_2 => ?_) (fun c_2 => ?_)
    · exfalso; omega
    · refine lv_bipush (v := (-3 : Int32)) hx hb dX4_letter_21 (by decide) ?_
      exact hret (-3 : Int32) () _ _ _ _ dX4_letter_23 rfl rfl hw
  · exfalso; omega

abbrev rm_X4_letter_ok : Room := { frames := 1, cells := 0, slots := 0, locals := 25 }
set_option maxHeartbeats 4000000 in
set_option maxRecDepth 100000 in
theorem c_X4_letter_ok (l : Launch) (G : XG) (x : Nat) (xt : Nat) (xw : Nat) (xo : Nat) (xh : Nat) (xr : Nat) (xs : Nat) (xi : Nat) (xd : Nat) (xf : Nat) (nb : Nat) (pa : Nat) (pt : Nat) (off : Nat) (ha : Nat) (n : Nat) (nl : Nat) (ns : Nat) (tr : Int64) (u1 : Int32) (u2 : Int32) (u3 : Int32) (u4 : Int64) (u5 : Int32) (gl : Nat → Nat) (j : Nat) (hj : j ≤ 1) (hf : nl < 12) : CfI l yX4_letter wsX4_letter rm_X4_letter_ok G [.ref x, .int (nI j)] [(x, .inr (4, [.ref xt, .int (nI nb), .int (nI pa), .int (nI pt), .int (nI off), .int (nI ha), .int (nI n), .ref xw, .ref xo, .ref xh, .int (nI nl), .ref xr, .int (nI ns), .ref xs, .ref xi, .long tr, .int u1, .int u2, .int u3, .long u4, .ref xd, .int u5, .ref xf])), (xr, .inl (cI G, 12, .inl (fI gl)))] (nI (nl + 1)) [(x, .inr (4, [.ref xt, .int (nI nb), .int (nI pa), .int (nI pt), .int (nI off), .int (nI ha), .int (nI n), .ref xw, .ref xo, .ref xh, .int (nI (nl + 1)), .ref xr, .int (nI ns), .ref xs, .ref xi, .long tr, .int u1, .int u2, .int u3, .long u4, .ref xd, .int u5, .ref xf])), (xr, .inl (cI G, 12, .inl (fI (va_up gl nl j))))] := by
  refine CtI.go (cc := cX4_letter) (maxL := 2) RX4 rfl (by decide) rfl (Nat.le_of_ble_eq_true rfl) ?_
  intro p e s m args below meth c A Q ls E hw hl hret
  have hx := E.1
  have hb := E.2.1
  have hinX4 : ∀ w ∈ wsX40, w ∈ wsX4_letter := (fun w h => List.mem_cons_of_mem _ (List.mem_append_right _ h))
  have hl : lv_has ls 2 [(0, .ref x), (1, .int (nI j))] := hl
  refine lv_iload_n hx hb dX4_letter_0 rfl (lv_at hl 1 rfl) ?_
  refine lv_i2l (v := (lN j)) hx hb dX4_letter_1 (nI_l (by omega)) ?_
  refine lv_lconst (v := (lN 0)) hx hb dX4_letter_2 (by decide) ?_
  refine lv_lconst (v := (lN 1)) hx hb dX4_letter_3 (by decide) ?_
  refine x_cfSi E hw hl.1 (As := [.long (lN j), .long (lN 0), .long (lN 1)]) (rest := []) (c_X4_in l G (lN j) (lN 0) (lN 1) ((j : Nat) : Int) (0 : Int) (1 : Int) (lN_toI (show j < 9223372036854775808 by omega)) (lN_toI (by decide)) (lN_toI (by decide))) 3 gX4_letter_X4_in rfl rfl rfl (by decide) ⟨Nat.le_of_ble_eq_true rfl, Nat.le_of_ble_eq_true rfl⟩ ⟨Nat.le_of_ble_eq_true rfl, Nat.le_of_ble_eq_true rfl⟩ rfl [] [0, 1] rfl rfl rfl rfl rfl [0, 1] [(x, .inr (4, [.ref xt, .int (nI nb), .int (nI pa), .int (nI pt), .int (nI off), .int (nI ha), .int (nI n), .ref xw, .ref xo, .ref xh, .int (nI nl), .ref xr, .int (nI ns), .ref xs, .ref xi, .long tr, .int u1, .int u2, .int u3, .long u4, .ref xd, .int u5, .ref xf])), (xr, .inl (cI G, 12, .inl (fI gl)))] rfl rfl rfl (Nat.le_of_ble_eq_true rfl) dX4_letter_4 (fun H locs hw => ?_)
  refine x_ifb_ne E (P := (0 : Int) ≤ ((j : Nat) : Int) ∧ ((j : Nat) : Int) ≤ (1 : Int)) (tgt := 12) dX4_letter_7 (by decide) (fun c_1 => ?_) (fun c_1 => ?_)
  · refine lv_aload_n hx hb dX4_letter_12 rfl (lv_at hl 0 rfl) ?_
    refine x_get E hw (C := RX4) (T := TX4) (N := 23) hinX4 0 rfl rfl 10 (by decide) rfl (List.mem_of_getElem? (i := 1) rfl) dX4_letter_13 ?_
    refine lv_bipush (v := (nI 12)) hx hb dX4_letter_16 (by decide) ?_
    refine x_icmp_ne E (nI_toI (show nl < 2147483648 by omega)) (nI_toI (by decide)) (tgt := 24) dX4_letter_18 (by decide) (fun c_2 => ?_) (fun c_2 => ?_)
    · refine lv_aload_n hx hb dX4_letter_24 rfl (lv_at hl 0 rfl) ?_
      refine x_get E hw (C := RX4) (T := TX4) (N := 23) hinX4 0 rfl rfl 11 (by decide) rfl (List.mem_of_getElem? (i := 2) rfl) dX4_letter_25 ?_
      refine lv_aload_n hx hb dX4_letter_28 rfl (lv_at hl 0 rfl) ?_
      refine x_get E hw (C := RX4) (T := TX4) (N := 23) hinX4 0 rfl rfl 10 (by decide) rfl (List.mem_of_getElem? (i := 1) rfl) dX4_letter_29 ?_
      refine lv_iload_n hx hb dX4_letter_32 rfl (lv_at hl 1 rfl) ?_
      refine x_iast E hw 1 (a := xr) (ws1 := [(x, .inr (4, [.ref xt, .int (nI nb), .int (nI pa), .int (nI pt), .int (nI off), .int (nI ha), .int (nI n), .ref xw, .ref xo, .ref xh, .int (nI nl), .ref xr, .int (nI ns), .ref xs, .ref xi, .long tr, .int u1, .int u2, .int u3, .long u4, .ref xd, .int u5, .ref xf])), (xr, .inl (cI G, 12, .inl (fI (va_up gl nl j))))]) rfl rfl (show nl < 12 by omega) (by omega) (fI_up _ _ _) rfl dX4_letter_33 (fun H locs hw => ?_)
      refine lv_aload_n hx hb dX4_letter_34 rfl (lv_at hl 0 rfl) ?_
      refine lv_dup hx hb dX4_letter_35 rfl ?_
      refine x_get E hw (C := RX4) (T := TX4) (N := 23) hinX4 0 rfl rfl 10 (by decide) rfl (List.mem_of_getElem? (i := 1) rfl) dX4_letter_36 ?_
      refine lv_iconst (v := (nI 1)) hx hb dX4_letter_39 (by decide) ?_
      refine x_iadd E (v := (nI (nl + 1))) dX4_letter_40 (nI_add _ _) ?_
      refine x_put E hw (C := RX4) (T := TX4) (N := 23) (ws1 := [(x, .inr (4, [.ref xt, .int (nI nb), .int (nI pa), .int (nI pt), .int (nI off), .int (nI ha), .int (nI n), .ref xw, .ref xo, .ref xh, .int (nI (nl + 1)), .ref xr, .int (nI ns), .ref xs, .ref xi, .long tr, .int u1, .int u2, .int u3, .long u4, .ref xd, .int u5, .ref xf])), (xr, .inl (cI G, 12, .inl (fI (va_up gl nl j))))]) hinX4 tyX4_ok nmX4 0 rfl rfl 10 (by decide) (List.mem_of_getElem? (i := 1) rfl) rfl rfl rfl (Nat.le_of_ble_eq_true rfl) rfl dX4_letter_41 (fun H locs hw => ?_)
      refine lv_aload_n hx hb dX4_letter_44 rfl (lv_at hl 0 rfl) ?_
      refine x_get E hw (C := RX4) (T := TX4) (N := 23) hinX4 0 rfl rfl 10 (by decide) rfl (List.mem_of_getElem? (i := 1) rfl) dX4_letter_45 ?_
      exact hret (nI (nl + 1)) () _ _ _ _ dX4_letter_48 rfl rfl hw
    · exfalso; omega
  · exfalso; omega

abbrev rm_X4_hush : Room := { frames := 0, cells := 0, slots := 0, locals := 0 }
set_option maxHeartbeats 4000000 in
set_option maxRecDepth 100000 in
theorem c_X4_hush (l : Launch) (G : XG) (x : Nat) (xt : Nat) (xw : Nat) (xo : Nat) (xh : Nat) (xr : Nat) (xs : Nat) (xi : Nat) (xd : Nat) (xf : Nat) (nb : Nat) (pa : Nat) (pt : Nat) (off : Nat) (ha : Nat) (n : Nat) (nl : Nat) (ns : Nat) (tr : Int64) (u1 : Int32) (u2 : Int32) (u3 : Int32) (u4 : Int64) (u5 : Int32)  : CfI l yX4_hush wsX4_hush rm_X4_hush G [.ref x] [(x, .inr (4, [.ref xt, .int (nI nb), .int (nI pa), .int (nI pt), .int (nI off), .int (nI ha), .int (nI n), .ref xw, .ref xo, .ref xh, .int (nI nl), .ref xr, .int (nI ns), .ref xs, .ref xi, .long tr, .int u1, .int u2, .int u3, .long u4, .ref xd, .int u5, .ref xf]))] (nI nl) [(x, .inr (4, [.ref xt, .int (nI nb), .int (nI pa), .int (nI pt), .int (nI off), .int (nI ha), .int (nI n), .ref xw, .ref xo, .ref xh, .int (nI 0), .ref xr, .int (nI ns), .ref xs, .ref xi, .long tr, .int u1, .int u2, .int u3, .long u4, .ref xd, .int u5, .ref xf]))] := by
  refine CtI.go (cc := cX4_hush) (maxL := 2) RX4 rfl (by decide) rfl (Nat.le_of_ble_eq_true rfl) ?_
  intro p e s m args below meth c A Q ls E hw hl hret
  have hx := E.1
  have hb := E.2.1
  have hinX4 : ∀ w ∈ wsX40, w ∈ wsX4_hush := (fun w h => List.mem_cons_of_mem _ (List.mem_append_right _ h))
  have hl : lv_has ls 2 [(0, .ref x)] := hl
  refine lv_aload_n hx hb dX4_hush_0 rfl (lv_at hl 0 rfl) ?_
  refine x_get E hw (C := RX4) (T := TX4) (N := 23) hinX4 0 rfl rfl 10 (by decide) rfl (List.mem_of_getElem? (i := 1) rfl) dX4_hush_1 ?_
  refine lv_istore_n (lv' := [(1, .int (nI nl)), (0, .ref x)]) hx hb dX4_hush_4 rfl hl (by decide) rfl (fun ls hl => ?_)
  refine lv_aload_n hx hb dX4_hush_5 rfl (lv_at hl 1 rfl) ?_
  refine lv_iconst (v := (nI 0)) hx hb dX4_hush_6 (by decide) ?_
  refine x_put E hw (C := RX4) (T := TX4) (N := 23) (ws1 := [(x, .inr (4, [.ref xt, .int (nI nb), .int (nI pa), .int (nI pt), .int (nI off), .int (nI ha), .int (nI n), .ref xw, .ref xo, .ref xh, .int (nI 0), .ref xr, .int (nI ns), .ref xs, .ref xi, .long tr, .int u1, .int u2, .int u3, .long u4, .ref xd, .int u5, .ref xf]))]) hinX4 tyX4_ok nmX4 0 rfl rfl 10 (by decide) (List.mem_of_getElem? (i := 1) rfl) rfl rfl rfl (Nat.le_of_ble_eq_true rfl) rfl dX4_hush_7 (fun H locs hw => ?_)
  refine lv_iload_n hx hb dX4_hush_10 rfl (lv_at hl 0 rfl) ?_
  exact hret (nI nl) () _ _ _ _ dX4_hush_11 rfl rfl hw

abbrev rm_X4_saw_bad : Room := { frames := 2, cells := 0, slots := 0, locals := 46 }
set_option maxHeartbeats 4000000 in
set_option maxRecDepth 100000 in
theorem c_X4_saw_bad (l : Launch) (G : XG) (x : Nat) (xt : Nat) (xw : Nat) (xo : Nat) (xh : Nat) (xr : Nat) (xs : Nat) (xi : Nat) (xd : Nat) (xf : Nat) (nb : Nat) (pa : Nat) (pt : Nat) (off : Nat) (ha : Nat) (n : Nat) (nl : Nat) (ns : Nat) (tr : Int64) (u1 : Int32) (u2 : Int32) (u3 : Int32) (u4 : Int64) (u5 : Int32) (gs : Nat → Nat) (j : Int32) (hpa : pa ≤ 63) (hpa3 : 3 ≤ pa) (hbad : ¬ (1 ≤ j.toInt ∧ j.toInt < (pa : Int))) : CfI l yX4_saw wsX4_saw rm_X4_saw_bad G [.ref x, .int j] [(x, .inr (4, [.ref xt, .int (nI nb), .int (nI pa), .int (nI pt), .int (nI off), .int (nI ha), .int (nI n), .ref xw, .ref xo, .ref xh, .int (nI nl), .ref xr, .int (nI ns), .ref xs, .ref xi, .long tr, .int u1, .int u2, .int u3, .long u4, .ref xd, .int u5, .ref xf])), (xs, .inl (cI G, 8, .inl (fI gs)))] (-1 : Int32) [(x, .inr (4, [.ref xt, .int (nI nb), .int (nI pa), .int (nI pt), .int (nI off), .int (nI ha), .int (nI n), .ref xw, .ref xo, .ref xh, .int (nI nl), .ref xr, .int (nI ns), .ref xs, .ref xi, .long tr, .int u1, .int u2, .int u3, .long u4, .ref xd, .int u5, .ref xf])), (xs, .inl (cI G, 8, .inl (fI gs)))] := by
  refine CtI.go (cc := cX4_saw) (maxL := 2) RX4 rfl (by decide) rfl (Nat.le_of_ble_eq_true rfl) ?_
  intro p e s m args below meth c A Q ls E hw hl hret
  have hx := E.1
  have hb := E.2.1
  have hl : lv_has ls 2 [(0, .ref x), (1, .int j)] := hl
  refine lv_aload_n hx hb dX4_saw_0 rfl (lv_at hl 0 rfl) ?_
  refine lv_iload_n hx hb dX4_saw_1 rfl (lv_at hl 1 rfl) ?_
  refine x_cfVi E hw hl.1 (As := [.int j]) (rest := []) (c_X4_isPart l G x xt xw xo xh xr xs xi xd xf nb pa pt off ha n nl ns tr u1 u2 u3 u4 u5 j (by omega) (by omega)) 1 gX4_saw_X4_isPart rfl rfl rfl (by decide) ⟨Nat.le_of_ble_eq_true rfl, Nat.le_of_ble_eq_true rfl⟩ ⟨Nat.le_of_ble_eq_true rfl, Nat.le_of_ble_eq_true rfl⟩ rfl 0 (ci := 4) (C := RX4) (T := TX4) (N := 23) rfl rfl [0] [1] rfl rfl rfl rfl rfl [1, 0] [(x, .inr (4, [.ref xt, .int (nI nb), .int (nI pa), .int (nI pt), .int (nI off), .int (nI ha), .int (nI n), .ref xw, .ref xo, .ref xh, .int (nI nl), .ref xr, .int (nI ns), .ref xs, .ref xi, .long tr, .int u1, .int u2, .int u3, .long u4, .ref xd, .int u5, .ref xf])), (xs, .inl (cI G, 8, .inl (fI gs)))] rfl rfl rfl (Nat.le_of_ble_eq_true rfl) dX4_saw_2 (fun H locs hw => ?_)
  refine x_ifb_ne E (P := 1 ≤ j.toInt ∧ j.toInt < (pa : Int)) (tgt := 10) dX4_saw_5 (by decide) (fun c_1 => ?_) (fun c_1 => ?_)
  · exfalso; omega
  · refine lv_iconst (v := (-1 : Int32)) hx hb dX4_saw_8 (by decide) ?_
    exact hret (-1 : Int32) () _ _ _ _ dX4_saw_9 rfl rfl hw

abbrev rm_X4_saw_full : Room := { frames := 2, cells := 0, slots := 0, locals := 46 }
set_option maxHeartbeats 4000000 in
set_option maxRecDepth 100000 in
theorem c_X4_saw_full (l : Launch) (G : XG) (x : Nat) (xt : Nat) (xw : Nat) (xo : Nat) (xh : Nat) (xr : Nat) (xs : Nat) (xi : Nat) (xd : Nat) (xf : Nat) (nb : Nat) (pa : Nat) (pt : Nat) (off : Nat) (ha : Nat) (n : Nat) (nl : Nat) (ns : Nat) (tr : Int64) (u1 : Int32) (u2 : Int32) (u3 : Int32) (u4 : Int64) (u5 : Int32) (gs : Nat → Nat) (j : Nat) (hpa : pa ≤ 63) (hpa3 : 3 ≤ pa) (hj1 : 1 ≤ j) (hj : j < pa) (hf : ns = 8) : CfI l yX4_saw wsX4_saw rm_X4_saw_full G [.ref x, .int (nI j)] [(x, .inr (4, [.ref xt, .int (nI nb), .int (nI pa), .int (nI pt), .int (nI off), .int (nI ha), .int (nI n), .ref xw, .ref xo, .ref xh, .int (nI nl), .ref xr, .int (nI ns), .ref xs, .ref xi, .long tr, .int u1, .int u2, .int u3, .long u4, .ref xd, .int u5, .ref xf])), (xs, .inl (cI G, 8, .inl (fI gs)))] (-3 : Int32) [(x, .inr (4, [.ref xt, .int (nI nb), .int (nI pa), .int (nI pt), .int (nI off), .int (nI ha), .int (nI n), .ref xw, .ref xo, .ref xh, .int (nI nl), .ref xr, .int (nI ns), .ref xs, .ref xi, .long tr, .int u1, .int u2, .int u3, .long u4, .ref xd, .int u5, .ref xf])), (xs, .inl (cI G, 8, .inl (fI gs)))] := by
  refine CtI.go (cc := cX4_saw) (maxL := 2) RX4 rfl (by decide) rfl (Nat.le_of_ble_eq_true rfl) ?_
  intro p e s m args below meth c A Q ls E hw hl hret
  have hx := E.1
  have hb := E.2.1
  have hinX4 : ∀ w ∈ wsX40, w ∈ wsX4_saw := (fun w h => List.mem_cons_of_mem _ (List.mem_append_right _ h))
  have hl : lv_has ls 2 [(0, .ref x), (1, .int (nI j))] := hl
  refine lv_aload_n hx hb dX4_saw_0 rfl (lv_at hl 0 rfl) ?_
  refine lv_iload_n hx hb dX4_saw_1 rfl (lv_at hl 1 rfl) ?_
  refine x_cfVi E hw hl.1 (As := [.int (nI j)]) (rest := []) (c_X4_isPartN l G x xt xw xo xh xr xs xi xd xf nb pa pt off ha n nl ns tr u1 u2 u3 u4 u5 j (by omega) (by omega) (by omega)) 1 gX4_saw_X4_isPart rfl rfl rfl (by decide) ⟨Nat.le_of_ble_eq_true rfl, Nat.le_of_ble_eq_true rfl⟩ ⟨Nat.le_of_ble_eq_true rfl, Nat.le_of_ble_eq_true rfl⟩ rfl 0 (ci := 4) (C := RX4) (T := TX4) (N := 23) rfl rfl [0] [1] rfl rfl rfl rfl rfl [1, 0] [(x, .inr (4, [.ref xt, .int (nI nb), .int (nI pa), .int (nI pt), .int (nI off), .int (nI ha), .int (nI n), .ref xw, .ref xo, .ref xh, .int (nI nl), .ref xr, .int (nI ns), .ref xs, .ref xi, .long tr, .int u1, .int u2, .int u3, .long u4, .ref xd, .int u5, .ref xf])), (xs, .inl (cI G, 8, .inl (fI gs)))] rfl rfl rfl (Nat.le_of_ble_eq_true rfl) dX4_saw_2 (fun H locs hw => ?_)
  refine x_ifb_ne E (P := 1 ≤ j ∧ j < pa) (tgt := 10) dX4_saw_5 (by decide) (fun c_1 => ?_) (fun c_1 => ?_)
  · refine lv_aload_n hx hb dX4_saw_10 rfl (lv_at hl 0 rfl) ?_
    refine x_get E hw (C := RX4) (T := TX4) (N := 23) hinX4 0 rfl rfl 12 (by decide) rfl (List.mem_of_getElem? (i := 1) rfl) dX4_saw_11 ?_
    refine lv_bipush (v := (nI 8)) hx hb dX4_saw_14 (by decide) ?_
    refine x_icmp_ne E (nI_toI (show ns < 2147483648 by omega)) (nI_toI (by decide)) (tgt := 22) dX4_saw_16 (by decide) (fun c_2 => ?_) (fun c_2 => ?_)
    · exfalso; omega
    · refine lv_bipush (v := (-3 : Int32)) hx hb dX4_saw_19 (by decide) ?_
      exact hret (-3 : Int32) () _ _ _ _ dX4_saw_21 rfl rfl hw
  · exfalso; omega

abbrev rm_X4_saw_ok : Room := { frames := 2, cells := 0, slots := 0, locals := 46 }
set_option maxHeartbeats 4000000 in
set_option maxRecDepth 100000 in
theorem c_X4_saw_ok (l : Launch) (G : XG) (x : Nat) (xt : Nat) (xw : Nat) (xo : Nat) (xh : Nat) (xr : Nat) (xs : Nat) (xi : Nat) (xd : Nat) (xf : Nat) (nb : Nat) (pa : Nat) (pt : Nat) (off : Nat) (ha : Nat) (n : Nat) (nl : Nat) (ns : Nat) (tr : Int64) (u1 : Int32) (u2 : Int32) (u3 : Int32) (u4 : Int64) (u5 : Int32) (gs : Nat → Nat) (j : Nat) (hpa : pa ≤ 63) (hpa3 : 3 ≤ pa) (hj1 : 1 ≤ j) (hj : j < pa) (hf : ns < 8) : CfI l yX4_saw wsX4_saw rm_X4_saw_ok G [.ref x, .int (nI j)] [(x, .inr (4, [.ref xt, .int (nI nb), .int (nI pa), .int (nI pt), .int (nI off), .int (nI ha), .int (nI n), .ref xw, .ref xo, .ref xh, .int (nI nl), .ref xr, .int (nI ns), .ref xs, .ref xi, .long tr, .int u1, .int u2, .int u3, .long u4, .ref xd, .int u5, .ref xf])), (xs, .inl (cI G, 8, .inl (fI gs)))] (nI (ns + 1)) [(x, .inr (4, [.ref xt, .int (nI nb), .int (nI pa), .int (nI pt), .int (nI off), .int (nI ha), .int (nI n), .ref xw, .ref xo, .ref xh, .int (nI nl), .ref xr, .int (nI (ns + 1)), .ref xs, .ref xi, .long tr, .int u1, .int u2, .int u3, .long u4, .ref xd, .int u5, .ref xf])), (xs, .inl (cI G, 8, .inl (fI (va_up gs ns j))))] := by
  refine CtI.go (cc := cX4_saw) (maxL := 2) RX4 rfl (by decide) rfl (Nat.le_of_ble_eq_true rfl) ?_
  intro p e s m args below meth c A Q ls E hw hl hret
  have hx := E.1
  have hb := E.2.1
  have hinX4 : ∀ w ∈ wsX40, w ∈ wsX4_saw := (fun w h => List.mem_cons_of_mem _ (List.mem_append_right _ h))
  have hl : lv_has ls 2 [(0, .ref x), (1, .int (nI j))] := hl
  refine lv_aload_n hx hb dX4_saw_0 rfl (lv_at hl 0 rfl) ?_
  refine lv_iload_n hx hb dX4_saw_1 rfl (lv_at hl 1 rfl) ?_
  refine x_cfVi E hw hl.1 (As := [.int (nI j)]) (rest := []) (c_X4_isPartN l G x xt xw xo xh xr xs xi xd xf nb pa pt off ha n nl ns tr u1 u2 u3 u4 u5 j (by omega) (by omega) (by omega)) 1 gX4_saw_X4_isPart rfl rfl rfl (by decide) ⟨Nat.le_of_ble_eq_true rfl, Nat.le_of_ble_eq_true rfl⟩ ⟨Nat.le_of_ble_eq_true rfl, Nat.le_of_ble_eq_true rfl⟩ rfl 0 (ci := 4) (C := RX4) (T := TX4) (N := 23) rfl rfl [0] [1] rfl rfl rfl rfl rfl [1, 0] [(x, .inr (4, [.ref xt, .int (nI nb), .int (nI pa), .int (nI pt), .int (nI off), .int (nI ha), .int (nI n), .ref xw, .ref xo, .ref xh, .int (nI nl), .ref xr, .int (nI ns), .ref xs, .ref xi, .long tr, .int u1, .int u2, .int u3, .long u4, .ref xd, .int u5, .ref xf])), (xs, .inl (cI G, 8, .inl (fI gs)))] rfl rfl rfl (Nat.le_of_ble_eq_true rfl) dX4_saw_2 (fun H locs hw => ?_)
  refine x_ifb_ne E (P := 1 ≤ j ∧ j < pa) (tgt := 10) dX4_saw_5 (by decide) (fun c_1 => ?_) (fun c_1 => ?_)
  · refine lv_aload_n hx hb dX4_saw_10 rfl (lv_at hl 0 rfl) ?_
    refine x_get E hw (C := RX4) (T := TX4) (N := 23) hinX4 0 rfl rfl 12 (by decide) rfl (List.mem_of_getElem? (i := 1) rfl) dX4_saw_11 ?_
    refine lv_bipush (v := (nI 8)) hx hb dX4_saw_14 (by decide) ?_
    refine x_icmp_ne E (nI_toI (show ns < 2147483648 by omega)) (nI_toI (by decide)) (tgt := 22) dX4_saw_16 (by decide) (fun c_2 => ?_) (fun c_2 => ?_)
    · refine lv_aload_n hx hb dX4_saw_22 rfl (lv_at hl 0 rfl) ?_
      refine x_get E hw (C := RX4) (T := TX4) (N := 23) hinX4 0 rfl rfl 13 (by decide) rfl (List.mem_of_getElem? (i := 2) rfl) dX4_saw_23 ?_
      refine lv_aload_n hx hb dX4_saw_26 rfl (lv_at hl 0 rfl) ?_
      refine x_get E hw (C := RX4) (T := TX4) (N := 23) hinX4 0 rfl rfl 12 (by decide) rfl (List.mem_of_getElem? (i := 1) rfl) dX4_saw_27 ?_
      refine lv_iload_n hx hb dX4_saw_30 rfl (lv_at hl 1 rfl) ?_
      refine x_iast E hw 1 (a := xs) (ws1 := [(x, .inr (4, [.ref xt, .int (nI nb), .int (nI pa), .int (nI pt), .int (nI off), .int (nI ha), .int (nI n), .ref xw, .ref xo, .ref xh, .int (nI nl), .ref xr, .int (nI ns), .ref xs, .ref xi, .long tr, .int u1, .int u2, .int u3, .long u4, .ref xd, .int u5, .ref xf])), (xs, .inl (cI G, 8, .inl (fI (va_up gs ns j))))]) rfl rfl (show ns < 8 by omega) (by omega) (fI_up _ _ _) rfl dX4_saw_31 (fun H locs hw => ?_)
      refine lv_aload_n hx hb dX4_saw_32 rfl (lv_at hl 0 rfl) ?_
      refine lv_dup hx hb dX4_saw_33 rfl ?_
      refine x_get E hw (C := RX4) (T := TX4) (N := 23) hinX4 0 rfl rfl 12 (by decide) rfl (List.mem_of_getElem? (i := 1) rfl) dX4_saw_34 ?_
      refine lv_iconst (v := (nI 1)) hx hb dX4_saw_37 (by decide) ?_
      refine x_iadd E (v := (nI (ns + 1))) dX4_saw_38 (nI_add _ _) ?_
      refine x_put E hw (C := RX4) (T := TX4) (N := 23) (ws1 := [(x, .inr (4, [.ref xt, .int (nI nb), .int (nI pa), .int (nI pt), .int (nI off), .int (nI ha), .int (nI n), .ref xw, .ref xo, .ref xh, .int (nI nl), .ref xr, .int (nI (ns + 1)), .ref xs, .ref xi, .long tr, .int u1, .int u2, .int u3, .long u4, .ref xd, .int u5, .ref xf])), (xs, .inl (cI G, 8, .inl (fI (va_up gs ns j))))]) hinX4 tyX4_ok nmX4 0 rfl rfl 12 (by decide) (List.mem_of_getElem? (i := 1) rfl) rfl rfl rfl (Nat.le_of_ble_eq_true rfl) rfl dX4_saw_39 (fun H locs hw => ?_)
      refine lv_aload_n hx hb dX4_saw_42 rfl (lv_at hl 0 rfl) ?_
      refine x_get E hw (C := RX4) (T := TX4) (N := 23) hinX4 0 rfl rfl 12 (by decide) rfl (List.mem_of_getElem? (i := 1) rfl) dX4_saw_43 ?_
      exact hret (nI (ns + 1)) () _ _ _ _ dX4_saw_46 rfl rfl hw
    · exfalso; omega
  · exfalso; omega

abbrev rm_X4_forget : Room := { frames := 0, cells := 0, slots := 0, locals := 0 }
set_option maxHeartbeats 4000000 in
set_option maxRecDepth 100000 in
theorem c_X4_forget (l : Launch) (G : XG) (x : Nat) (xt : Nat) (xw : Nat) (xo : Nat) (xh : Nat) (xr : Nat) (xs : Nat) (xi : Nat) (xd : Nat) (xf : Nat) (nb : Nat) (pa : Nat) (pt : Nat) (off : Nat) (ha : Nat) (n : Nat) (nl : Nat) (ns : Nat) (tr : Int64) (u1 : Int32) (u2 : Int32) (u3 : Int32) (u4 : Int64) (u5 : Int32)  : CfI l yX4_forget wsX4_forget rm_X4_forget G [.ref x] [(x, .inr (4, [.ref xt, .int (nI nb), .int (nI pa), .int (nI pt), .int (nI off), .int (nI ha), .int (nI n), .ref xw, .ref xo, .ref xh, .int (nI nl), .ref xr, .int (nI ns), .ref xs, .ref xi, .long tr, .int u1, .int u2, .int u3, .long u4, .ref xd, .int u5, .ref xf]))] (nI ns) [(x, .inr (4, [.ref xt, .int (nI nb), .int (nI pa), .int (nI pt), .int (nI off), .int (nI ha), .int (nI n), .ref xw, .ref xo, .ref xh, .int (nI nl), .ref xr, .int (nI 0), .ref xs, .ref xi, .long tr, .int u1, .int u2, .int u3, .long u4, .ref xd, .int u5, .ref xf]))] := by
  refine CtI.go (cc := cX4_forget) (maxL := 2) RX4 rfl (by decide) rfl (Nat.le_of_ble_eq_true rfl) ?_
  intro p e s m args below meth c A Q ls E hw hl hret
  have hx := E.1
  have hb := E.2.1
  have hinX4 : ∀ w ∈ wsX40, w ∈ wsX4_forget := (fun w h => List.mem_cons_of_mem _ (List.mem_append_right _ h))
  have hl : lv_has ls 2 [(0, .ref x)] := hl
  refine lv_aload_n hx hb dX4_forget_0 rfl (lv_at hl 0 rfl) ?_
  refine x_get E hw (C := RX4) (T := TX4) (N := 23) hinX4 0 rfl rfl 12 (by decide) rfl (List.mem_of_getElem? (i := 1) rfl) dX4_forget_1 ?_
  refine lv_istore_n (lv' := [(1, .int (nI ns)), (0, .ref x)]) hx hb dX4_forget_4 rfl hl (by decide) rfl (fun ls hl => ?_)
  refine lv_aload_n hx hb dX4_forget_5 rfl (lv_at hl 1 rfl) ?_
  refine lv_iconst (v := (nI 0)) hx hb dX4_forget_6 (by decide) ?_
  refine x_put E hw (C := RX4) (T := TX4) (N := 23) (ws1 := [(x, .inr (4, [.ref xt, .int (nI nb), .int (nI pa), .int (nI pt), .int (nI off), .int (nI ha), .int (nI n), .ref xw, .ref xo, .ref xh, .int (nI nl), .ref xr, .int (nI 0), .ref xs, .ref xi, .long tr, .int u1, .int u2, .int u3, .long u4, .ref xd, .int u5, .ref xf]))]) hinX4 tyX4_ok nmX4 0 rfl rfl 12 (by decide) (List.mem_of_getElem? (i := 1) rfl) rfl rfl rfl (Nat.le_of_ble_eq_true rfl) rfl dX4_forget_7 (fun H locs hw => ?_)
  refine lv_iload_n hx hb dX4_forget_10 rfl (lv_at hl 0 rfl) ?_
  exact hret (nI ns) () _ _ _ _ dX4_forget_11 rfl rfl hw

abbrev rm_X4_wrongFrom : Room := { frames := 1, cells := 0, slots := 0, locals := 21 }
set_option maxHeartbeats 4000000 in
set_option maxRecDepth 100000 in
theorem c_X4_wrongFrom (l : Launch) (G : XG) (x : Nat) (xt : Nat) (xw : Nat) (xo : Nat) (xh : Nat) (xr : Nat) (xs : Nat) (xi : Nat) (xd : Nat) (xf : Nat) (nb : Nat) (pa : Nat) (pt : Nat) (off : Nat) (ha : Nat) (n : Nat) (nl : Nat) (ns : Nat) (tr : Int64) (u1 : Int32) (u2 : Int32) (u3 : Int32) (u4 : Int64) (u5 : Int32) (gl : Nat → Nat) (j : Nat) (P : Nat) (hnl : nl ≤ 12) (hgl : ∀ q, gl q ≤ 1) (hP : P ≤ 63) (hj : j < P) : CfI l yX4_wrongFrom wsX4_wrongFrom rm_X4_wrongFrom G [.ref x, .int (nI j), .int (nI P)] [(x, .inr (4, [.ref xt, .int (nI nb), .int (nI pa), .int (nI pt), .int (nI off), .int (nI ha), .int (nI n), .ref xw, .ref xo, .ref xh, .int (nI nl), .ref xr, .int (nI ns), .ref xs, .ref xi, .long tr, .int u1, .int u2, .int u3, .long u4, .ref xd, .int u5, .ref xf])), (xr, .inl (cI G, 12, .inl (fI gl)))] (wlF gl nl P j) [(x, .inr (4, [.ref xt, .int (nI nb), .int (nI pa), .int (nI pt), .int (nI off), .int (nI ha), .int (nI n), .ref xw, .ref xo, .ref xh, .int (nI nl), .ref xr, .int (nI ns), .ref xs, .ref xi, .long tr, .int u1, .int u2, .int u3, .long u4, .ref xd, .int u5, .ref xf])), (xr, .inl (cI G, 12, .inl (fI gl)))] := by
  refine CtI.go (cc := cX4_wrongFrom) (maxL := 5) RX4 rfl (by decide) rfl (Nat.le_of_ble_eq_true rfl) ?_
  intro p e s m args below meth c A Q ls E hw hl hret
  have hx := E.1
  have hb := E.2.1
  have hinX4 : ∀ w ∈ wsX40, w ∈ wsX4_wrongFrom := (fun w h => List.mem_cons_of_mem _ (List.mem_append_right _ h))
  have hl : lv_has ls 5 [(0, .ref x), (1, .int (nI j)), (2, .int (nI P))] := hl
  refine lv_iload_n hx hb dX4_wrongFrom_0 rfl (lv_at hl 1 rfl) ?_
  refine lv_istore_n (lv' := [(3, .int (nI j)), (0, .ref x), (1, .int (nI j)), (2, .int (nI P))]) hx hb dX4_wrongFrom_1 rfl hl (by decide) rfl (fun ls hl => ?_)
  refine lv_iconst (v := (nI 0)) hx hb dX4_wrongFrom_2 (by decide) ?_
  refine lv_istore (lv' := [(4, .int (nI 0)), (3, .int (nI j)), (0, .ref x), (1, .int (nI j)), (2, .int (nI P))]) hx hb dX4_wrongFrom_3 hl (by decide) rfl (fun ls hl => ?_)
  have loop_5 : ∀ (fu : Nat) (i : Nat) (y : Nat), i ≤ nl → y < P → wlL gl P (nl - i) i y = wlF gl nl P j → nl - i < fu → ∀ (H : Heap) (locs : List Loc) (ls : Array Slot), Wd G s A [(x, .inr (4, [.ref xt, .int (nI nb), .int (nI pa), .int (nI pt), .int (nI off), .int (nI ha), .int (nI n), .ref xw, .ref xo, .ref xh, .int (nI nl), .ref xr, .int (nI ns), .ref xs, .ref xi, .long tr, .int u1, .int u2, .int u3, .long u4, .ref xd, .int u5, .ref xf])), (xr, .inl (cI G, 12, .inl (fI gl)))] H locs → lv_has ls 5 [(0, .ref x), (2, .int (nI P)), (3, .int (nI y)), (4, .int (nI i))] → W p l e rm_X4_wrongFrom s m args below meth c H locs 0 0 Q (F0 m 5 ls []) := by
    intro fu
    induction fu with
    | zero =>
      intro i y hi hyP hinv hmu
      exact absurd hmu (Nat.not_lt_zero _)
    | succ fu ih_5 =>
      intro i y hi hyP hinv hmu_5 H locs ls hw hl
      refine lv_iload hx hb dX4_wrongFrom_5 (lv_at hl 3 rfl) ?_
      refine lv_aload_n hx hb dX4_wrongFrom_7 rfl (lv_at hl 0 rfl) ?_
      refine x_get E hw (C := RX4) (T := TX4) (N := 23) hinX4 0 rfl rfl 10 (by decide) rfl (List.mem_of_getElem? (i := 1) rfl) dX4_wrongFrom_8 ?_
      refine x_icmp_ge E (nI_toI (show i < 2147483648 by omega)) (nI_toI (show nl < 2147483648 by omega)) (tgt := 42) dX4_wrongFrom_11 (by decide) (fun c_1 => ?_) (fun c_1 => ?_)
      · refine lv_bipush (v := (-9 : Int32)) hx hb dX4_wrongFrom_42 (by decide) ?_
        exact hret (-9 : Int32) () _ _ _ _ dX4_wrongFrom_44 rfl (by rw [← hinv, show nl - i = 0 by omega]; rfl) hw
      · refine lv_aload_n hx hb dX4_wrongFrom_14 rfl (lv_at hl 0 rfl) ?_
        refine x_get E hw (C := RX4) (T := TX4) (N := 23) hinX4 0 rfl rfl 11 (by decide) rfl (List.mem_of_getElem? (i := 2) rfl) dX4_wrongFrom_15 ?_
        refine lv_iload hx hb dX4_wrongFrom_18 (lv_at hl 3 rfl) ?_
        refine x_iald E hw 1 (a := xr) (v := (nI (gl i))) rfl rfl (show i < 12 by omega) (by omega) rfl dX4_wrongFrom_20 ?_
        refine lv_iload_n hx hb dX4_wrongFrom_21 rfl (lv_at hl 2 rfl) ?_
        refine lv_iconst (v := (nI 2)) hx hb dX4_wrongFrom_22 (by decide) ?_
        refine x_irem E (v := (nI (y % 2))) dX4_wrongFrom_23 (by decide) (pk_rem (by omega) (by omega) (by omega)) ?_
        have hgli := hgl i
        refine x_icmp_eq E (nI_toI (show gl i < 2147483648 by omega)) (nI_toI (show y % 2 < 2147483648 by omega)) (tgt := 30) dX4_wrongFrom_24 (by decide) (fun c_2 => ?_) (fun c_2 => ?_)
        · have hy : gl i = y % 2 := by omega
          refine lv_iload_n hx hb dX4_wrongFrom_30 rfl (lv_at hl 2 rfl) ?_
          refine lv_iload_n hx hb dX4_wrongFrom_31 rfl (lv_at hl 1 rfl) ?_
          refine x_cfSi E hw hl.1 (As := [.int (nI y), .int (nI P)]) (rest := []) (c_X4_goes l G y P (by omega)) 2 gX4_wrongFrom_X4_goes rfl rfl rfl (by decide) ⟨Nat.le_of_ble_eq_true rfl, Nat.le_of_ble_eq_true rfl⟩ ⟨Nat.le_of_ble_eq_true rfl, Nat.le_of_ble_eq_true rfl⟩ rfl [] [0, 1] rfl rfl rfl rfl rfl [0, 1] [(x, .inr (4, [.ref xt, .int (nI nb), .int (nI pa), .int (nI pt), .int (nI off), .int (nI ha), .int (nI n), .ref xw, .ref xo, .ref xh, .int (nI nl), .ref xr, .int (nI ns), .ref xs, .ref xi, .long tr, .int u1, .int u2, .int u3, .long u4, .ref xd, .int u5, .ref xf])), (xr, .inl (cI G, 12, .inl (fI gl)))] rfl rfl rfl (Nat.le_of_ble_eq_true rfl) dX4_wrongFrom_32 (fun H locs hw => ?_)
          refine lv_istore_n (lv' := [(3, .int (nI (gz P y))), (0, .ref x), (2, .int (nI P)), (4, .int (nI i))]) hx hb dX4_wrongFrom_35 rfl hl (by decide) rfl (fun ls hl => ?_)
          refine lv_iinc (v := (nI (i + 1))) (lv' := [(4, .int (nI (i + 1))), (3, .int (nI (gz P y))), (0, .ref x), (2, .int (nI P))]) hx hb dX4_wrongFrom_36 hl (k := 3) rfl (x_inc1 _) (by decide) rfl (fun ls hl => ?_)
          refine lv_goto (tgt := 5) hx hb dX4_wrongFrom_39 (by decide) ?_
          exact ih_5 (i + 1) (gz P y) (by omega) (gz_lt hyP) ((wlL_yes (by omega) hy).symm.trans hinv) (by omega) _ _ _ hw (lv_sub hl [2, 3, 1, 0] rfl)
        · have hy : ¬ gl i = y % 2 := by omega
          refine lv_iload hx hb dX4_wrongFrom_27 (lv_at hl 3 rfl) ?_
          exact hret (nI i) () _ _ _ _ dX4_wrongFrom_29 rfl (by rw [← hinv, wlL_no (by omega) hy]) hw
  exact loop_5 (nl - 0 + 1) 0 j (by omega) (by omega) rfl (Nat.lt_succ_self _) _ _ _ hw (lv_sub hl [2, 4, 1, 0] rfl)

abbrev rm_X4_wrong : Room := { frames := 2, cells := 0, slots := 0, locals := 45 }
set_option maxHeartbeats 4000000 in
set_option maxRecDepth 100000 in
theorem c_X4_wrong (l : Launch) (G : XG) (x : Nat) (xt : Nat) (xw : Nat) (xo : Nat) (xh : Nat) (xr : Nat) (xs : Nat) (xi : Nat) (xd : Nat) (xf : Nat) (nb : Nat) (pa : Nat) (pt : Nat) (off : Nat) (ha : Nat) (n : Nat) (nl : Nat) (ns : Nat) (tr : Int64) (u1 : Int32) (u2 : Int32) (u3 : Int32) (u4 : Int64) (u5 : Int32) (gl : Nat → Nat) (hnl : nl ≤ 12) (hgl : ∀ q, gl q ≤ 1) (hpa : pa ≤ 63) (hpa3 : 3 ≤ pa) (hpt : pt < pa) : CfI l yX4_wrong wsX4_wrong rm_X4_wrong G [.ref x] [(x, .inr (4, [.ref xt, .int (nI nb), .int (nI pa), .int (nI pt), .int (nI off), .int (nI ha), .int (nI n), .ref xw, .ref xo, .ref xh, .int (nI nl), .ref xr, .int (nI ns), .ref xs, .ref xi, .long tr, .int u1, .int u2, .int u3, .long u4, .ref xd, .int u5, .ref xf])), (xr, .inl (cI G, 12, .inl (fI gl)))] (wlF gl nl pa pt) [(x, .inr (4, [.ref xt, .int (nI nb), .int (nI pa), .int (nI pt), .int (nI off), .int (nI ha), .int (nI n), .ref xw, .ref xo, .ref xh, .int (nI nl), .ref xr, .int (nI ns), .ref xs, .ref xi, .long tr, .int u1, .int u2, .int u3, .long u4, .ref xd, .int u5, .ref xf])), (xr, .inl (cI G, 12, .inl (fI gl)))] := by
  refine CtI.go (cc := cX4_wrong) (maxL := 1) RX4 rfl (by decide) rfl (Nat.le_of_ble_eq_true rfl) ?_
  intro p e s m args below meth c A Q ls E hw hl hret
  have hx := E.1
  have hb := E.2.1
  have hinX4 : ∀ w ∈ wsX40, w ∈ wsX4_wrong := (fun w h => List.mem_cons_of_mem _ (List.mem_append_right _ h))
  have hl : lv_has ls 1 [(0, .ref x)] := hl
  refine lv_aload_n hx hb dX4_wrong_0 rfl (lv_at hl 0 rfl) ?_
  refine lv_aload_n hx hb dX4_wrong_1 rfl (lv_at hl 0 rfl) ?_
  refine x_get E hw (C := RX4) (T := TX4) (N := 23) hinX4 0 rfl rfl 3 (by decide) rfl (List.mem_of_getElem? (i := 1) rfl) dX4_wrong_2 ?_
  refine lv_aload_n hx hb dX4_wrong_5 rfl (lv_at hl 0 rfl) ?_
  refine x_get E hw (C := RX4) (T := TX4) (N := 23) hinX4 0 rfl rfl 2 (by decide) rfl (List.mem_of_getElem? (i := 2) rfl) dX4_wrong_6 ?_
  refine x_cfVi E hw hl.1 (As := [.int (nI pt), .int (nI pa)]) (rest := []) (c_X4_wrongFrom l G x xt xw xo xh xr xs xi xd xf nb pa pt off ha n nl ns tr u1 u2 u3 u4 u5 gl pt pa (by omega) hgl (by omega) (by omega)) 2 gX4_wrong_X4_wrongFrom rfl rfl rfl (by decide) ⟨Nat.le_of_ble_eq_true rfl, Nat.le_of_ble_eq_true rfl⟩ ⟨Nat.le_of_ble_eq_true rfl, Nat.le_of_ble_eq_true rfl⟩ rfl 0 (ci := 4) (C := RX4) (T := TX4) (N := 23) rfl rfl [0, 1] [] rfl rfl rfl rfl rfl [0, 1] [(x, .inr (4, [.ref xt, .int (nI nb), .int (nI pa), .int (nI pt), .int (nI off), .int (nI ha), .int (nI n), .ref xw, .ref xo, .ref xh, .int (nI nl), .ref xr, .int (nI ns), .ref xs, .ref xi, .long tr, .int u1, .int u2, .int u3, .long u4, .ref xd, .int u5, .ref xf])), (xr, .inl (cI G, 12, .inl (fI gl)))] rfl rfl rfl (Nat.le_of_ble_eq_true rfl) dX4_wrong_9 (fun H locs hw => ?_)
  exact hret (wlF gl nl pa pt) () _ _ _ _ dX4_wrong_12 rfl rfl hw

abbrev rm_X4_meant : Room := { frames := 2, cells := 0, slots := 0, locals := 45 }
set_option maxHeartbeats 4000000 in
set_option maxRecDepth 100000 in
theorem c_X4_meant (l : Launch) (G : XG) (x : Nat) (xt : Nat) (xw : Nat) (xo : Nat) (xh : Nat) (xr : Nat) (xs : Nat) (xi : Nat) (xd : Nat) (xf : Nat) (nb : Nat) (pa : Nat) (pt : Nat) (off : Nat) (ha : Nat) (n : Nat) (nl : Nat) (ns : Nat) (tr : Int64) (u1 : Int32) (u2 : Int32) (u3 : Int32) (u4 : Int64) (u5 : Int32) (gl : Nat → Nat) (a : Int32) (hnl : nl ≤ 12) (hgl : ∀ q, gl q ≤ 1) : CfI l yX4_meant wsX4_meant rm_X4_meant G [.ref x, .int a] [(x, .inr (4, [.ref xt, .int (nI nb), .int (nI pa), .int (nI pt), .int (nI off), .int (nI ha), .int (nI n), .ref xw, .ref xo, .ref xh, .int (nI nl), .ref xr, .int (nI ns), .ref xs, .ref xi, .long tr, .int u1, .int u2, .int u3, .long u4, .ref xd, .int u5, .ref xf])), (xr, .inl (cI G, 12, .inl (fI gl)))] (meantF (mmP gl nl 31 (0, -9, -9)) a.toInt) [(x, .inr (4, [.ref xt, .int (nI nb), .int (nI pa), .int (nI pt), .int (nI off), .int (nI ha), .int (nI n), .ref xw, .ref xo, .ref xh, .int (nI nl), .ref xr, .int (nI ns), .ref xs, .ref xi, .long tr, .int u1, .int u2, .int u3, .long u4, .ref xd, .int u5, .ref xf])), (xr, .inl (cI G, 12, .inl (fI gl)))] := by
  refine CtI.go (cc := cX4_meant) (maxL := 7) RX4 rfl (by decide) rfl (Nat.le_of_ble_eq_true rfl) ?_
  intro p e s m args below meth c A Q ls E hw hl hret
  have hx := E.1
  have hb := E.2.1
  have hl : lv_has ls 7 [(0, .ref x), (1, .int a)] := hl
  refine lv_iload_n hx hb dX4_meant_0 rfl (lv_at hl 1 rfl) ?_
  refine lv_i2l (v := a.toInt64) hx hb dX4_meant_1 rfl ?_
  refine lv_lconst (v := (lN 0)) hx hb dX4_meant_2 (by decide) ?_
  refine lv_ldc2 (v := (2)) hx hb E.2.2.2.1 (E.2.2.2.2 _ (List.mem_of_getElem? (i := 1) rfl)) dX4_meant_3 ?_
  refine x_topl (v := lN 2) (by decide) ?_
  refine x_cfSi E hw hl.1 (As := [.long a.toInt64, .long (lN 0), .long (lN 2)]) (rest := []) (c_X4_in l G a.toInt64 (lN 0) (lN 2) a.toInt (0 : Int) (2 : Int) ((Int32.toInt_toInt64 _).trans rfl) (lN_toI (by decide)) (lN_toI (by decide))) 3 gX4_meant_X4_in rfl rfl rfl (by decide) ⟨Nat.le_of_ble_eq_true rfl, Nat.le_of_ble_eq_true rfl⟩ ⟨Nat.le_of_ble_eq_true rfl, Nat.le_of_ble_eq_true rfl⟩ rfl [] [0, 1] rfl rfl rfl rfl rfl [0, 1] [(x, .inr (4, [.ref xt, .int (nI nb), .int (nI pa), .int (nI pt), .int (nI off), .int (nI ha), .int (nI n), .ref xw, .ref xo, .ref xh, .int (nI nl), .ref xr, .int (nI ns), .ref xs, .ref xi, .long tr, .int u1, .int u2, .int u3, .long u4, .ref xd, .int u5, .ref xf])), (xr, .inl (cI G, 12, .inl (fI gl)))] rfl rfl rfl (Nat.le_of_ble_eq_true rfl) dX4_meant_6 (fun H locs hw => ?_)
  refine x_ifb_ne E (P := (0 : Int) ≤ a.toInt ∧ a.toInt ≤ (2 : Int)) (tgt := 14) dX4_meant_9 (by decide) (fun c_1 => ?_) (fun c_1 => ?_)
  · refine lv_iconst (v := (nI 0)) hx hb dX4_meant_14 (by decide) ?_
    refine lv_istore_n (lv' := [(2, .int (nI 0)), (0, .ref x), (1, .int a)]) hx hb dX4_meant_15 rfl hl (by decide) rfl (fun ls hl => ?_)
    refine lv_bipush (v := (-9 : Int32)) hx hb dX4_meant_16 (by decide) ?_
    refine lv_istore_n (lv' := [(3, .int (-9 : Int32)), (2, .int (nI 0)), (0, .ref x), (1, .int a)]) hx hb dX4_meant_18 rfl hl (by decide) rfl (fun ls hl => ?_)
    refine lv_bipush (v := (-9 : Int32)) hx hb dX4_meant_19 (by decide) ?_
    refine lv_istore (lv' := [(4, .int (-9 : Int32)), (3, .int (-9 : Int32)), (2, .int (nI 0)), (0, .ref x), (1, .int a)]) hx hb dX4_meant_21 hl (by decide) rfl (fun ls hl => ?_)
    refine lv_bipush (v := (nI 63)) hx hb dX4_meant_23 (by decide) ?_
    refine lv_istore (lv' := [(5, .int (nI 63)), (4, .int (-9 : Int32)), (3, .int (-9 : Int32)), (2, .int (nI 0)), (0, .ref x), (1, .int a)]) hx hb dX4_meant_25 hl (by decide) rfl (fun ls hl => ?_)
    have loop_27 : ∀ (fu : Nat) (i : Nat) (n1 : Nat) (a1 : Int32) (b1 : Int32), i ≤ 31 → mmP gl nl i (n1, a1, b1) = mmP gl nl 31 (0, -9, -9) → i < fu → ∀ (H : Heap) (locs : List Loc) (ls : Array Slot), Wd G s A [(x, .inr (4, [.ref xt, .int (nI nb), .int (nI pa), .int (nI pt), .int (nI off), .int (nI ha), .int (nI n), .ref xw, .ref xo, .ref xh, .int (nI nl), .ref xr, .int (nI ns), .ref xs, .ref xi, .long tr, .int u1, .int u2, .int u3, .long u4, .ref xd, .int u5, .ref xf])), (xr, .inl (cI G, 12, .inl (fI gl)))] H locs → lv_has ls 7 [(0, .ref x), (1, .int a), (2, .int (nI n1)), (3, .int a1), (4, .int b1), (5, .int (nI (2 * i + 1)))] → W p l e rm_X4_meant s m args below meth c H locs 0 0 Q (F0 m 27 ls []) := by
      intro fu
      induction fu with
      | zero =>
        intro i n1 a1 b1 hi hout hmu
        exact absurd hmu (Nat.not_lt_zero _)
      | succ fu ih_27 =>
        intro i n1 a1 b1 hi hout hmu_27 H locs ls hw hl
        refine lv_iload hx hb dX4_meant_27 (lv_at hl 5 rfl) ?_
        refine lv_iconst (v := (nI 2)) hx hb dX4_meant_29 (by decide) ?_
        refine x_icmp_le E (nI_toI (show 2 * i + 1 < 2147483648 by omega)) (nI_toI (by decide)) (tgt := 79) dX4_meant_30 (by decide) (fun c_2 => ?_) (fun c_2 => ?_)
        · obtain rfl : i = 0 := by omega
          have hT : (n1, a1, b1) = mmP gl nl 31 (0, -9, -9) := hout
          refine lv_iload_n hx hb dX4_meant_79 rfl (lv_at hl 1 rfl) ?_
          refine x_if_ne E rfl (tgt := 87) dX4_meant_80 (by decide) (fun c_3 => ?_) (fun c_3 => ?_)
          · refine lv_iload_n hx hb dX4_meant_87 rfl (lv_at hl 1 rfl) ?_
            refine lv_iconst (v := (nI 1)) hx hb dX4_meant_88 (by decide) ?_
            refine x_icmp_ne E rfl (nI_toI (by decide)) (tgt := 96) dX4_meant_89 (by decide) (fun c_4 => ?_) (fun c_4 => ?_)
            · refine lv_iload hx hb dX4_meant_96 (lv_at hl 4 rfl) ?_
              exact hret b1 () _ _ _ _ dX4_meant_98 rfl (by rw [← hT]; exact ifT (by omega) (ifF (by omega) (ifF (by omega) rfl))) hw
            · refine lv_iload_n hx hb dX4_meant_92 rfl (lv_at hl 3 rfl) ?_
              refine lv_goto (tgt := 98) hx hb dX4_meant_93 (by decide) ?_
              exact hret a1 () _ _ _ _ dX4_meant_98 rfl (by rw [← hT]; exact ifT (by omega) (ifF (by omega) (ifT (by omega) rfl))) hw
          · refine lv_iload_n hx hb dX4_meant_83 rfl (lv_at hl 2 rfl) ?_
            refine lv_goto (tgt := 98) hx hb dX4_meant_84 (by decide) ?_
            exact hret (nI n1) () _ _ _ _ dX4_meant_98 rfl (by rw [← hT]; exact ifT (by omega) (ifT (by omega) rfl)) hw
        · obtain ⟨i2, rfl⟩ : ∃ i2, i = i2 + 1 := ⟨i - 1, by omega⟩
          refine lv_iload hx hb dX4_meant_33 (lv_at hl 5 rfl) ?_
          refine lv_iconst (v := (nI 1)) hx hb dX4_meant_35 (by decide) ?_
          refine x_isub E (v := (nI (2 * (i2 + 1)))) dX4_meant_36 (by rw [pk_sub (by omega)]; rfl) ?_
          refine lv_istore (lv' := [(6, .int (nI (2 * (i2 + 1)))), (0, .ref x), (1, .int a), (2, .int (nI n1)), (3, .int a1), (4, .int b1), (5, .int (nI (2 * (i2 + 1) + 1)))]) hx hb dX4_meant_37 hl (by decide) rfl (fun ls hl => ?_)
          have loop_39 : ∀ (fu : Nat) (j : Nat) (m2 : Nat) (a2 : Int32) (b2 : Int32), j ≤ 2 * (i2 + 1) → mmJ gl nl (2 * (i2 + 1) + 1) j (m2, a2, b2) = mmJ gl nl (2 * (i2 + 1) + 1) (2 * (i2 + 1)) (n1, a1, b1) → j < fu → ∀ (H : Heap) (locs : List Loc) (ls : Array Slot), Wd G s A [(x, .inr (4, [.ref xt, .int (nI nb), .int (nI pa), .int (nI pt), .int (nI off), .int (nI ha), .int (nI n), .ref xw, .ref xo, .ref xh, .int (nI nl), .ref xr, .int (nI ns), .ref xs, .ref xi, .long tr, .int u1, .int u2, .int u3, .long u4, .ref xd, .int u5, .ref xf])), (xr, .inl (cI G, 12, .inl (fI gl)))] H locs → lv_has ls 7 [(0, .ref x), (1, .int a), (2, .int (nI m2)), (3, .int a2), (4, .int b2), (5, .int (nI (2 * (i2 + 1) + 1))), (6, .int (nI j))] → W p l e rm_X4_meant s m args below meth c H locs 0 0 Q (F0 m 39 ls []) := by
            intro fu
            induction fu with
            | zero =>
              intro j m2 a2 b2 hjP hin hmu
              exact absurd hmu (Nat.not_lt_zero _)
            | succ fu ih_39 =>
              intro j m2 a2 b2 hjP hin hmu_39 H locs ls hw hl
              refine lv_iload hx hb dX4_meant_39 (lv_at hl 6 rfl) ?_
              refine x_if_le E (nI_toI (show j < 2147483648 by omega)) (tgt := 73) dX4_meant_41 (by decide) (fun c_5 => ?_) (fun c_5 => ?_)
              · obtain rfl : j = 0 := by omega
                refine lv_iinc (v := (nI (2 * i2 + 1))) (lv' := [(5, .int (nI (2 * i2 + 1))), (0, .ref x), (1, .int a), (2, .int (nI m2)), (3, .int a2), (4, .int b2), (6, .int (nI 0))]) hx hb dX4_meant_73 hl (k := 5) rfl (x_dec2 _) (by decide) rfl (fun ls hl => ?_)
                refine lv_goto (tgt := 27) hx hb dX4_meant_76 (by decide) ?_
                exact ih_27 i2 m2 a2 b2 (by omega) (by rw [← hout, mmP, ← hin, mmJ]) (by omega) _ _ _ hw (lv_sub hl [1, 2, 3, 4, 5, 0] rfl)
              · obtain ⟨j2, rfl⟩ : ∃ j2, j = j2 + 1 := ⟨j - 1, by omega⟩
                refine lv_aload_n hx hb dX4_meant_44 rfl (lv_at hl 0 rfl) ?_
                refine lv_iload hx hb dX4_meant_45 (lv_at hl 6 rfl) ?_
                refine lv_iload hx hb dX4_meant_47 (lv_at hl 5 rfl) ?_
                refine x_cfVi E hw hl.1 (As := [.int (nI (j2 + 1)), .int (nI (2 * (i2 + 1) + 1))]) (rest := []) (c_X4_wrongFrom l G x xt xw xo xh xr xs xi xd xf nb pa pt off ha n nl ns tr u1 u2 u3 u4 u5 gl (j2 + 1) (2 * (i2 + 1) + 1) (by omega) hgl (by omega) (by omega)) 2 gX4_meant_X4_wrongFrom rfl rfl rfl (by decide) ⟨Nat.le_of_ble_eq_true rfl, Nat.le_of_ble_eq_true rfl⟩ ⟨Nat.le_of_ble_eq_true rfl, Nat.le_of_ble_eq_true rfl⟩ rfl 0 (ci := 4) (C := RX4) (T := TX4) (N := 23) rfl rfl [0, 1] [] rfl rfl rfl rfl rfl [0, 1] [(x, .inr (4, [.ref xt, .int (nI nb), .int (nI pa), .int (nI pt), .int (nI off), .int (nI ha), .int (nI n), .ref xw, .ref xo, .ref xh, .int (nI nl), .ref xr, .int (nI ns), .ref xs, .ref xi, .long tr, .int u1, .int u2, .int u3, .long u4, .ref xd, .int u5, .ref xf])), (xr, .inl (cI G, 12, .inl (fI gl)))] rfl rfl rfl (Nat.le_of_ble_eq_true rfl) dX4_meant_49 (fun H locs hw => ?_)
                refine lv_bipush (v := (-9 : Int32)) hx hb dX4_meant_52 (by decide) ?_
                refine x_icmp_ne E rfl (show ((-9 : Int32)).toInt = -9 by decide) (tgt := 67) dX4_meant_54 (by decide) (fun hw9 => ?_) (fun hw9 => ?_)
                · have hok := i_n9 hw9
                  refine lv_iinc (v := (nI j2)) (lv' := [(6, .int (nI j2)), (0, .ref x), (1, .int a), (2, .int (nI m2)), (3, .int a2), (4, .int b2), (5, .int (nI (2 * (i2 + 1) + 1)))]) hx hb dX4_meant_67 hl (k := 6) rfl (pk_m1 _) (by decide) rfl (fun ls hl => ?_)
                  refine lv_goto (tgt := 39) hx hb dX4_meant_70 (by decide) ?_
                  exact ih_39 j2 m2 a2 b2 (by omega) (by rw [← hin, mmJ, if_neg hok]) (by omega) _ _ _ hw (lv_sub hl [1, 2, 3, 4, 5, 6, 0] rfl)
                · have hok := i_m9 hw9
                  refine lv_iinc (v := (nI (m2 + 1))) (lv' := [(2, .int (nI (m2 + 1))), (0, .ref x), (1, .int a), (3, .int a2), (4, .int b2), (5, .int (nI (2 * (i2 + 1) + 1))), (6, .int (nI (j2 + 1)))]) hx hb dX4_meant_57 hl (k := 2) rfl (x_inc1 _) (by decide) rfl (fun ls hl => ?_)
                  refine lv_iload hx hb dX4_meant_60 (lv_at hl 5 rfl) ?_
                  refine lv_istore_n (lv' := [(3, .int (nI (2 * (i2 + 1) + 1))), (2, .int (nI (m2 + 1))), (0, .ref x), (1, .int a), (4, .int b2), (5, .int (nI (2 * (i2 + 1) + 1))), (6, .int (nI (j2 + 1)))]) hx hb dX4_meant_62 rfl hl (by decide) rfl (fun ls hl => ?_)
                  refine lv_iload hx hb dX4_meant_63 (lv_at hl 6 rfl) ?_
                  refine lv_istore (lv' := [(4, .int (nI (j2 + 1))), (3, .int (nI (2 * (i2 + 1) + 1))), (2, .int (nI (m2 + 1))), (0, .ref x), (1, .int a), (5, .int (nI (2 * (i2 + 1) + 1))), (6, .int (nI (j2 + 1)))]) hx hb dX4_meant_65 hl (by decide) rfl (fun ls hl => ?_)
                  refine lv_iinc (v := (nI j2)) (lv' := [(6, .int (nI j2)), (4, .int (nI (j2 + 1))), (3, .int (nI (2 * (i2 + 1) + 1))), (2, .int (nI (m2 + 1))), (0, .ref x), (1, .int a), (5, .int (nI (2 * (i2 + 1) + 1)))]) hx hb dX4_meant_67 hl (k := 6) rfl (pk_m1 _) (by decide) rfl (fun ls hl => ?_)
                  refine lv_goto (tgt := 39) hx hb dX4_meant_70 (by decide) ?_
                  exact ih_39 j2 (m2 + 1) (nI (2 * (i2 + 1) + 1)) (nI (j2 + 1)) (by omega) (by rw [← hin, mmJ, if_pos hok]) (by omega) _ _ _ hw (lv_sub hl [4, 5, 3, 2, 1, 6, 0] rfl)
          exact loop_39 ((2 * (i2 + 1)) + 1) (2 * (i2 + 1)) n1 a1 b1 (by omega) rfl (Nat.lt_succ_self _) _ _ _ hw (lv_sub hl [1, 2, 3, 4, 5, 6, 0] rfl)
    exact loop_27 (31 + 1) 31 0 (-9 : Int32) (-9 : Int32) (by omega) rfl (Nat.lt_succ_self _) _ _ _ hw (lv_sub hl [4, 5, 3, 2, 1, 0] rfl)
  · refine lv_iconst (v := (-1 : Int32)) hx hb dX4_meant_12 (by decide) ?_
    exact hret (-1 : Int32) () _ _ _ _ dX4_meant_13 rfl (ifF (by omega) rfl) hw

abbrev rm_X4_got : Room := { frames := 1, cells := 0, slots := 0, locals := 30 }
set_option maxHeartbeats 4000000 in
set_option maxRecDepth 100000 in
theorem c_X4_got (l : Launch) (G : XG) (x : Nat) (xt : Nat) (xw : Nat) (xo : Nat) (xh : Nat) (xr : Nat) (xs : Nat) (xi : Nat) (xd : Nat) (xf : Nat) (nb : Nat) (pa : Nat) (pt : Nat) (off : Nat) (ha : Nat) (n : Nat) (nl : Nat) (ns : Nat) (tr : Int64) (u1 : Int32) (u2 : Int32) (u3 : Int32) (u4 : Int64) (u5 : Int32) (gl : Nat → Nat) (a : Int32) (hnl : nl ≤ 12) (hgl : ∀ q, gl q ≤ 1) (hpa : pa ≤ 63) (hpa3 : 3 ≤ pa) (hpt : pt < pa) : CfL l yX4_got wsX4_got rm_X4_got G [.ref x, .int a] [(x, .inr (4, [.ref xt, .int (nI nb), .int (nI pa), .int (nI pt), .int (nI off), .int (nI ha), .int (nI n), .ref xw, .ref xo, .ref xh, .int (nI nl), .ref xr, .int (nI ns), .ref xs, .ref xi, .long tr, .int u1, .int u2, .int u3, .long u4, .ref xd, .int u5, .ref xf])), (xr, .inl (cI G, 12, .inl (fI gl)))] (gotF gl nl pa pt a.toInt) [(x, .inr (4, [.ref xt, .int (nI nb), .int (nI pa), .int (nI pt), .int (nI off), .int (nI ha), .int (nI n), .ref xw, .ref xo, .ref xh, .int (nI nl), .ref xr, .int (nI ns), .ref xs, .ref xi, .long tr, .int u1, .int u2, .int u3, .long u4, .ref xd, .int u5, .ref xf])), (xr, .inl (cI G, 12, .inl (fI gl)))] := by
  refine CtL.go (cc := cX4_got) (maxL := 5) RX4 rfl (by decide) rfl (Nat.le_of_ble_eq_true rfl) ?_
  intro p e s m args below meth c A Q ls E hw hl hret
  have hx := E.1
  have hb := E.2.1
  have hinX4 : ∀ w ∈ wsX40, w ∈ wsX4_got := (fun w h => List.mem_cons_of_mem _ (List.mem_append_right _ h))
  have hl : lv_has ls 5 [(0, .ref x), (1, .int a)] := hl
  refine lv_iload_n hx hb dX4_got_0 rfl (lv_at hl 1 rfl) ?_
  refine lv_i2l (v := a.toInt64) hx hb dX4_got_1 rfl ?_
  refine lv_lconst (v := (lN 0)) hx hb dX4_got_2 (by decide) ?_
  refine lv_lconst (v := (lN 1)) hx hb dX4_got_3 (by decide) ?_
  refine x_cfSi E hw hl.1 (As := [.long a.toInt64, .long (lN 0), .long (lN 1)]) (rest := []) (c_X4_in l G a.toInt64 (lN 0) (lN 1) a.toInt (0 : Int) (1 : Int) ((Int32.toInt_toInt64 _).trans rfl) (lN_toI (by decide)) (lN_toI (by decide))) 3 gX4_got_X4_in rfl rfl rfl (by decide) ⟨Nat.le_of_ble_eq_true rfl, Nat.le_of_ble_eq_true rfl⟩ ⟨Nat.le_of_ble_eq_true rfl, Nat.le_of_ble_eq_true rfl⟩ rfl [] [0, 1] rfl rfl rfl rfl rfl [0, 1] [(x, .inr (4, [.ref xt, .int (nI nb), .int (nI pa), .int (nI pt), .int (nI off), .int (nI ha), .int (nI n), .ref xw, .ref xo, .ref xh, .int (nI nl), .ref xr, .int (nI ns), .ref xs, .ref xi, .long tr, .int u1, .int u2, .int u3, .long u4, .ref xd, .int u5, .ref xf])), (xr, .inl (cI G, 12, .inl (fI gl)))] rfl rfl rfl (Nat.le_of_ble_eq_true rfl) dX4_got_4 (fun H locs hw => ?_)
  refine x_ifb_ne E (P := (0 : Int) ≤ a.toInt ∧ a.toInt ≤ (1 : Int)) (tgt := 14) dX4_got_7 (by decide) (fun c_1 => ?_) (fun c_1 => ?_)
  · refine lv_aload_n hx hb dX4_got_14 rfl (lv_at hl 0 rfl) ?_
    refine x_get E hw (C := RX4) (T := TX4) (N := 23) hinX4 0 rfl rfl 3 (by decide) rfl (List.mem_of_getElem? (i := 2) rfl) dX4_got_15 ?_
    refine lv_i2l (v := (lN pt)) hx hb dX4_got_18 (nI_l (by omega)) ?_
    refine lv_ldc2 (v := (1048576)) hx hb E.2.2.2.1 (E.2.2.2.2 _ (List.mem_of_getElem? (i := 3) rfl)) dX4_got_19 ?_
    refine x_topl (v := lN 1048576) (by decide) ?_
    refine x_lmul E (v := (lN (pt * 1048576))) dX4_got_22 (lN_mul _ _) ?_
    refine lv_lstore_n (lv' := [(2, .long (lN (pt * 1048576))), (0, .ref x), (1, .int a)]) hx hb dX4_got_23 rfl hl (by decide) rfl (fun ls hl => ?_)
    refine lv_iconst (v := (nI 0)) hx hb dX4_got_24 (by decide) ?_
    refine lv_istore (lv' := [(4, .int (nI 0)), (2, .long (lN (pt * 1048576))), (0, .ref x), (1, .int a)]) hx hb dX4_got_25 hl (by decide) rfl (fun ls hl => ?_)
    have loop_27 : ∀ (fu : Nat) (y : Nat) (i : Nat), i ≤ nl → y ≤ pa * 1048576 → gotR gl pa (nl - i) i y = gotR gl pa nl 0 (pt * 1048576) → nl - i < fu → ∀ (H : Heap) (locs : List Loc) (ls : Array Slot), Wd G s A [(x, .inr (4, [.ref xt, .int (nI nb), .int (nI pa), .int (nI pt), .int (nI off), .int (nI ha), .int (nI n), .ref xw, .ref xo, .ref xh, .int (nI nl), .ref xr, .int (nI ns), .ref xs, .ref xi, .long tr, .int u1, .int u2, .int u3, .long u4, .ref xd, .int u5, .ref xf])), (xr, .inl (cI G, 12, .inl (fI gl)))] H locs → lv_has ls 5 [(0, .ref x), (1, .int a), (2, .long (lN y)), (4, .int (nI i))] → W p l e rm_X4_got s m args below meth c H locs 0 0 Q (F0 m 27 ls []) := by
      intro fu
      induction fu with
      | zero =>
        intro y i hi hy hinv hmu
        exact absurd hmu (Nat.not_lt_zero _)
      | succ fu ih_27 =>
        intro y i hi hy hinv hmu_27 H locs ls hw hl
        refine lv_iload hx hb dX4_got_27 (lv_at hl 3 rfl) ?_
        refine lv_aload_n hx hb dX4_got_29 rfl (lv_at hl 0 rfl) ?_
        refine x_get E hw (C := RX4) (T := TX4) (N := 23) hinX4 0 rfl rfl 10 (by decide) rfl (List.mem_of_getElem? (i := 4) rfl) dX4_got_30 ?_
        refine x_icmp_ge E (nI_toI (show i < 2147483648 by omega)) (nI_toI (show nl < 2147483648 by omega)) (tgt := 66) dX4_got_33 (by decide) (fun c_2 => ?_) (fun c_2 => ?_)
        · have hT : gotR gl pa nl 0 (pt * 1048576) = y := by rw [← hinv, show nl - i = 0 by omega, gotR]
          refine lv_lload_n hx hb dX4_got_66 rfl (lv_at hl 2 rfl) ?_
          refine lv_aload_n hx hb dX4_got_67 rfl (lv_at hl 0 rfl) ?_
          refine x_get E hw (C := RX4) (T := TX4) (N := 23) hinX4 0 rfl rfl 2 (by decide) rfl (List.mem_of_getElem? (i := 6) rfl) dX4_got_68 ?_
          refine lv_i2l (v := (lN pa)) hx hb dX4_got_71 (nI_l (by omega)) ?_
          refine lv_ldc2 (v := (1048576)) hx hb E.2.2.2.1 (E.2.2.2.2 _ (List.mem_of_getElem? (i := 3) rfl)) dX4_got_72 ?_
          refine x_topl (v := lN 1048576) (by decide) ?_
          refine x_lmul E (v := (lN (pa * 1048576))) dX4_got_75 (lN_mul _ _) ?_
          refine lv_iload_n hx hb dX4_got_76 rfl (lv_at hl 1 rfl) ?_
          refine x_if_ne E rfl (tgt := 84) dX4_got_77 (by decide) (fun c_3 => ?_) (fun c_3 => ?_)
          · refine lv_iconst (v := (nI 0)) hx hb dX4_got_84 (by decide) ?_
            refine x_cfSl E hw hl.1 (As := [.long (lN y), .long (lN (pa * 1048576)), .int (nI 0)]) (rest := []) (c_X4_leastL l G y (pa * 1048576) (by omega) (by omega) (by omega)) 3 gX4_got_X4_least rfl rfl rfl (by decide) ⟨Nat.le_of_ble_eq_true rfl, Nat.le_of_ble_eq_true rfl⟩ ⟨Nat.le_of_ble_eq_true rfl, Nat.le_of_ble_eq_true rfl⟩ rfl [] [0, 1] rfl rfl rfl rfl rfl [0, 1] [(x, .inr (4, [.ref xt, .int (nI nb), .int (nI pa), .int (nI pt), .int (nI off), .int (nI ha), .int (nI n), .ref xw, .ref xo, .ref xh, .int (nI nl), .ref xr, .int (nI ns), .ref xs, .ref xi, .long tr, .int u1, .int u2, .int u3, .long u4, .ref xd, .int u5, .ref xf])), (xr, .inl (cI G, 12, .inl (fI gl)))] rfl rfl rfl (Nat.le_of_ble_eq_true rfl) dX4_got_85 (fun H locs hw => ?_)
            exact hret (lN ((pa * 1048576) / Nat.gcd y (pa * 1048576))) () _ _ _ _ dX4_got_88 (by unfold gotF; rw [hT, if_pos (by omega), if_neg (by omega)]) hw
          · refine lv_iconst (v := (nI 1)) hx hb dX4_got_80 (by decide) ?_
            refine lv_goto (tgt := 85) hx hb dX4_got_81 (by decide) ?_
            refine x_cfSl E hw hl.1 (As := [.long (lN y), .long (lN (pa * 1048576)), .int (nI 1)]) (rest := []) (c_X4_leastU l G y (pa * 1048576) (by omega) (by omega) (by omega)) 3 gX4_got_X4_least rfl rfl rfl (by decide) ⟨Nat.le_of_ble_eq_true rfl, Nat.le_of_ble_eq_true rfl⟩ ⟨Nat.le_of_ble_eq_true rfl, Nat.le_of_ble_eq_true rfl⟩ rfl [] [0, 1] rfl rfl rfl rfl rfl [0, 1] [(x, .inr (4, [.ref xt, .int (nI nb), .int (nI pa), .int (nI pt), .int (nI off), .int (nI ha), .int (nI n), .ref xw, .ref xo, .ref xh, .int (nI nl), .ref xr, .int (nI ns), .ref xs, .ref xi, .long tr, .int u1, .int u2, .int u3, .long u4, .ref xd, .int u5, .ref xf])), (xr, .inl (cI G, 12, .inl (fI gl)))] rfl rfl rfl (Nat.le_of_ble_eq_true rfl) dX4_got_85 (fun H locs hw => ?_)
            exact hret (lN (y / Nat.gcd y (pa * 1048576))) () _ _ _ _ dX4_got_88 (by unfold gotF; rw [hT, if_pos (by omega), if_pos (by omega)]) hw
        · have hgli := hgl i
          have hgm : gl i * (pa * 1048576) ≤ pa * 1048576 := Nat.le_trans (Nat.mul_le_mul_right _ hgli) (by omega)
          have hgm2 : gl i * pa ≤ pa := Nat.le_trans (Nat.mul_le_mul_right _ hgli) (by omega)
          refine lv_lload_n hx hb dX4_got_36 rfl (lv_at hl 2 rfl) ?_
          refine lv_aload_n hx hb dX4_got_37 rfl (lv_at hl 0 rfl) ?_
          refine x_get E hw (C := RX4) (T := TX4) (N := 23) hinX4 0 rfl rfl 11 (by decide) rfl (List.mem_of_getElem? (i := 5) rfl) dX4_got_38 ?_
          refine lv_iload hx hb dX4_got_41 (lv_at hl 3 rfl) ?_
          refine x_iald E hw 1 (a := xr) (v := (nI (gl i))) rfl rfl (show i < 12 by omega) (by omega) rfl dX4_got_43 ?_
          refine lv_aload_n hx hb dX4_got_44 rfl (lv_at hl 0 rfl) ?_
          refine x_get E hw (C := RX4) (T := TX4) (N := 23) hinX4 0 rfl rfl 2 (by decide) rfl (List.mem_of_getElem? (i := 6) rfl) dX4_got_45 ?_
          refine x_imul E (v := (nI ((gl i) * pa))) dX4_got_48 (pk_mul _ _) ?_
          refine lv_i2l (v := (lN ((gl i) * pa))) hx hb dX4_got_49 (nI_l (by omega)) ?_
          refine lv_ldc2 (v := (1048576)) hx hb E.2.2.2.1 (E.2.2.2.2 _ (List.mem_of_getElem? (i := 3) rfl)) dX4_got_50 ?_
          refine x_topl (v := lN 1048576) (by decide) ?_
          refine x_lmul E (v := (lN (gl i * (pa * 1048576)))) dX4_got_53 (by rw [lN_mul, Nat.mul_assoc]) ?_
          refine x_ladd E (v := (lN (y + (gl i * (pa * 1048576))))) dX4_got_54 (lN_add _ _) ?_
          refine lv_ldc2 (v := (2)) hx hb E.2.2.2.1 (E.2.2.2.2 _ (List.mem_of_getElem? (i := 7) rfl)) dX4_got_55 ?_
          refine x_topl (v := lN 2) (by decide) ?_
          refine x_ldiv E (v := (lN ((y + (gl i * (pa * 1048576))) / 2))) dX4_got_58 (by decide) (pk_lDiv (by omega) (by omega) (by omega)) ?_
          refine lv_lstore_n (lv' := [(2, .long (lN ((y + (gl i * (pa * 1048576))) / 2))), (0, .ref x), (1, .int a), (4, .int (nI i))]) hx hb dX4_got_59 rfl hl (by decide) rfl (fun ls hl => ?_)
          refine lv_iinc (v := (nI (i + 1))) (lv' := [(4, .int (nI (i + 1))), (2, .long (lN ((y + (gl i * (pa * 1048576))) / 2))), (0, .ref x), (1, .int a)]) hx hb dX4_got_60 hl (k := 3) rfl (x_inc1 _) (by decide) rfl (fun ls hl => ?_)
          refine lv_goto (tgt := 27) hx hb dX4_got_63 (by decide) ?_
          exact ih_27 ((y + (gl i * (pa * 1048576))) / 2) (i + 1) (by omega) (by omega) ((gotR_step (by omega)).symm.trans hinv) (by omega) _ _ _ hw (lv_sub hl [2, 3, 1, 0] rfl)
    exact loop_27 (nl - 0 + 1) (pt * 1048576) 0 (by omega) (by omega) rfl (Nat.lt_succ_self _) _ _ _ hw (lv_sub hl [2, 3, 1, 0] rfl)
  · refine lv_ldc2 (v := (-1)) hx hb E.2.2.2.1 (E.2.2.2.2 _ (List.mem_of_getElem? (i := 1) rfl)) dX4_got_10 ?_
    exact hret (-1 : Int64) () _ _ _ _ dX4_got_13 (ifF (by omega) rfl) hw
