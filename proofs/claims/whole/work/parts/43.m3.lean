abbrev rm_X4_isLetter : Room := { frames := 0, cells := 0, slots := 0, locals := 0 }
set_option maxHeartbeats 4000000 in
set_option maxRecDepth 100000 in
theorem c_X4_isLetter (l : Launch) (G : XG) (v : Nat) (hv : v < 2147483648) : CfI l yX4_isLetter wsX4_isLetter rm_X4_isLetter G [.int (nI v)] [] (if 97 ≤ v ∧ v ≤ 122 then 1 else 0) [] := by
  refine CtI.go (cc := cX4_isLetter) (maxL := 1) RX4 rfl (by decide) rfl (Nat.le_of_ble_eq_true rfl) ?_
  intro p e s m args below meth c A Q ls E hw hl hret
  have hx := E.1
  have hb := E.2.1
  have hl : lv_has ls 1 [(0, .int (nI v))] := hl
  refine lv_iload_n hx hb dX4_isLetter_0 rfl (lv_at hl 0 rfl) ?_
  refine lv_bipush (v := (nI 96)) hx hb dX4_isLetter_1 (by decide) ?_
  refine x_icmp_le E (nI_toI (show v < 2147483648 by omega)) (nI_toI (by decide)) (tgt := 16) dX4_isLetter_3 (by decide) (fun c_1 => ?_) (fun c_1 => ?_)
  · refine lv_iconst (v := (nI 0)) hx hb dX4_isLetter_16 (by decide) ?_
    exact hret (nI 0) () _ _ _ _ dX4_isLetter_17 rfl ((if_neg (by omega)).symm) hw
  · refine lv_iload_n hx hb dX4_isLetter_6 rfl (lv_at hl 0 rfl) ?_
    refine lv_bipush (v := (nI 123)) hx hb dX4_isLetter_7 (by decide) ?_
    refine x_icmp_ge E (nI_toI (show v < 2147483648 by omega)) (nI_toI (by decide)) (tgt := 16) dX4_isLetter_9 (by decide) (fun c_2 => ?_) (fun c_2 => ?_)
    · refine lv_iconst (v := (nI 0)) hx hb dX4_isLetter_16 (by decide) ?_
      exact hret (nI 0) () _ _ _ _ dX4_isLetter_17 rfl ((if_neg (by omega)).symm) hw
    · refine lv_iconst (v := (nI 1)) hx hb dX4_isLetter_12 (by decide) ?_
      refine lv_goto (tgt := 17) hx hb dX4_isLetter_13 (by decide) ?_
      exact hret (nI 1) () _ _ _ _ dX4_isLetter_17 rfl ((if_pos (by omega)).symm) hw

abbrev rm_X4_isFigure : Room := { frames := 0, cells := 0, slots := 0, locals := 0 }
set_option maxHeartbeats 4000000 in
set_option maxRecDepth 100000 in
theorem c_X4_isFigure (l : Launch) (G : XG) (v : Nat) (hv : v < 2147483648) : CfI l yX4_isFigure wsX4_isFigure rm_X4_isFigure G [.int (nI v)] [] (if 48 ≤ v ∧ v ≤ 57 then 1 else 0) [] := by
  refine CtI.go (cc := cX4_isFigure) (maxL := 1) RX4 rfl (by decide) rfl (Nat.le_of_ble_eq_true rfl) ?_
  intro p e s m args below meth c A Q ls E hw hl hret
  have hx := E.1
  have hb := E.2.1
  have hl : lv_has ls 1 [(0, .int (nI v))] := hl
  refine lv_iload_n hx hb dX4_isFigure_0 rfl (lv_at hl 0 rfl) ?_
  refine lv_bipush (v := (nI 47)) hx hb dX4_isFigure_1 (by decide) ?_
  refine x_icmp_le E (nI_toI (show v < 2147483648 by omega)) (nI_toI (by decide)) (tgt := 16) dX4_isFigure_3 (by decide) (fun c_1 => ?_) (fun c_1 => ?_)
  · refine lv_iconst (v := (nI 0)) hx hb dX4_isFigure_16 (by decide) ?_
    exact hret (nI 0) () _ _ _ _ dX4_isFigure_17 rfl ((if_neg (by omega)).symm) hw
  · refine lv_iload_n hx hb dX4_isFigure_6 rfl (lv_at hl 0 rfl) ?_
    refine lv_bipush (v := (nI 58)) hx hb dX4_isFigure_7 (by decide) ?_
    refine x_icmp_ge E (nI_toI (show v < 2147483648 by omega)) (nI_toI (by decide)) (tgt := 16) dX4_isFigure_9 (by decide) (fun c_2 => ?_) (fun c_2 => ?_)
    · refine lv_iconst (v := (nI 0)) hx hb dX4_isFigure_16 (by decide) ?_
      exact hret (nI 0) () _ _ _ _ dX4_isFigure_17 rfl ((if_neg (by omega)).symm) hw
    · refine lv_iconst (v := (nI 1)) hx hb dX4_isFigure_12 (by decide) ?_
      refine lv_goto (tgt := 17) hx hb dX4_isFigure_13 (by decide) ?_
      exact hret (nI 1) () _ _ _ _ dX4_isFigure_17 rfl ((if_pos (by omega)).symm) hw

abbrev rm_X4_next : Room := { frames := 1, cells := 0, slots := 0, locals := 20 }
set_option maxHeartbeats 4000000 in
set_option maxRecDepth 100000 in
theorem c_X4_next (l : Launch) (G : XG) (x : Nat) (xt : Nat) (xw : Nat) (xo : Nat) (xh : Nat) (xr : Nat) (xs : Nat) (xi : Nat) (xd : Nat) (xf : Nat) (nb : Nat) (pa : Nat) (pt : Nat) (off : Nat) (ha : Nat) (n : Nat) (nl : Nat) (ns : Nat) (tr : Int64) (u1 : Int32) (u2 : Int32) (u3 : Int32) (u4 : Int64) (u5 : Int32) (gb : Nat → Nat) (z0 : Nat) (hN : nb ≤ 200) (hgb : ∀ q, gb q < 256) (hz0 : z0 ≤ nb) : CfV l yX4_next wsX4_next rm_X4_next G [.ref x] [(x, .inr (4, [.ref xt, .int (nI nb), .int (nI pa), .int (nI pt), .int (nI off), .int (nI ha), .int (nI n), .ref xw, .ref xo, .ref xh, .int (nI nl), .ref xr, .int (nI ns), .ref xs, .ref xi, .long tr, .int (nI z0), .int u2, .int u3, .long u4, .ref xd, .int u5, .ref xf])), (xt, .inl (cI G, 200, .inl (fI gb)))] [(x, .inr (4, [.ref xt, .int (nI nb), .int (nI pa), .int (nI pt), .int (nI off), .int (nI ha), .int (nI n), .ref xw, .ref xo, .ref xh, .int (nI nl), .ref xr, .int (nI ns), .ref xs, .ref xi, .long tr, .int (nI (atM gb nb (sk gb nb z0))), .int (nI (sk gb nb z0)), .int (nI (kdM gb nb (sk gb nb z0))), .long (vlM gb nb (sk gb nb z0)), .ref xd, .int u5, .ref xf])), (xt, .inl (cI G, 200, .inl (fI gb)))] := by
  refine CtV.go (cc := cX4_next) (maxL := 2) RX4 rfl (by decide) rfl (Nat.le_of_ble_eq_true rfl) ?_
  intro p e s m args below meth c A Q ls E hw hl hret
  have hx := E.1
  have hb := E.2.1
  have hinX4 : ∀ w ∈ wsX40, w ∈ wsX4_next := (fun w h => List.mem_cons_of_mem _ (List.mem_append_right _ h))
  have hl : lv_has ls 2 [(0, .ref x)] := hl
  have loop_0 : ∀ (fu : Nat) (z : Nat), z0 ≤ z → z ≤ nb → skL gb nb (nb - z) z = sk gb nb z0 → nb - z < fu → ∀ (H : Heap) (locs : List Loc) (ls : Array Slot), Wd G s A [(x, .inr (4, [.ref xt, .int (nI nb), .int (nI pa), .int (nI pt), .int (nI off), .int (nI ha), .int (nI n), .ref xw, .ref xo, .ref xh, .int (nI nl), .ref xr, .int (nI ns), .ref xs, .ref xi, .long tr, .int (nI z), .int u2, .int u3, .long u4, .ref xd, .int u5, .ref xf])), (xt, .inl (cI G, 200, .inl (fI gb)))] H locs → lv_has ls 2 [(0, .ref x)] → W p l e rm_X4_next s m args below meth c H locs 0 0 Q (F0 m 0 ls []) := by
    intro fu
    induction fu with
    | zero =>
      intro z hz hzN hinv hmu
      exact absurd hmu (Nat.not_lt_zero _)
    | succ fu ih_0 =>
      intro z hz hzN hinv hmu_0 H locs ls hw hl
      refine lv_aload_n hx hb dX4_next_0 rfl (lv_at hl 0 rfl) ?_
      refine x_get E hw (C := RX4) (T := TX4) (N := 23) hinX4 0 rfl rfl 16 (by decide) rfl (List.mem_of_getElem? (i := 1) rfl) dX4_next_1 ?_
      refine lv_aload_n hx hb dX4_next_4 rfl (lv_at hl 0 rfl) ?_
      refine x_get E hw (C := RX4) (T := TX4) (N := 23) hinX4 0 rfl rfl 1 (by decide) rfl (List.mem_of_getElem? (i := 2) rfl) dX4_next_5 ?_
      refine x_icmp_ge E (nI_toI (show z < 2147483648 by omega)) (nI_toI (show nb < 2147483648 by omega)) (tgt := 38) dX4_next_8 (by decide) (fun c_1 => ?_) (fun c_1 => ?_)
      · have hsk : z = sk gb nb z0 := (skL_no (show ¬ (z < nb ∧ gb z = 32) by omega)).symm.trans hinv
        refine lv_aload_n hx hb dX4_next_38 rfl (lv_at hl 0 rfl) ?_
        refine lv_aload_n hx hb dX4_next_39 rfl (lv_at hl 0 rfl) ?_
        refine x_get E hw (C := RX4) (T := TX4) (N := 23) hinX4 0 rfl rfl 16 (by decide) rfl (List.mem_of_getElem? (i := 1) rfl) dX4_next_40 ?_
        refine x_put E hw (C := RX4) (T := TX4) (N := 23) (ws1 := [(x, .inr (4, [.ref xt, .int (nI nb), .int (nI pa), .int (nI pt), .int (nI off), .int (nI ha), .int (nI n), .ref xw, .ref xo, .ref xh, .int (nI nl), .ref xr, .int (nI ns), .ref xs, .ref xi, .long tr, .int (nI z), .int (nI z), .int u3, .long u4, .ref xd, .int u5, .ref xf])), (xt, .inl (cI G, 200, .inl (fI gb)))]) hinX4 tyX4_ok nmX4 0 rfl rfl 17 (by decide) (List.mem_of_getElem? (i := 4) rfl) rfl rfl rfl (Nat.le_of_ble_eq_true rfl) rfl dX4_next_43 (fun H locs hw => ?_)
        refine lv_aload_n hx hb dX4_next_46 rfl (lv_at hl 0 rfl) ?_
        refine lv_lconst (v := (lN 0)) hx hb dX4_next_47 (by decide) ?_
        refine x_put E hw (C := RX4) (T := TX4) (N := 23) (ws1 := [(x, .inr (4, [.ref xt, .int (nI nb), .int (nI pa), .int (nI pt), .int (nI off), .int (nI ha), .int (nI n), .ref xw, .ref xo, .ref xh, .int (nI nl), .ref xr, .int (nI ns), .ref xs, .ref xi, .long tr, .int (nI z), .int (nI z), .int u3, .long (lN 0), .ref xd, .int u5, .ref xf])), (xt, .inl (cI G, 200, .inl (fI gb)))]) hinX4 tyX4_ok nmX4 0 rfl rfl 19 (by decide) (List.mem_of_getElem? (i := 5) rfl) rfl rfl rfl (Nat.le_of_ble_eq_true rfl) rfl dX4_next_48 (fun H locs hw => ?_)
        refine lv_aload_n hx hb dX4_next_51 rfl (lv_at hl 0 rfl) ?_
        refine x_get E hw (C := RX4) (T := TX4) (N := 23) hinX4 0 rfl rfl 16 (by decide) rfl (List.mem_of_getElem? (i := 1) rfl) dX4_next_52 ?_
        refine lv_aload_n hx hb dX4_next_55 rfl (lv_at hl 0 rfl) ?_
        refine x_get E hw (C := RX4) (T := TX4) (N := 23) hinX4 0 rfl rfl 1 (by decide) rfl (List.mem_of_getElem? (i := 2) rfl) dX4_next_56 ?_
        refine x_icmp_ge E (nI_toI (show z < 2147483648 by omega)) (nI_toI (show nb < 2147483648 by omega)) (tgt := 74) dX4_next_59 (by decide) (fun c_2 => ?_) (fun c_2 => ?_)
        · have hNz : nb ≤ z := by omega
          refine lv_iconst (v := (-1 : Int32)) hx hb dX4_next_74 (by decide) ?_
          refine lv_istore_n (lv' := [(1, .int (-1 : Int32)), (0, .ref x)]) hx hb dX4_next_75 rfl hl (by decide) rfl (fun ls hl => ?_)
          refine lv_aload_n hx hb dX4_next_76 rfl (lv_at hl 1 rfl) ?_
          refine lv_iload_n hx hb dX4_next_77 rfl (lv_at hl 0 rfl) ?_
          refine x_if_ge E (show ((-1 : Int32)).toInt = -1 by decide) (tgt := 85) dX4_next_78 (by decide) (fun c_3 => ?_) (fun c_3 => ?_)
          · exact absurd c_3 (by decide)
          · refine lv_iconst (v := (nI 0)) hx hb dX4_next_81 (by decide) ?_
            refine lv_goto (tgt := 118) hx hb dX4_next_82 (by decide) ?_
            refine x_put E hw (C := RX4) (T := TX4) (N := 23) (ws1 := [(x, .inr (4, [.ref xt, .int (nI nb), .int (nI pa), .int (nI pt), .int (nI off), .int (nI ha), .int (nI n), .ref xw, .ref xo, .ref xh, .int (nI nl), .ref xr, .int (nI ns), .ref xs, .ref xi, .long tr, .int (nI z), .int (nI z), .int (nI 0), .long (lN 0), .ref xd, .int u5, .ref xf])), (xt, .inl (cI G, 200, .inl (fI gb)))]) hinX4 tyX4_ok nmX4 0 rfl rfl 18 (by decide) (List.mem_of_getElem? (i := 6) rfl) rfl rfl rfl (Nat.le_of_ble_eq_true rfl) rfl dX4_next_118 (fun H locs hw => ?_)
            refine lv_aload_n hx hb dX4_next_121 rfl (lv_at hl 1 rfl) ?_
            refine lv_dup hx hb dX4_next_122 rfl ?_
            refine x_get E hw (C := RX4) (T := TX4) (N := 23) hinX4 0 rfl rfl 16 (by decide) rfl (List.mem_of_getElem? (i := 1) rfl) dX4_next_123 ?_
            refine lv_aload_n hx hb dX4_next_126 rfl (lv_at hl 1 rfl) ?_
            refine x_get E hw (C := RX4) (T := TX4) (N := 23) hinX4 0 rfl rfl 18 (by decide) rfl (List.mem_of_getElem? (i := 6) rfl) dX4_next_127 ?_
            refine lv_iconst (v := (nI 3)) hx hb dX4_next_130 (by decide) ?_
            refine x_icmp_ne E (nI_toI (by decide)) (nI_toI (by decide)) (tgt := 138) dX4_next_131 (by decide) (fun c_4 => ?_) (fun c_4 => ?_)
            · refine lv_iconst (v := (nI 0)) hx hb dX4_next_138 (by decide) ?_
              refine x_iadd E (v := (nI z)) dX4_next_139 (nI_add _ 0) ?_
              refine x_put E hw (C := RX4) (T := TX4) (N := 23) (ws1 := [(x, .inr (4, [.ref xt, .int (nI nb), .int (nI pa), .int (nI pt), .int (nI off), .int (nI ha), .int (nI n), .ref xw, .ref xo, .ref xh, .int (nI nl), .ref xr, .int (nI ns), .ref xs, .ref xi, .long tr, .int (nI z), .int (nI z), .int (nI 0), .long (lN 0), .ref xd, .int u5, .ref xf])), (xt, .inl (cI G, 200, .inl (fI gb)))]) hinX4 tyX4_ok nmX4 0 rfl rfl 16 (by decide) (List.mem_of_getElem? (i := 1) rfl) rfl rfl rfl (Nat.le_of_ble_eq_true rfl) rfl dX4_next_140 (fun H locs hw => ?_)
              refine lv_aload_n hx hb dX4_next_143 rfl (lv_at hl 1 rfl) ?_
              refine x_get E hw (C := RX4) (T := TX4) (N := 23) hinX4 0 rfl rfl 18 (by decide) rfl (List.mem_of_getElem? (i := 6) rfl) dX4_next_144 ?_
              refine lv_iconst (v := (nI 1)) hx hb dX4_next_147 (by decide) ?_
              refine x_icmp_ne E (nI_toI (by decide)) (nI_toI (by decide)) (tgt := 237) dX4_next_148 (by decide) (fun c_5 => ?_) (fun c_5 => ?_)
              · refine lv_aload_n hx hb dX4_next_237 rfl (lv_at hl 1 rfl) ?_
                refine x_get E hw (C := RX4) (T := TX4) (N := 23) hinX4 0 rfl rfl 18 (by decide) rfl (List.mem_of_getElem? (i := 6) rfl) dX4_next_238 ?_
                refine lv_iconst (v := (nI 2)) hx hb dX4_next_241 (by decide) ?_
                refine x_icmp_ne E (nI_toI (by decide)) (nI_toI (by decide)) (tgt := 330) dX4_next_242 (by decide) (fun c_6 => ?_) (fun c_6 => ?_)
                · refine lv_aload_n hx hb dX4_next_330 rfl (lv_at hl 1 rfl) ?_
                  refine x_get E hw (C := RX4) (T := TX4) (N := 23) hinX4 0 rfl rfl 18 (by decide) rfl (List.mem_of_getElem? (i := 6) rfl) dX4_next_331 ?_
                  refine lv_iconst (v := (nI 2)) hx hb dX4_next_334 (by decide) ?_
                  refine x_icmp_ne E (nI_toI (by decide)) (nI_toI (by decide)) (tgt := 370) dX4_next_335 (by decide) (fun c_7 => ?_) (fun c_7 => ?_)
                  · have e1 : atM gb nb z = z := by unfold atM; rw [if_pos hNz]
                    have e2 : kdM gb nb z = 0 := by unfold kdM; rw [if_pos hNz]
                    have e3 : vlM gb nb z = lN 0 := by unfold vlM; rw [if_pos hNz]; rfl
                    exact hret () _ _ _ _ dX4_next_370 trivial (hw.cast (by rw [← hsk, e1, e2, e3]))
                  · exact absurd c_7 (by decide)
                · exact absurd c_6 (by decide)
              · exact absurd c_5 (by decide)
            · exact absurd c_4 (by decide)
        · have hNz : ¬ nb ≤ z := by omega
          have hgz2 := hgb z
          exfalso; omega
      · refine lv_aload_n hx hb dX4_next_11 rfl (lv_at hl 0 rfl) ?_
        refine x_get E hw (C := RX4) (T := TX4) (N := 23) hinX4 0 rfl rfl 0 (by decide) rfl (List.mem_of_getElem? (i := 3) rfl) dX4_next_12 ?_
        refine lv_aload_n hx hb dX4_next_15 rfl (lv_at hl 0 rfl) ?_
        refine x_get E hw (C := RX4) (T := TX4) (N := 23) hinX4 0 rfl rfl 16 (by decide) rfl (List.mem_of_getElem? (i := 1) rfl) dX4_next_16 ?_
        refine x_iald E hw 1 (a := xt) (v := (nI (gb z))) rfl rfl (show z < 200 by omega) (by omega) rfl dX4_next_19 ?_
        refine lv_bipush (v := (nI 32)) hx hb dX4_next_20 (by decide) ?_
        have hgz := hgb z
        refine x_icmp_ne E (nI_toI (show gb z < 2147483648 by omega)) (nI_toI (by decide)) (tgt := 38) dX4_next_22 (by decide) (fun c_8 => ?_) (fun c_8 => ?_)
        · have hsk : z = sk gb nb z0 := (skL_no (show ¬ (z < nb ∧ gb z = 32) by omega)).symm.trans hinv
          refine lv_aload_n hx hb dX4_next_38 rfl (lv_at hl 0 rfl) ?_
          refine lv_aload_n hx hb dX4_next_39 rfl (lv_at hl 0 rfl) ?_
          refine x_get E hw (C := RX4) (T := TX4) (N := 23) hinX4 0 rfl rfl 16 (by decide) rfl (List.mem_of_getElem? (i := 1) rfl) dX4_next_40 ?_
          refine x_put E hw (C := RX4) (T := TX4) (N := 23) (ws1 := [(x, .inr (4, [.ref xt, .int (nI nb), .int (nI pa), .int (nI pt), .int (nI off), .int (nI ha), .int (nI n), .ref xw, .ref xo, .ref xh, .int (nI nl), .ref xr, .int (nI ns), .ref xs, .ref xi, .long tr, .int (nI z), .int (nI z), .int u3, .long u4, .ref xd, .int u5, .ref xf])), (xt, .inl (cI G, 200, .inl (fI gb)))]) hinX4 tyX4_ok nmX4 0 rfl rfl 17 (by decide) (List.mem_of_getElem? (i := 4) rfl) rfl rfl rfl (Nat.le_of_ble_eq_true rfl) rfl dX4_next_43 (fun H locs hw => ?_)
          refine lv_aload_n hx hb dX4_next_46 rfl (lv_at hl 0 rfl) ?_
          refine lv_lconst (v := (lN 0)) hx hb dX4_next_47 (by decide) ?_
          refine x_put E hw (C := RX4) (T := TX4) (N := 23) (ws1 := [(x, .inr (4, [.ref xt, .int (nI nb), .int (nI pa), .int (nI pt), .int (nI off), .int (nI ha), .int (nI n), .ref xw, .ref xo, .ref xh, .int (nI nl), .ref xr, .int (nI ns), .ref xs, .ref xi, .long tr, .int (nI z), .int (nI z), .int u3, .long (lN 0), .ref xd, .int u5, .ref xf])), (xt, .inl (cI G, 200, .inl (fI gb)))]) hinX4 tyX4_ok nmX4 0 rfl rfl 19 (by decide) (List.mem_of_getElem? (i := 5) rfl) rfl rfl rfl (Nat.le_of_ble_eq_true rfl) rfl dX4_next_48 (fun H locs hw => ?_)
          refine lv_aload_n hx hb dX4_next_51 rfl (lv_at hl 0 rfl) ?_
          refine x_get E hw (C := RX4) (T := TX4) (N := 23) hinX4 0 rfl rfl 16 (by decide) rfl (List.mem_of_getElem? (i := 1) rfl) dX4_next_52 ?_
          refine lv_aload_n hx hb dX4_next_55 rfl (lv_at hl 0 rfl) ?_
          refine x_get E hw (C := RX4) (T := TX4) (N := 23) hinX4 0 rfl rfl 1 (by decide) rfl (List.mem_of_getElem? (i := 2) rfl) dX4_next_56 ?_
          refine x_icmp_ge E (nI_toI (show z < 2147483648 by omega)) (nI_toI (show nb < 2147483648 by omega)) (tgt := 74) dX4_next_59 (by decide) (fun c_9 => ?_) (fun c_9 => ?_)
          · have hNz : nb ≤ z := by omega
            refine lv_iconst (v := (-1 : Int32)) hx hb dX4_next_74 (by decide) ?_
            refine lv_istore_n (lv' := [(1, .int (-1 : Int32)), (0, .ref x)]) hx hb dX4_next_75 rfl hl (by decide) rfl (fun ls hl => ?_)
            refine lv_aload_n hx hb dX4_next_76 rfl (lv_at hl 1 rfl) ?_
            refine lv_iload_n hx hb dX4_next_77 rfl (lv_at hl 0 rfl) ?_
            refine x_if_ge E (show ((-1 : Int32)).toInt = -1 by decide) (tgt := 85) dX4_next_78 (by decide) (fun c_10 => ?_) (fun c_10 => ?_)
            · exact absurd c_10 (by decide)
            · refine lv_iconst (v := (nI 0)) hx hb dX4_next_81 (by decide) ?_
              refine lv_goto (tgt := 118) hx hb dX4_next_82 (by decide) ?_
              refine x_put E hw (C := RX4) (T := TX4) (N := 23) (ws1 := [(x, .inr (4, [.ref xt, .int (nI nb), .int (nI pa), .int (nI pt), .int (nI off), .int (nI ha), .int (nI n), .ref xw, .ref xo, .ref xh, .int (nI nl), .ref xr, .int (nI ns), .ref xs, .ref xi, .long tr, .int (nI z), .int (nI z), .int (nI 0), .long (lN 0), .ref xd, .int u5, .ref xf])), (xt, .inl (cI G, 200, .inl (fI gb)))]) hinX4 tyX4_ok nmX4 0 rfl rfl 18 (by decide) (List.mem_of_getElem? (i := 6) rfl) rfl rfl rfl (Nat.le_of_ble_eq_true rfl) rfl dX4_next_118 (fun H locs hw => ?_)
              refine lv_aload_n hx hb dX4_next_121 rfl (lv_at hl 1 rfl) ?_
              refine lv_dup hx hb dX4_next_122 rfl ?_
              refine x_get E hw (C := RX4) (T := TX4) (N := 23) hinX4 0 rfl rfl 16 (by decide) rfl (List.mem_of_getElem? (i := 1) rfl) dX4_next_123 ?_
              refine lv_aload_n hx hb dX4_next_126 rfl (lv_at hl 1 rfl) ?_
              refine x_get E hw (C := RX4) (T := TX4) (N := 23) hinX4 0 rfl rfl 18 (by decide) rfl (List.mem_of_getElem? (i := 6) rfl) dX4_next_127 ?_
              refine lv_iconst (v := (nI 3)) hx hb dX4_next_130 (by decide) ?_
              refine x_icmp_ne E (nI_toI (by decide)) (nI_toI (by decide)) (tgt := 138) dX4_next_131 (by decide) (fun c_11 => ?_) (fun c_11 => ?_)
              · refine lv_iconst (v := (nI 0)) hx hb dX4_next_138 (by decide) ?_
                refine x_iadd E (v := (nI z)) dX4_next_139 (nI_add _ 0) ?_
                refine x_put E hw (C := RX4) (T := TX4) (N := 23) (ws1 := [(x, .inr (4, [.ref xt, .int (nI nb), .int (nI pa), .int (nI pt), .int (nI off), .int (nI ha), .int (nI n), .ref xw, .ref xo, .ref xh, .int (nI nl), .ref xr, .int (nI ns), .ref xs, .ref xi, .long tr, .int (nI z), .int (nI z), .int (nI 0), .long (lN 0), .ref xd, .int u5, .ref xf])), (xt, .inl (cI G, 200, .inl (fI gb)))]) hinX4 tyX4_ok nmX4 0 rfl rfl 16 (by decide) (List.mem_of_getElem? (i := 1) rfl) rfl rfl rfl (Nat.le_of_ble_eq_true rfl) rfl dX4_next_140 (fun H locs hw => ?_)
                refine lv_aload_n hx hb dX4_next_143 rfl (lv_at hl 1 rfl) ?_
                refine x_get E hw (C := RX4) (T := TX4) (N := 23) hinX4 0 rfl rfl 18 (by decide) rfl (List.mem_of_getElem? (i := 6) rfl) dX4_next_144 ?_
                refine lv_iconst (v := (nI 1)) hx hb dX4_next_147 (by decide) ?_
                refine x_icmp_ne E (nI_toI (by decide)) (nI_toI (by decide)) (tgt := 237) dX4_next_148 (by decide) (fun c_12 => ?_) (fun c_12 => ?_)
                · refine lv_aload_n hx hb dX4_next_237 rfl (lv_at hl 1 rfl) ?_
                  refine x_get E hw (C := RX4) (T := TX4) (N := 23) hinX4 0 rfl rfl 18 (by decide) rfl (List.mem_of_getElem? (i := 6) rfl) dX4_next_238 ?_
                  refine lv_iconst (v := (nI 2)) hx hb dX4_next_241 (by decide) ?_
                  refine x_icmp_ne E (nI_toI (by decide)) (nI_toI (by decide)) (tgt := 330) dX4_next_242 (by decide) (fun c_13 => ?_) (fun c_13 => ?_)
                  · refine lv_aload_n hx hb dX4_next_330 rfl (lv_at hl 1 rfl) ?_
                    refine x_get E hw (C := RX4) (T := TX4) (N := 23) hinX4 0 rfl rfl 18 (by decide) rfl (List.mem_of_getElem? (i := 6) rfl) dX4_next_331 ?_
                    refine lv_iconst (v := (nI 2)) hx hb dX4_next_334 (by decide) ?_
                    refine x_icmp_ne E (nI_toI (by decide)) (nI_toI (by decide)) (tgt := 370) dX4_next_335 (by decide) (fun c_14 => ?_) (fun c_14 => ?_)
                    · have e1 : atM gb nb z = z := by unfold atM; rw [if_pos hNz]
                      have e2 : kdM gb nb z = 0 := by unfold kdM; rw [if_pos hNz]
                      have e3 : vlM gb nb z = lN 0 := by unfold vlM; rw [if_pos hNz]; rfl
                      exact hret () _ _ _ _ dX4_next_370 trivial (hw.cast (by rw [← hsk, e1, e2, e3]))
                    · exact absurd c_14 (by decide)
                  · exact absurd c_13 (by decide)
                · exact absurd c_12 (by decide)
              · exact absurd c_11 (by decide)
          · have hNz : ¬ nb ≤ z := by omega
            have hgz2 := hgb z
            refine lv_aload_n hx hb dX4_next_62 rfl (lv_at hl 0 rfl) ?_
            refine x_get E hw (C := RX4) (T := TX4) (N := 23) hinX4 0 rfl rfl 0 (by decide) rfl (List.mem_of_getElem? (i := 3) rfl) dX4_next_63 ?_
            refine lv_aload_n hx hb dX4_next_66 rfl (lv_at hl 0 rfl) ?_
            refine x_get E hw (C := RX4) (T := TX4) (N := 23) hinX4 0 rfl rfl 16 (by decide) rfl (List.mem_of_getElem? (i := 1) rfl) dX4_next_67 ?_
            refine x_iald E hw 1 (a := xt) (v := (nI (gb z))) rfl rfl (show z < 200 by omega) (by omega) rfl dX4_next_70 ?_
            refine lv_goto (tgt := 75) hx hb dX4_next_71 (by decide) ?_
            refine lv_istore_n (lv' := [(1, .int (nI (gb z))), (0, .ref x)]) hx hb dX4_next_75 rfl hl (by decide) rfl (fun ls hl => ?_)
            refine lv_aload_n hx hb dX4_next_76 rfl (lv_at hl 1 rfl) ?_
            refine lv_iload_n hx hb dX4_next_77 rfl (lv_at hl 0 rfl) ?_
            refine x_if_ge E (nI_toI (show gb z < 2147483648 by omega)) (tgt := 85) dX4_next_78 (by decide) (fun c_15 => ?_) (fun c_15 => ?_)
            · refine lv_iload_n hx hb dX4_next_85 rfl (lv_at hl 0 rfl) ?_
              refine x_cfSi E hw hl.1 (As := [.int (nI (gb z))]) (rest := [.ref x]) (c_X4_isLetter l G (gb z) (by omega)) 1 gX4_next_X4_isLetter rfl rfl rfl (by decide) ⟨Nat.le_of_ble_eq_true rfl, Nat.le_of_ble_eq_true rfl⟩ ⟨Nat.le_of_ble_eq_true rfl, Nat.le_of_ble_eq_true rfl⟩ rfl [] [0, 1] rfl rfl rfl rfl rfl [0, 1] [(x, .inr (4, [.ref xt, .int (nI nb), .int (nI pa), .int (nI pt), .int (nI off), .int (nI ha), .int (nI n), .ref xw, .ref xo, .ref xh, .int (nI nl), .ref xr, .int (nI ns), .ref xs, .ref xi, .long tr, .int (nI z), .int (nI z), .int u3, .long (lN 0), .ref xd, .int u5, .ref xf])), (xt, .inl (cI G, 200, .inl (fI gb)))] rfl rfl rfl (Nat.le_of_ble_eq_true rfl) dX4_next_86 (fun H locs hw => ?_)
              refine x_ifb_eq E (P := 97 ≤ (gb z) ∧ (gb z) ≤ 122) (tgt := 96) dX4_next_89 (by decide) (fun hlt0 => ?_) (fun hlt0 => ?_)
              · have hnl : ¬ (97 ≤ gb z ∧ gb z ≤ 122) := hlt0
                refine lv_iload_n hx hb dX4_next_96 rfl (lv_at hl 0 rfl) ?_
                refine x_cfSi E hw hl.1 (As := [.int (nI (gb z))]) (rest := [.ref x]) (c_X4_isFigure l G (gb z) (by omega)) 1 gX4_next_X4_isFigure rfl rfl rfl (by decide) ⟨Nat.le_of_ble_eq_true rfl, Nat.le_of_ble_eq_true rfl⟩ ⟨Nat.le_of_ble_eq_true rfl, Nat.le_of_ble_eq_true rfl⟩ rfl [] [0, 1] rfl rfl rfl rfl rfl [0, 1] [(x, .inr (4, [.ref xt, .int (nI nb), .int (nI pa), .int (nI pt), .int (nI off), .int (nI ha), .int (nI n), .ref xw, .ref xo, .ref xh, .int (nI nl), .ref xr, .int (nI ns), .ref xs, .ref xi, .long tr, .int (nI z), .int (nI z), .int u3, .long (lN 0), .ref xd, .int u5, .ref xf])), (xt, .inl (cI G, 200, .inl (fI gb)))] rfl rfl rfl (Nat.le_of_ble_eq_true rfl) dX4_next_97 (fun H locs hw => ?_)
                refine x_ifb_eq E (P := 48 ≤ (gb z) ∧ (gb z) ≤ 57) (tgt := 107) dX4_next_100 (by decide) (fun hdg0 => ?_) (fun hdg0 => ?_)
                · have hnd : ¬ (48 ≤ gb z ∧ gb z ≤ 57) := hdg0
                  refine lv_iload_n hx hb dX4_next_107 rfl (lv_at hl 0 rfl) ?_
                  refine lv_bipush (v := (nI 59)) hx hb dX4_next_108 (by decide) ?_
                  refine x_icmp_ne E (nI_toI (show gb z < 2147483648 by omega)) (nI_toI (by decide)) (tgt := 117) dX4_next_110 (by decide) (fun c_16 => ?_) (fun c_16 => ?_)
                  · have h59 : ¬ gb z = 59 := by omega
                    refine lv_iconst (v := (nI 4)) hx hb dX4_next_117 (by decide) ?_
                    refine x_put E hw (C := RX4) (T := TX4) (N := 23) (ws1 := [(x, .inr (4, [.ref xt, .int (nI nb), .int (nI pa), .int (nI pt), .int (nI off), .int (nI ha), .int (nI n), .ref xw, .ref xo, .ref xh, .int (nI nl), .ref xr, .int (nI ns), .ref xs, .ref xi, .long tr, .int (nI z), .int (nI z), .int (nI 4), .long (lN 0), .ref xd, .int u5, .ref xf])), (xt, .inl (cI G, 200, .inl (fI gb)))]) hinX4 tyX4_ok nmX4 0 rfl rfl 18 (by decide) (List.mem_of_getElem? (i := 6) rfl) rfl rfl rfl (Nat.le_of_ble_eq_true rfl) rfl dX4_next_118 (fun H locs hw => ?_)
                    refine lv_aload_n hx hb dX4_next_121 rfl (lv_at hl 1 rfl) ?_
                    refine lv_dup hx hb dX4_next_122 rfl ?_
                    refine x_get E hw (C := RX4) (T := TX4) (N := 23) hinX4 0 rfl rfl 16 (by decide) rfl (List.mem_of_getElem? (i := 1) rfl) dX4_next_123 ?_
                    refine lv_aload_n hx hb dX4_next_126 rfl (lv_at hl 1 rfl) ?_
                    refine x_get E hw (C := RX4) (T := TX4) (N := 23) hinX4 0 rfl rfl 18 (by decide) rfl (List.mem_of_getElem? (i := 6) rfl) dX4_next_127 ?_
                    refine lv_iconst (v := (nI 3)) hx hb dX4_next_130 (by decide) ?_
                    refine x_icmp_ne E (nI_toI (by decide)) (nI_toI (by decide)) (tgt := 138) dX4_next_131 (by decide) (fun c_17 => ?_) (fun c_17 => ?_)
                    · refine lv_iconst (v := (nI 0)) hx hb dX4_next_138 (by decide) ?_
                      refine x_iadd E (v := (nI z)) dX4_next_139 (nI_add _ 0) ?_
                      refine x_put E hw (C := RX4) (T := TX4) (N := 23) (ws1 := [(x, .inr (4, [.ref xt, .int (nI nb), .int (nI pa), .int (nI pt), .int (nI off), .int (nI ha), .int (nI n), .ref xw, .ref xo, .ref xh, .int (nI nl), .ref xr, .int (nI ns), .ref xs, .ref xi, .long tr, .int (nI z), .int (nI z), .int (nI 4), .long (lN 0), .ref xd, .int u5, .ref xf])), (xt, .inl (cI G, 200, .inl (fI gb)))]) hinX4 tyX4_ok nmX4 0 rfl rfl 16 (by decide) (List.mem_of_getElem? (i := 1) rfl) rfl rfl rfl (Nat.le_of_ble_eq_true rfl) rfl dX4_next_140 (fun H locs hw => ?_)
                      refine lv_aload_n hx hb dX4_next_143 rfl (lv_at hl 1 rfl) ?_
                      refine x_get E hw (C := RX4) (T := TX4) (N := 23) hinX4 0 rfl rfl 18 (by decide) rfl (List.mem_of_getElem? (i := 6) rfl) dX4_next_144 ?_
                      refine lv_iconst (v := (nI 1)) hx hb dX4_next_147 (by decide) ?_
                      refine x_icmp_ne E (nI_toI (by decide)) (nI_toI (by decide)) (tgt := 237) dX4_next_148 (by decide) (fun c_18 => ?_) (fun c_18 => ?_)
                      · refine lv_aload_n hx hb dX4_next_237 rfl (lv_at hl 1 rfl) ?_
                        refine x_get E hw (C := RX4) (T := TX4) (N := 23) hinX4 0 rfl rfl 18 (by decide) rfl (List.mem_of_getElem? (i := 6) rfl) dX4_next_238 ?_
                        refine lv_iconst (v := (nI 2)) hx hb dX4_next_241 (by decide) ?_
                        refine x_icmp_ne E (nI_toI (by decide)) (nI_toI (by decide)) (tgt := 330) dX4_next_242 (by decide) (fun c_19 => ?_) (fun c_19 => ?_)
                        · refine lv_aload_n hx hb dX4_next_330 rfl (lv_at hl 1 rfl) ?_
                          refine x_get E hw (C := RX4) (T := TX4) (N := 23) hinX4 0 rfl rfl 18 (by decide) rfl (List.mem_of_getElem? (i := 6) rfl) dX4_next_331 ?_
                          refine lv_iconst (v := (nI 2)) hx hb dX4_next_334 (by decide) ?_
                          refine x_icmp_ne E (nI_toI (by decide)) (nI_toI (by decide)) (tgt := 370) dX4_next_335 (by decide) (fun c_20 => ?_) (fun c_20 => ?_)
                          · have e1 : atM gb nb z = z := by unfold atM; rw [if_neg hNz, if_neg hnl, if_neg hnd, if_neg h59]
                            have e2 : kdM gb nb z = 4 := by unfold kdM; rw [if_neg hNz, if_neg hnl, if_neg hnd, if_neg h59]
                            have e3 : vlM gb nb z = lN 0 := by unfold vlM; rw [if_neg hNz, if_neg hnl, if_neg hnd]; rfl
                            exact hret () _ _ _ _ dX4_next_370 trivial (hw.cast (by rw [← hsk, e1, e2, e3]))
                          · exact absurd c_20 (by decide)
                        · exact absurd c_19 (by decide)
                      · exact absurd c_18 (by decide)
                    · exact absurd c_17 (by decide)
                  · have h59 : gb z = 59 := by omega
                    refine lv_iconst (v := (nI 3)) hx hb dX4_next_113 (by decide) ?_
                    refine lv_goto (tgt := 118) hx hb dX4_next_114 (by decide) ?_
                    refine x_put E hw (C := RX4) (T := TX4) (N := 23) (ws1 := [(x, .inr (4, [.ref xt, .int (nI nb), .int (nI pa), .int (nI pt), .int (nI off), .int (nI ha), .int (nI n), .ref xw, .ref xo, .ref xh, .int (nI nl), .ref xr, .int (nI ns), .ref xs, .ref xi, .long tr, .int (nI z), .int (nI z), .int (nI 3), .long (lN 0), .ref xd, .int u5, .ref xf])), (xt, .inl (cI G, 200, .inl (fI gb)))]) hinX4 tyX4_ok nmX4 0 rfl rfl 18 (by decide) (List.mem_of_getElem? (i := 6) rfl) rfl rfl rfl (Nat.le_of_ble_eq_true rfl) rfl dX4_next_118 (fun H locs hw => ?_)
                    refine lv_aload_n hx hb dX4_next_121 rfl (lv_at hl 1 rfl) ?_
                    refine lv_dup hx hb dX4_next_122 rfl ?_
                    refine x_get E hw (C := RX4) (T := TX4) (N := 23) hinX4 0 rfl rfl 16 (by decide) rfl (List.mem_of_getElem? (i := 1) rfl) dX4_next_123 ?_
                    refine lv_aload_n hx hb dX4_next_126 rfl (lv_at hl 1 rfl) ?_
                    refine x_get E hw (C := RX4) (T := TX4) (N := 23) hinX4 0 rfl rfl 18 (by decide) rfl (List.mem_of_getElem? (i := 6) rfl) dX4_next_127 ?_
                    refine lv_iconst (v := (nI 3)) hx hb dX4_next_130 (by decide) ?_
                    refine x_icmp_ne E (nI_toI (by decide)) (nI_toI (by decide)) (tgt := 138) dX4_next_131 (by decide) (fun c_21 => ?_) (fun c_21 => ?_)
                    · exact absurd c_21 (by decide)
                    · refine lv_iconst (v := (nI 1)) hx hb dX4_next_134 (by decide) ?_
                      refine lv_goto (tgt := 139) hx hb dX4_next_135 (by decide) ?_
                      refine x_iadd E (v := (nI (z + 1))) dX4_next_139 (nI_add _ 1) ?_
                      refine x_put E hw (C := RX4) (T := TX4) (N := 23) (ws1 := [(x, .inr (4, [.ref xt, .int (nI nb), .int (nI pa), .int (nI pt), .int (nI off), .int (nI ha), .int (nI n), .ref xw, .ref xo, .ref xh, .int (nI nl), .ref xr, .int (nI ns), .ref xs, .ref xi, .long tr, .int (nI (z + 1)), .int (nI z), .int (nI 3), .long (lN 0), .ref xd, .int u5, .ref xf])), (xt, .inl (cI G, 200, .inl (fI gb)))]) hinX4 tyX4_ok nmX4 0 rfl rfl 16 (by decide) (List.mem_of_getElem? (i := 1) rfl) rfl rfl rfl (Nat.le_of_ble_eq_true rfl) rfl dX4_next_140 (fun H locs hw => ?_)
                      refine lv_aload_n hx hb dX4_next_143 rfl (lv_at hl 1 rfl) ?_
                      refine x_get E hw (C := RX4) (T := TX4) (N := 23) hinX4 0 rfl rfl 18 (by decide) rfl (List.mem_of_getElem? (i := 6) rfl) dX4_next_144 ?_
                      refine lv_iconst (v := (nI 1)) hx hb dX4_next_147 (by decide) ?_
                      refine x_icmp_ne E (nI_toI (by decide)) (nI_toI (by decide)) (tgt := 237) dX4_next_148 (by decide) (fun c_22 => ?_) (fun c_22 => ?_)
                      · refine lv_aload_n hx hb dX4_next_237 rfl (lv_at hl 1 rfl) ?_
                        refine x_get E hw (C := RX4) (T := TX4) (N := 23) hinX4 0 rfl rfl 18 (by decide) rfl (List.mem_of_getElem? (i := 6) rfl) dX4_next_238 ?_
                        refine lv_iconst (v := (nI 2)) hx hb dX4_next_241 (by decide) ?_
                        refine x_icmp_ne E (nI_toI (by decide)) (nI_toI (by decide)) (tgt := 330) dX4_next_242 (by decide) (fun c_23 => ?_) (fun c_23 => ?_)
                        · refine lv_aload_n hx hb dX4_next_330 rfl (lv_at hl 1 rfl) ?_
                          refine x_get E hw (C := RX4) (T := TX4) (N := 23) hinX4 0 rfl rfl 18 (by decide) rfl (List.mem_of_getElem? (i := 6) rfl) dX4_next_331 ?_
                          refine lv_iconst (v := (nI 2)) hx hb dX4_next_334 (by decide) ?_
                          refine x_icmp_ne E (nI_toI (by decide)) (nI_toI (by decide)) (tgt := 370) dX4_next_335 (by decide) (fun c_24 => ?_) (fun c_24 => ?_)
                          · have e1 : atM gb nb z = z + 1 := by unfold atM; rw [if_neg hNz, if_neg hnl, if_neg hnd, if_pos h59]
                            have e2 : kdM gb nb z = 3 := by unfold kdM; rw [if_neg hNz, if_neg hnl, if_neg hnd, if_pos h59]
                            have e3 : vlM gb nb z = lN 0 := by unfold vlM; rw [if_neg hNz, if_neg hnl, if_neg hnd]; rfl
                            exact hret () _ _ _ _ dX4_next_370 trivial (hw.cast (by rw [← hsk, e1, e2, e3]))
                          · exact absurd c_24 (by decide)
                        · exact absurd c_23 (by decide)
                      · exact absurd c_22 (by decide)
                · have hdg : 48 ≤ gb z ∧ gb z ≤ 57 := hdg0
                  refine lv_iconst (v := (nI 2)) hx hb dX4_next_103 (by decide) ?_
                  refine lv_goto (tgt := 118) hx hb dX4_next_104 (by decide) ?_
                  refine x_put E hw (C := RX4) (T := TX4) (N := 23) (ws1 := [(x, .inr (4, [.ref xt, .int (nI nb), .int (nI pa), .int (nI pt), .int (nI off), .int (nI ha), .int (nI n), .ref xw, .ref xo, .ref xh, .int (nI nl), .ref xr, .int (nI ns), .ref xs, .ref xi, .long tr, .int (nI z), .int (nI z), .int (nI 2), .long (lN 0), .ref xd, .int u5, .ref xf])), (xt, .inl (cI G, 200, .inl (fI gb)))]) hinX4 tyX4_ok nmX4 0 rfl rfl 18 (by decide) (List.mem_of_getElem? (i := 6) rfl) rfl rfl rfl (Nat.le_of_ble_eq_true rfl) rfl dX4_next_118 (fun H locs hw => ?_)
                  refine lv_aload_n hx hb dX4_next_121 rfl (lv_at hl 1 rfl) ?_
                  refine lv_dup hx hb dX4_next_122 rfl ?_
                  refine x_get E hw (C := RX4) (T := TX4) (N := 23) hinX4 0 rfl rfl 16 (by decide) rfl (List.mem_of_getElem? (i := 1) rfl) dX4_next_123 ?_
                  refine lv_aload_n hx hb dX4_next_126 rfl (lv_at hl 1 rfl) ?_
                  refine x_get E hw (C := RX4) (T := TX4) (N := 23) hinX4 0 rfl rfl 18 (by decide) rfl (List.mem_of_getElem? (i := 6) rfl) dX4_next_127 ?_
                  refine lv_iconst (v := (nI 3)) hx hb dX4_next_130 (by decide) ?_
                  refine x_icmp_ne E (nI_toI (by decide)) (nI_toI (by decide)) (tgt := 138) dX4_next_131 (by decide) (fun c_25 => ?_) (fun c_25 => ?_)
                  · refine lv_iconst (v := (nI 0)) hx hb dX4_next_138 (by decide) ?_
                    refine x_iadd E (v := (nI z)) dX4_next_139 (nI_add _ 0) ?_
                    refine x_put E hw (C := RX4) (T := TX4) (N := 23) (ws1 := [(x, .inr (4, [.ref xt, .int (nI nb), .int (nI pa), .int (nI pt), .int (nI off), .int (nI ha), .int (nI n), .ref xw, .ref xo, .ref xh, .int (nI nl), .ref xr, .int (nI ns), .ref xs, .ref xi, .long tr, .int (nI z), .int (nI z), .int (nI 2), .long (lN 0), .ref xd, .int u5, .ref xf])), (xt, .inl (cI G, 200, .inl (fI gb)))]) hinX4 tyX4_ok nmX4 0 rfl rfl 16 (by decide) (List.mem_of_getElem? (i := 1) rfl) rfl rfl rfl (Nat.le_of_ble_eq_true rfl) rfl dX4_next_140 (fun H locs hw => ?_)
                    refine lv_aload_n hx hb dX4_next_143 rfl (lv_at hl 1 rfl) ?_
                    refine x_get E hw (C := RX4) (T := TX4) (N := 23) hinX4 0 rfl rfl 18 (by decide) rfl (List.mem_of_getElem? (i := 6) rfl) dX4_next_144 ?_
                    refine lv_iconst (v := (nI 1)) hx hb dX4_next_147 (by decide) ?_
                    refine x_icmp_ne E (nI_toI (by decide)) (nI_toI (by decide)) (tgt := 237) dX4_next_148 (by decide) (fun c_26 => ?_) (fun c_26 => ?_)
                    · have loop_237 : ∀ (fu : Nat) (i : Nat) (v : Nat), z ≤ i → i ≤ nb → drL gb nb (nb - i) i = dr gb nb z → nmM gb nb z (nb - i) i v = nvM gb nb z → (i - z = 0 → v = 0) → (i - z = 1 → v ≤ 9) → v ≤ 1000 → nb - i < fu → ∀ (H : Heap) (locs : List Loc) (ls : Array Slot), Wd G s A [(x, .inr (4, [.ref xt, .int (nI nb), .int (nI pa), .int (nI pt), .int (nI off), .int (nI ha), .int (nI n), .ref xw, .ref xo, .ref xh, .int (nI nl), .ref xr, .int (nI ns), .ref xs, .ref xi, .long tr, .int (nI i), .int (nI z), .int (nI 2), .long (lN v), .ref xd, .int u5, .ref xf])), (xt, .inl (cI G, 200, .inl (fI gb)))] H locs → lv_has ls 2 [(0, .ref x)] → W p l e rm_X4_next s m args below meth c H locs 0 0 Q (F0 m 237 ls []) := by
                        intro fu
                        induction fu with
                        | zero =>
                          intro i v hi hiN hinv1 hnum hv0 hv1 hv hmu
                          exact absurd hmu (Nat.not_lt_zero _)
                        | succ fu ih_237 =>
                          intro i v hi hiN hinv1 hnum hv0 hv1 hv hmu_237 H locs ls hw hl
                          refine lv_aload_n hx hb dX4_next_237 rfl (lv_at hl 0 rfl) ?_
                          refine x_get E hw (C := RX4) (T := TX4) (N := 23) hinX4 0 rfl rfl 18 (by decide) rfl (List.mem_of_getElem? (i := 6) rfl) dX4_next_238 ?_
                          refine lv_iconst (v := (nI 2)) hx hb dX4_next_241 (by decide) ?_
                          refine x_icmp_ne E (nI_toI (by decide)) (nI_toI (by decide)) (tgt := 330) dX4_next_242 (by decide) (fun c_27 => ?_) (fun c_27 => ?_)
                          · exact absurd c_27 (by decide)
                          · refine lv_aload_n hx hb dX4_next_245 rfl (lv_at hl 0 rfl) ?_
                            refine x_get E hw (C := RX4) (T := TX4) (N := 23) hinX4 0 rfl rfl 16 (by decide) rfl (List.mem_of_getElem? (i := 1) rfl) dX4_next_246 ?_
                            refine lv_aload_n hx hb dX4_next_249 rfl (lv_at hl 0 rfl) ?_
                            refine x_get E hw (C := RX4) (T := TX4) (N := 23) hinX4 0 rfl rfl 1 (by decide) rfl (List.mem_of_getElem? (i := 2) rfl) dX4_next_250 ?_
                            refine x_icmp_ge E (nI_toI (show i < 2147483648 by omega)) (nI_toI (show nb < 2147483648 by omega)) (tgt := 330) dX4_next_253 (by decide) (fun c_28 => ?_) (fun c_28 => ?_)
                            · have hil : ¬ (i < nb ∧ 48 ≤ gb i ∧ gb i ≤ 57) := by omega
                              have hdr : dr gb nb z = i := hinv1.symm.trans (drL_no hil)
                              have hnv : nvM gb nb z = v := hnum.symm.trans (nmM_no hil)
                              refine lv_aload_n hx hb dX4_next_330 rfl (lv_at hl 0 rfl) ?_
                              refine x_get E hw (C := RX4) (T := TX4) (N := 23) hinX4 0 rfl rfl 18 (by decide) rfl (List.mem_of_getElem? (i := 6) rfl) dX4_next_331 ?_
                              refine lv_iconst (v := (nI 2)) hx hb dX4_next_334 (by decide) ?_
                              refine x_icmp_ne E (nI_toI (by decide)) (nI_toI (by decide)) (tgt := 370) dX4_next_335 (by decide) (fun c_29 => ?_) (fun c_29 => ?_)
                              · exact absurd c_29 (by decide)
                              · refine lv_aload_n hx hb dX4_next_338 rfl (lv_at hl 0 rfl) ?_
                                refine x_get E hw (C := RX4) (T := TX4) (N := 23) hinX4 0 rfl rfl 0 (by decide) rfl (List.mem_of_getElem? (i := 3) rfl) dX4_next_339 ?_
                                refine lv_aload_n hx hb dX4_next_342 rfl (lv_at hl 0 rfl) ?_
                                refine x_get E hw (C := RX4) (T := TX4) (N := 23) hinX4 0 rfl rfl 17 (by decide) rfl (List.mem_of_getElem? (i := 4) rfl) dX4_next_343 ?_
                                refine x_iald E hw 1 (a := xt) (v := (nI (gb z))) rfl rfl (show z < 200 by omega) (by omega) rfl dX4_next_346 ?_
                                refine lv_bipush (v := (nI 48)) hx hb dX4_next_347 (by decide) ?_
                                refine x_icmp_ne E (nI_toI (show gb z < 2147483648 by omega)) (nI_toI (by decide)) (tgt := 370) dX4_next_349 (by decide) (fun c_30 => ?_) (fun c_30 => ?_)
                                · have e1 : atM gb nb z = i := by unfold atM; rw [if_neg hNz, if_neg hnl, if_pos hdg, hdr]
                                  have e3 : vlM gb nb z = lN v := by unfold vlM; rw [if_neg hNz, if_neg hnl, if_pos hdg, hnv]
                                  have e2 : kdM gb nb z = 2 := by unfold kdM; rw [if_neg hNz, if_neg hnl, if_pos hdg, hdr, if_neg (by omega)]
                                  exact hret () _ _ _ _ dX4_next_370 trivial (hw.cast (by rw [← hsk, e1, e2, e3]))
                                · refine lv_aload_n hx hb dX4_next_352 rfl (lv_at hl 0 rfl) ?_
                                  refine x_get E hw (C := RX4) (T := TX4) (N := 23) hinX4 0 rfl rfl 16 (by decide) rfl (List.mem_of_getElem? (i := 1) rfl) dX4_next_353 ?_
                                  refine lv_aload_n hx hb dX4_next_356 rfl (lv_at hl 0 rfl) ?_
                                  refine x_get E hw (C := RX4) (T := TX4) (N := 23) hinX4 0 rfl rfl 17 (by decide) rfl (List.mem_of_getElem? (i := 4) rfl) dX4_next_357 ?_
                                  refine x_isub E (v := (nI (i - z))) dX4_next_360 (pk_sub (by omega)) ?_
                                  refine lv_iconst (v := (nI 1)) hx hb dX4_next_361 (by decide) ?_
                                  refine x_icmp_le E (nI_toI (show i - z < 2147483648 by omega)) (nI_toI (by decide)) (tgt := 370) dX4_next_362 (by decide) (fun c_31 => ?_) (fun c_31 => ?_)
                                  · have e1 : atM gb nb z = i := by unfold atM; rw [if_neg hNz, if_neg hnl, if_pos hdg, hdr]
                                    have e3 : vlM gb nb z = lN v := by unfold vlM; rw [if_neg hNz, if_neg hnl, if_pos hdg, hnv]
                                    have e2 : kdM gb nb z = 2 := by unfold kdM; rw [if_neg hNz, if_neg hnl, if_pos hdg, hdr, if_neg (by omega)]
                                    exact hret () _ _ _ _ dX4_next_370 trivial (hw.cast (by rw [← hsk, e1, e2, e3]))
                                  · refine lv_aload_n hx hb dX4_next_365 rfl (lv_at hl 0 rfl) ?_
                                    refine lv_iconst (v := (nI 4)) hx hb dX4_next_366 (by decide) ?_
                                    refine x_put E hw (C := RX4) (T := TX4) (N := 23) (ws1 := [(x, .inr (4, [.ref xt, .int (nI nb), .int (nI pa), .int (nI pt), .int (nI off), .int (nI ha), .int (nI n), .ref xw, .ref xo, .ref xh, .int (nI nl), .ref xr, .int (nI ns), .ref xs, .ref xi, .long tr, .int (nI i), .int (nI z), .int (nI 4), .long (lN v), .ref xd, .int u5, .ref xf])), (xt, .inl (cI G, 200, .inl (fI gb)))]) hinX4 tyX4_ok nmX4 0 rfl rfl 18 (by decide) (List.mem_of_getElem? (i := 6) rfl) rfl rfl rfl (Nat.le_of_ble_eq_true rfl) rfl dX4_next_367 (fun H locs hw => ?_)
                                    have e1 : atM gb nb z = i := by unfold atM; rw [if_neg hNz, if_neg hnl, if_pos hdg, hdr]
                                    have e3 : vlM gb nb z = lN v := by unfold vlM; rw [if_neg hNz, if_neg hnl, if_pos hdg, hnv]
                                    have e2 : kdM gb nb z = 4 := by unfold kdM; rw [if_neg hNz, if_neg hnl, if_pos hdg, hdr, if_pos (by omega)]
                                    exact hret () _ _ _ _ dX4_next_370 trivial (hw.cast (by rw [← hsk, e1, e2, e3]))
                            · refine lv_aload_n hx hb dX4_next_256 rfl (lv_at hl 0 rfl) ?_
                              refine x_get E hw (C := RX4) (T := TX4) (N := 23) hinX4 0 rfl rfl 0 (by decide) rfl (List.mem_of_getElem? (i := 3) rfl) dX4_next_257 ?_
                              refine lv_aload_n hx hb dX4_next_260 rfl (lv_at hl 0 rfl) ?_
                              refine x_get E hw (C := RX4) (T := TX4) (N := 23) hinX4 0 rfl rfl 16 (by decide) rfl (List.mem_of_getElem? (i := 1) rfl) dX4_next_261 ?_
                              refine x_iald E hw 1 (a := xt) (v := (nI (gb i))) rfl rfl (show i < 200 by omega) (by omega) rfl dX4_next_264 ?_
                              have hgi := hgb i
                              refine x_cfSi E hw hl.1 (As := [.int (nI (gb i))]) (rest := []) (c_X4_isFigure l G (gb i) (by omega)) 1 gX4_next_X4_isFigure rfl rfl rfl (by decide) ⟨Nat.le_of_ble_eq_true rfl, Nat.le_of_ble_eq_true rfl⟩ ⟨Nat.le_of_ble_eq_true rfl, Nat.le_of_ble_eq_true rfl⟩ rfl [] [0, 1] rfl rfl rfl rfl rfl [0, 1] [(x, .inr (4, [.ref xt, .int (nI nb), .int (nI pa), .int (nI pt), .int (nI off), .int (nI ha), .int (nI n), .ref xw, .ref xo, .ref xh, .int (nI nl), .ref xr, .int (nI ns), .ref xs, .ref xi, .long tr, .int (nI i), .int (nI z), .int (nI 2), .long (lN v), .ref xd, .int u5, .ref xf])), (xt, .inl (cI G, 200, .inl (fI gb)))] rfl rfl rfl (Nat.le_of_ble_eq_true rfl) dX4_next_265 (fun H locs hw => ?_)
                              refine x_ifb_eq E (P := 48 ≤ (gb i) ∧ (gb i) ≤ 57) (tgt := 330) dX4_next_268 (by decide) (fun c_32 => ?_) (fun c_32 => ?_)
                              · have hil : ¬ (i < nb ∧ 48 ≤ gb i ∧ gb i ≤ 57) := by omega
                                have hdr : dr gb nb z = i := hinv1.symm.trans (drL_no hil)
                                have hnv : nvM gb nb z = v := hnum.symm.trans (nmM_no hil)
                                refine lv_aload_n hx hb dX4_next_330 rfl (lv_at hl 0 rfl) ?_
                                refine x_get E hw (C := RX4) (T := TX4) (N := 23) hinX4 0 rfl rfl 18 (by decide) rfl (List.mem_of_getElem? (i := 6) rfl) dX4_next_331 ?_
                                refine lv_iconst (v := (nI 2)) hx hb dX4_next_334 (by decide) ?_
                                refine x_icmp_ne E (nI_toI (by decide)) (nI_toI (by decide)) (tgt := 370) dX4_next_335 (by decide) (fun c_33 => ?_) (fun c_33 => ?_)
                                · exact absurd c_33 (by decide)
                                · refine lv_aload_n hx hb dX4_next_338 rfl (lv_at hl 0 rfl) ?_
                                  refine x_get E hw (C := RX4) (T := TX4) (N := 23) hinX4 0 rfl rfl 0 (by decide) rfl (List.mem_of_getElem? (i := 3) rfl) dX4_next_339 ?_
                                  refine lv_aload_n hx hb dX4_next_342 rfl (lv_at hl 0 rfl) ?_
                                  refine x_get E hw (C := RX4) (T := TX4) (N := 23) hinX4 0 rfl rfl 17 (by decide) rfl (List.mem_of_getElem? (i := 4) rfl) dX4_next_343 ?_
                                  refine x_iald E hw 1 (a := xt) (v := (nI (gb z))) rfl rfl (show z < 200 by omega) (by omega) rfl dX4_next_346 ?_
                                  refine lv_bipush (v := (nI 48)) hx hb dX4_next_347 (by decide) ?_
                                  refine x_icmp_ne E (nI_toI (show gb z < 2147483648 by omega)) (nI_toI (by decide)) (tgt := 370) dX4_next_349 (by decide) (fun c_34 => ?_) (fun c_34 => ?_)
                                  · have e1 : atM gb nb z = i := by unfold atM; rw [if_neg hNz, if_neg hnl, if_pos hdg, hdr]
                                    have e3 : vlM gb nb z = lN v := by unfold vlM; rw [if_neg hNz, if_neg hnl, if_pos hdg, hnv]
                                    have e2 : kdM gb nb z = 2 := by unfold kdM; rw [if_neg hNz, if_neg hnl, if_pos hdg, hdr, if_neg (by omega)]
                                    exact hret () _ _ _ _ dX4_next_370 trivial (hw.cast (by rw [← hsk, e1, e2, e3]))
                                  · refine lv_aload_n hx hb dX4_next_352 rfl (lv_at hl 0 rfl) ?_
                                    refine x_get E hw (C := RX4) (T := TX4) (N := 23) hinX4 0 rfl rfl 16 (by decide) rfl (List.mem_of_getElem? (i := 1) rfl) dX4_next_353 ?_
                                    refine lv_aload_n hx hb dX4_next_356 rfl (lv_at hl 0 rfl) ?_
                                    refine x_get E hw (C := RX4) (T := TX4) (N := 23) hinX4 0 rfl rfl 17 (by decide) rfl (List.mem_of_getElem? (i := 4) rfl) dX4_next_357 ?_
                                    refine x_isub E (v := (nI (i - z))) dX4_next_360 (pk_sub (by omega)) ?_
                                    refine lv_iconst (v := (nI 1)) hx hb dX4_next_361 (by decide) ?_
                                    refine x_icmp_le E (nI_toI (show i - z < 2147483648 by omega)) (nI_toI (by decide)) (tgt := 370) dX4_next_362 (by decide) (fun c_35 => ?_) (fun c_35 => ?_)
                                    · have e1 : atM gb nb z = i := by unfold atM; rw [if_neg hNz, if_neg hnl, if_pos hdg, hdr]
                                      have e3 : vlM gb nb z = lN v := by unfold vlM; rw [if_neg hNz, if_neg hnl, if_pos hdg, hnv]
                                      have e2 : kdM gb nb z = 2 := by unfold kdM; rw [if_neg hNz, if_neg hnl, if_pos hdg, hdr, if_neg (by omega)]
                                      exact hret () _ _ _ _ dX4_next_370 trivial (hw.cast (by rw [← hsk, e1, e2, e3]))
                                    · refine lv_aload_n hx hb dX4_next_365 rfl (lv_at hl 0 rfl) ?_
                                      refine lv_iconst (v := (nI 4)) hx hb dX4_next_366 (by decide) ?_
                                      refine x_put E hw (C := RX4) (T := TX4) (N := 23) (ws1 := [(x, .inr (4, [.ref xt, .int (nI nb), .int (nI pa), .int (nI pt), .int (nI off), .int (nI ha), .int (nI n), .ref xw, .ref xo, .ref xh, .int (nI nl), .ref xr, .int (nI ns), .ref xs, .ref xi, .long tr, .int (nI i), .int (nI z), .int (nI 4), .long (lN v), .ref xd, .int u5, .ref xf])), (xt, .inl (cI G, 200, .inl (fI gb)))]) hinX4 tyX4_ok nmX4 0 rfl rfl 18 (by decide) (List.mem_of_getElem? (i := 6) rfl) rfl rfl rfl (Nat.le_of_ble_eq_true rfl) rfl dX4_next_367 (fun H locs hw => ?_)
                                      have e1 : atM gb nb z = i := by unfold atM; rw [if_neg hNz, if_neg hnl, if_pos hdg, hdr]
                                      have e3 : vlM gb nb z = lN v := by unfold vlM; rw [if_neg hNz, if_neg hnl, if_pos hdg, hnv]
                                      have e2 : kdM gb nb z = 4 := by unfold kdM; rw [if_neg hNz, if_neg hnl, if_pos hdg, hdr, if_pos (by omega)]
                                      exact hret () _ _ _ _ dX4_next_370 trivial (hw.cast (by rw [← hsk, e1, e2, e3]))
                              · have hil : i < nb ∧ 48 ≤ gb i ∧ gb i ≤ 57 := by omega
                                refine lv_aload_n hx hb dX4_next_271 rfl (lv_at hl 0 rfl) ?_
                                refine lv_aload_n hx hb dX4_next_272 rfl (lv_at hl 0 rfl) ?_
                                refine x_get E hw (C := RX4) (T := TX4) (N := 23) hinX4 0 rfl rfl 16 (by decide) rfl (List.mem_of_getElem? (i := 1) rfl) dX4_next_273 ?_
                                refine lv_aload_n hx hb dX4_next_276 rfl (lv_at hl 0 rfl) ?_
                                refine x_get E hw (C := RX4) (T := TX4) (N := 23) hinX4 0 rfl rfl 17 (by decide) rfl (List.mem_of_getElem? (i := 4) rfl) dX4_next_277 ?_
                                refine x_isub E (v := (nI (i - z))) dX4_next_280 (pk_sub (by omega)) ?_
                                refine lv_iconst (v := (nI 2)) hx hb dX4_next_281 (by decide) ?_
                                refine x_icmp_ge E (nI_toI (show i - z < 2147483648 by omega)) (nI_toI (by decide)) (tgt := 311) dX4_next_282 (by decide) (fun c_36 => ?_) (fun c_36 => ?_)
                                · refine lv_ldc2 (v := (1000)) hx hb E.2.2.2.1 (E.2.2.2.2 _ (List.mem_of_getElem? (i := 12) rfl)) dX4_next_311 ?_
                                  refine x_topl (v := lN 1000) (by decide) ?_
                                  refine x_put E hw (C := RX4) (T := TX4) (N := 23) (ws1 := [(x, .inr (4, [.ref xt, .int (nI nb), .int (nI pa), .int (nI pt), .int (nI off), .int (nI ha), .int (nI n), .ref xw, .ref xo, .ref xh, .int (nI nl), .ref xr, .int (nI ns), .ref xs, .ref xi, .long tr, .int (nI i), .int (nI z), .int (nI 2), .long (lN 1000), .ref xd, .int u5, .ref xf])), (xt, .inl (cI G, 200, .inl (fI gb)))]) hinX4 tyX4_ok nmX4 0 rfl rfl 19 (by decide) (List.mem_of_getElem? (i := 5) rfl) rfl rfl rfl (Nat.le_of_ble_eq_true rfl) rfl dX4_next_314 (fun H locs hw => ?_)
                                  refine lv_aload_n hx hb dX4_next_317 rfl (lv_at hl 0 rfl) ?_
                                  refine lv_dup hx hb dX4_next_318 rfl ?_
                                  refine x_get E hw (C := RX4) (T := TX4) (N := 23) hinX4 0 rfl rfl 16 (by decide) rfl (List.mem_of_getElem? (i := 1) rfl) dX4_next_319 ?_
                                  refine lv_iconst (v := (nI 1)) hx hb dX4_next_322 (by decide) ?_
                                  refine x_iadd E (v := (nI (i + 1))) dX4_next_323 (nI_add _ _) ?_
                                  refine x_put E hw (C := RX4) (T := TX4) (N := 23) (ws1 := [(x, .inr (4, [.ref xt, .int (nI nb), .int (nI pa), .int (nI pt), .int (nI off), .int (nI ha), .int (nI n), .ref xw, .ref xo, .ref xh, .int (nI nl), .ref xr, .int (nI ns), .ref xs, .ref xi, .long tr, .int (nI (i + 1)), .int (nI z), .int (nI 2), .long (lN 1000), .ref xd, .int u5, .ref xf])), (xt, .inl (cI G, 200, .inl (fI gb)))]) hinX4 tyX4_ok nmX4 0 rfl rfl 16 (by decide) (List.mem_of_getElem? (i := 1) rfl) rfl rfl rfl (Nat.le_of_ble_eq_true rfl) rfl dX4_next_324 (fun H locs hw => ?_)
                                  refine lv_goto (tgt := 237) hx hb dX4_next_327 (by decide) ?_
                                  exact ih_237 (i + 1) 1000 (by omega) (by omega) ((drL_yes hil).symm.trans hinv1) (by rw [← hnum, nmM_yes hil, if_neg (by omega)]) (by omega) (by omega) (by omega) (by omega) _ _ _ hw (lv_sub hl [0] rfl)
                                · refine lv_ldc2 (v := (10)) hx hb E.2.2.2.1 (E.2.2.2.2 _ (List.mem_of_getElem? (i := 10) rfl)) dX4_next_285 ?_
                                  refine x_topl (v := lN 10) (by decide) ?_
                                  refine lv_aload_n hx hb dX4_next_288 rfl (lv_at hl 0 rfl) ?_
                                  refine x_get E hw (C := RX4) (T := TX4) (N := 23) hinX4 0 rfl rfl 19 (by decide) rfl (List.mem_of_getElem? (i := 5) rfl) dX4_next_289 ?_
                                  refine x_lmul E (v := (lN (10 * v))) dX4_next_292 (lN_mul _ _) ?_
                                  refine lv_aload_n hx hb dX4_next_293 rfl (lv_at hl 0 rfl) ?_
                                  refine x_get E hw (C := RX4) (T := TX4) (N := 23) hinX4 0 rfl rfl 0 (by decide) rfl (List.mem_of_getElem? (i := 3) rfl) dX4_next_294 ?_
                                  refine lv_aload_n hx hb dX4_next_297 rfl (lv_at hl 0 rfl) ?_
                                  refine x_get E hw (C := RX4) (T := TX4) (N := 23) hinX4 0 rfl rfl 16 (by decide) rfl (List.mem_of_getElem? (i := 1) rfl) dX4_next_298 ?_
                                  refine x_iald E hw 1 (a := xt) (v := (nI (gb i))) rfl rfl (show i < 200 by omega) (by omega) rfl dX4_next_301 ?_
                                  refine lv_i2l (v := (lN (gb i))) hx hb dX4_next_302 (nI_l (by omega)) ?_
                                  refine x_ladd E (v := (lN ((10 * v) + (gb i)))) dX4_next_303 (lN_add _ _) ?_
                                  refine lv_ldc2 (v := (48)) hx hb E.2.2.2.1 (E.2.2.2.2 _ (List.mem_of_getElem? (i := 11) rfl)) dX4_next_304 ?_
                                  refine x_topl (v := lN 48) (by decide) ?_
                                  refine x_lsub E (v := (lN (((10 * v) + (gb i)) - 48))) dX4_next_307 (lN_sub (by omega)) ?_
                                  refine lv_goto (tgt := 314) hx hb dX4_next_308 (by decide) ?_
                                  refine x_put E hw (C := RX4) (T := TX4) (N := 23) (ws1 := [(x, .inr (4, [.ref xt, .int (nI nb), .int (nI pa), .int (nI pt), .int (nI off), .int (nI ha), .int (nI n), .ref xw, .ref xo, .ref xh, .int (nI nl), .ref xr, .int (nI ns), .ref xs, .ref xi, .long tr, .int (nI i), .int (nI z), .int (nI 2), .long (lN (((10 * v) + (gb i)) - 48)), .ref xd, .int u5, .ref xf])), (xt, .inl (cI G, 200, .inl (fI gb)))]) hinX4 tyX4_ok nmX4 0 rfl rfl 19 (by decide) (List.mem_of_getElem? (i := 5) rfl) rfl rfl rfl (Nat.le_of_ble_eq_true rfl) rfl dX4_next_314 (fun H locs hw => ?_)
                                  refine lv_aload_n hx hb dX4_next_317 rfl (lv_at hl 0 rfl) ?_
                                  refine lv_dup hx hb dX4_next_318 rfl ?_
                                  refine x_get E hw (C := RX4) (T := TX4) (N := 23) hinX4 0 rfl rfl 16 (by decide) rfl (List.mem_of_getElem? (i := 1) rfl) dX4_next_319 ?_
                                  refine lv_iconst (v := (nI 1)) hx hb dX4_next_322 (by decide) ?_
                                  refine x_iadd E (v := (nI (i + 1))) dX4_next_323 (nI_add _ _) ?_
                                  refine x_put E hw (C := RX4) (T := TX4) (N := 23) (ws1 := [(x, .inr (4, [.ref xt, .int (nI nb), .int (nI pa), .int (nI pt), .int (nI off), .int (nI ha), .int (nI n), .ref xw, .ref xo, .ref xh, .int (nI nl), .ref xr, .int (nI ns), .ref xs, .ref xi, .long tr, .int (nI (i + 1)), .int (nI z), .int (nI 2), .long (lN (((10 * v) + (gb i)) - 48)), .ref xd, .int u5, .ref xf])), (xt, .inl (cI G, 200, .inl (fI gb)))]) hinX4 tyX4_ok nmX4 0 rfl rfl 16 (by decide) (List.mem_of_getElem? (i := 1) rfl) rfl rfl rfl (Nat.le_of_ble_eq_true rfl) rfl dX4_next_324 (fun H locs hw => ?_)
                                  refine lv_goto (tgt := 237) hx hb dX4_next_327 (by decide) ?_
                                  exact ih_237 (i + 1) (10 * v + gb i - 48) (by omega) (by omega) ((drL_yes hil).symm.trans hinv1) (by rw [← hnum, nmM_yes hil, if_pos (by omega)]) (by omega) (by omega) (by omega) (by omega) _ _ _ hw (lv_sub hl [0] rfl)
                      exact loop_237 (nb - z + 1) z 0 (by omega) (by omega) rfl rfl (by omega) (by omega) (by omega) (Nat.lt_succ_self _) _ _ _ hw (lv_sub hl [1] rfl)
                    · exact absurd c_26 (by decide)
                  · exact absurd c_25 (by decide)
              · have hlt : 97 ≤ gb z ∧ gb z ≤ 122 := hlt0
                refine lv_iconst (v := (nI 1)) hx hb dX4_next_92 (by decide) ?_
                refine lv_goto (tgt := 118) hx hb dX4_next_93 (by decide) ?_
                refine x_put E hw (C := RX4) (T := TX4) (N := 23) (ws1 := [(x, .inr (4, [.ref xt, .int (nI nb), .int (nI pa), .int (nI pt), .int (nI off), .int (nI ha), .int (nI n), .ref xw, .ref xo, .ref xh, .int (nI nl), .ref xr, .int (nI ns), .ref xs, .ref xi, .long tr, .int (nI z), .int (nI z), .int (nI 1), .long (lN 0), .ref xd, .int u5, .ref xf])), (xt, .inl (cI G, 200, .inl (fI gb)))]) hinX4 tyX4_ok nmX4 0 rfl rfl 18 (by decide) (List.mem_of_getElem? (i := 6) rfl) rfl rfl rfl (Nat.le_of_ble_eq_true rfl) rfl dX4_next_118 (fun H locs hw => ?_)
                refine lv_aload_n hx hb dX4_next_121 rfl (lv_at hl 1 rfl) ?_
                refine lv_dup hx hb dX4_next_122 rfl ?_
                refine x_get E hw (C := RX4) (T := TX4) (N := 23) hinX4 0 rfl rfl 16 (by decide) rfl (List.mem_of_getElem? (i := 1) rfl) dX4_next_123 ?_
                refine lv_aload_n hx hb dX4_next_126 rfl (lv_at hl 1 rfl) ?_
                refine x_get E hw (C := RX4) (T := TX4) (N := 23) hinX4 0 rfl rfl 18 (by decide) rfl (List.mem_of_getElem? (i := 6) rfl) dX4_next_127 ?_
                refine lv_iconst (v := (nI 3)) hx hb dX4_next_130 (by decide) ?_
                refine x_icmp_ne E (nI_toI (by decide)) (nI_toI (by decide)) (tgt := 138) dX4_next_131 (by decide) (fun c_37 => ?_) (fun c_37 => ?_)
                · refine lv_iconst (v := (nI 0)) hx hb dX4_next_138 (by decide) ?_
                  refine x_iadd E (v := (nI z)) dX4_next_139 (nI_add _ 0) ?_
                  refine x_put E hw (C := RX4) (T := TX4) (N := 23) (ws1 := [(x, .inr (4, [.ref xt, .int (nI nb), .int (nI pa), .int (nI pt), .int (nI off), .int (nI ha), .int (nI n), .ref xw, .ref xo, .ref xh, .int (nI nl), .ref xr, .int (nI ns), .ref xs, .ref xi, .long tr, .int (nI z), .int (nI z), .int (nI 1), .long (lN 0), .ref xd, .int u5, .ref xf])), (xt, .inl (cI G, 200, .inl (fI gb)))]) hinX4 tyX4_ok nmX4 0 rfl rfl 16 (by decide) (List.mem_of_getElem? (i := 1) rfl) rfl rfl rfl (Nat.le_of_ble_eq_true rfl) rfl dX4_next_140 (fun H locs hw => ?_)
                  have loop_143 : ∀ (fu : Nat) (i : Nat) (vv : Int64), z ≤ i → i ≤ nb → lrL gb nb (nb - i) i = lr gb nb z → (∀ j, j < i - z → 97 ≤ gb (z + j) ∧ gb (z + j) ≤ 122) → vv = (if i - z ≤ 6 then lN (w32 gb z (i - z)) else -1) → nb - i < fu → ∀ (H : Heap) (locs : List Loc) (ls : Array Slot), Wd G s A [(x, .inr (4, [.ref xt, .int (nI nb), .int (nI pa), .int (nI pt), .int (nI off), .int (nI ha), .int (nI n), .ref xw, .ref xo, .ref xh, .int (nI nl), .ref xr, .int (nI ns), .ref xs, .ref xi, .long tr, .int (nI i), .int (nI z), .int (nI 1), .long vv, .ref xd, .int u5, .ref xf])), (xt, .inl (cI G, 200, .inl (fI gb)))] H locs → lv_has ls 2 [(0, .ref x)] → W p l e rm_X4_next s m args below meth c H locs 0 0 Q (F0 m 143 ls []) := by
                    intro fu
                    induction fu with
                    | zero =>
                      intro i vv hi hiN hinv1 hlet hvv hmu
                      exact absurd hmu (Nat.not_lt_zero _)
                    | succ fu ih_143 =>
                      intro i vv hi hiN hinv1 hlet hvv hmu_143 H locs ls hw hl
                      refine lv_aload_n hx hb dX4_next_143 rfl (lv_at hl 0 rfl) ?_
                      refine x_get E hw (C := RX4) (T := TX4) (N := 23) hinX4 0 rfl rfl 18 (by decide) rfl (List.mem_of_getElem? (i := 6) rfl) dX4_next_144 ?_
                      refine lv_iconst (v := (nI 1)) hx hb dX4_next_147 (by decide) ?_
                      refine x_icmp_ne E (nI_toI (by decide)) (nI_toI (by decide)) (tgt := 237) dX4_next_148 (by decide) (fun c_38 => ?_) (fun c_38 => ?_)
                      · exact absurd c_38 (by decide)
                      · refine lv_aload_n hx hb dX4_next_151 rfl (lv_at hl 0 rfl) ?_
                        refine x_get E hw (C := RX4) (T := TX4) (N := 23) hinX4 0 rfl rfl 16 (by decide) rfl (List.mem_of_getElem? (i := 1) rfl) dX4_next_152 ?_
                        refine lv_aload_n hx hb dX4_next_155 rfl (lv_at hl 0 rfl) ?_
                        refine x_get E hw (C := RX4) (T := TX4) (N := 23) hinX4 0 rfl rfl 1 (by decide) rfl (List.mem_of_getElem? (i := 2) rfl) dX4_next_156 ?_
                        refine x_icmp_ge E (nI_toI (show i < 2147483648 by omega)) (nI_toI (show nb < 2147483648 by omega)) (tgt := 237) dX4_next_159 (by decide) (fun c_39 => ?_) (fun c_39 => ?_)
                        · have hil : ¬ (i < nb ∧ 97 ≤ gb i ∧ gb i ≤ 122) := by omega
                          refine lv_aload_n hx hb dX4_next_237 rfl (lv_at hl 0 rfl) ?_
                          refine x_get E hw (C := RX4) (T := TX4) (N := 23) hinX4 0 rfl rfl 18 (by decide) rfl (List.mem_of_getElem? (i := 6) rfl) dX4_next_238 ?_
                          refine lv_iconst (v := (nI 2)) hx hb dX4_next_241 (by decide) ?_
                          refine x_icmp_ne E (nI_toI (by decide)) (nI_toI (by decide)) (tgt := 330) dX4_next_242 (by decide) (fun c_40 => ?_) (fun c_40 => ?_)
                          · refine lv_aload_n hx hb dX4_next_330 rfl (lv_at hl 0 rfl) ?_
                            refine x_get E hw (C := RX4) (T := TX4) (N := 23) hinX4 0 rfl rfl 18 (by decide) rfl (List.mem_of_getElem? (i := 6) rfl) dX4_next_331 ?_
                            refine lv_iconst (v := (nI 2)) hx hb dX4_next_334 (by decide) ?_
                            refine x_icmp_ne E (nI_toI (by decide)) (nI_toI (by decide)) (tgt := 370) dX4_next_335 (by decide) (fun c_41 => ?_) (fun c_41 => ?_)
                            · have hlr : lr gb nb z = i := hinv1.symm.trans (lrL_no hil)
                              have e1 : atM gb nb z = i := by unfold atM; rw [if_neg hNz, if_pos hlt, hlr]
                              have e2 : kdM gb nb z = 1 := by unfold kdM; rw [if_neg hNz, if_pos hlt]
                              have e3 : vlM gb nb z = vv := by unfold vlM; rw [if_neg hNz, if_pos hlt, hlr, hvv]
                              exact hret () _ _ _ _ dX4_next_370 trivial (hw.cast (by rw [← hsk, e1, e2, e3]))
                            · exact absurd c_41 (by decide)
                          · exact absurd c_40 (by decide)
                        · refine lv_aload_n hx hb dX4_next_162 rfl (lv_at hl 0 rfl) ?_
                          refine x_get E hw (C := RX4) (T := TX4) (N := 23) hinX4 0 rfl rfl 0 (by decide) rfl (List.mem_of_getElem? (i := 3) rfl) dX4_next_163 ?_
                          refine lv_aload_n hx hb dX4_next_166 rfl (lv_at hl 0 rfl) ?_
                          refine x_get E hw (C := RX4) (T := TX4) (N := 23) hinX4 0 rfl rfl 16 (by decide) rfl (List.mem_of_getElem? (i := 1) rfl) dX4_next_167 ?_
                          refine x_iald E hw 1 (a := xt) (v := (nI (gb i))) rfl rfl (show i < 200 by omega) (by omega) rfl dX4_next_170 ?_
                          have hgi := hgb i
                          refine x_cfSi E hw hl.1 (As := [.int (nI (gb i))]) (rest := []) (c_X4_isLetter l G (gb i) (by omega)) 1 gX4_next_X4_isLetter rfl rfl rfl (by decide) ⟨Nat.le_of_ble_eq_true rfl, Nat.le_of_ble_eq_true rfl⟩ ⟨Nat.le_of_ble_eq_true rfl, Nat.le_of_ble_eq_true rfl⟩ rfl [] [0, 1] rfl rfl rfl rfl rfl [0, 1] [(x, .inr (4, [.ref xt, .int (nI nb), .int (nI pa), .int (nI pt), .int (nI off), .int (nI ha), .int (nI n), .ref xw, .ref xo, .ref xh, .int (nI nl), .ref xr, .int (nI ns), .ref xs, .ref xi, .long tr, .int (nI i), .int (nI z), .int (nI 1), .long vv, .ref xd, .int u5, .ref xf])), (xt, .inl (cI G, 200, .inl (fI gb)))] rfl rfl rfl (Nat.le_of_ble_eq_true rfl) dX4_next_171 (fun H locs hw => ?_)
                          refine x_ifb_eq E (P := 97 ≤ (gb i) ∧ (gb i) ≤ 122) (tgt := 237) dX4_next_174 (by decide) (fun c_42 => ?_) (fun c_42 => ?_)
                          · have hil : ¬ (i < nb ∧ 97 ≤ gb i ∧ gb i ≤ 122) := by omega
                            refine lv_aload_n hx hb dX4_next_237 rfl (lv_at hl 0 rfl) ?_
                            refine x_get E hw (C := RX4) (T := TX4) (N := 23) hinX4 0 rfl rfl 18 (by decide) rfl (List.mem_of_getElem? (i := 6) rfl) dX4_next_238 ?_
                            refine lv_iconst (v := (nI 2)) hx hb dX4_next_241 (by decide) ?_
                            refine x_icmp_ne E (nI_toI (by decide)) (nI_toI (by decide)) (tgt := 330) dX4_next_242 (by decide) (fun c_43 => ?_) (fun c_43 => ?_)
                            · refine lv_aload_n hx hb dX4_next_330 rfl (lv_at hl 0 rfl) ?_
                              refine x_get E hw (C := RX4) (T := TX4) (N := 23) hinX4 0 rfl rfl 18 (by decide) rfl (List.mem_of_getElem? (i := 6) rfl) dX4_next_331 ?_
                              refine lv_iconst (v := (nI 2)) hx hb dX4_next_334 (by decide) ?_
                              refine x_icmp_ne E (nI_toI (by decide)) (nI_toI (by decide)) (tgt := 370) dX4_next_335 (by decide) (fun c_44 => ?_) (fun c_44 => ?_)
                              · have hlr : lr gb nb z = i := hinv1.symm.trans (lrL_no hil)
                                have e1 : atM gb nb z = i := by unfold atM; rw [if_neg hNz, if_pos hlt, hlr]
                                have e2 : kdM gb nb z = 1 := by unfold kdM; rw [if_neg hNz, if_pos hlt]
                                have e3 : vlM gb nb z = vv := by unfold vlM; rw [if_neg hNz, if_pos hlt, hlr, hvv]
                                exact hret () _ _ _ _ dX4_next_370 trivial (hw.cast (by rw [← hsk, e1, e2, e3]))
                              · exact absurd c_44 (by decide)
                            · exact absurd c_43 (by decide)
                          · have hil : i < nb ∧ 97 ≤ gb i ∧ gb i ≤ 122 := by omega
                            refine lv_aload_n hx hb dX4_next_177 rfl (lv_at hl 0 rfl) ?_
                            refine lv_aload_n hx hb dX4_next_178 rfl (lv_at hl 0 rfl) ?_
                            refine x_get E hw (C := RX4) (T := TX4) (N := 23) hinX4 0 rfl rfl 16 (by decide) rfl (List.mem_of_getElem? (i := 1) rfl) dX4_next_179 ?_
                            refine lv_aload_n hx hb dX4_next_182 rfl (lv_at hl 0 rfl) ?_
                            refine x_get E hw (C := RX4) (T := TX4) (N := 23) hinX4 0 rfl rfl 17 (by decide) rfl (List.mem_of_getElem? (i := 4) rfl) dX4_next_183 ?_
                            refine x_isub E (v := (nI (i - z))) dX4_next_186 (pk_sub (by omega)) ?_
                            refine lv_bipush (v := (nI 6)) hx hb dX4_next_187 (by decide) ?_
                            refine x_icmp_ge E (nI_toI (show i - z < 2147483648 by omega)) (nI_toI (by decide)) (tgt := 218) dX4_next_189 (by decide) (fun c_45 => ?_) (fun c_45 => ?_)
                            · refine lv_ldc2 (v := (-1)) hx hb E.2.2.2.1 (E.2.2.2.2 _ (List.mem_of_getElem? (i := 9) rfl)) dX4_next_218 ?_
                              refine x_put E hw (C := RX4) (T := TX4) (N := 23) (ws1 := [(x, .inr (4, [.ref xt, .int (nI nb), .int (nI pa), .int (nI pt), .int (nI off), .int (nI ha), .int (nI n), .ref xw, .ref xo, .ref xh, .int (nI nl), .ref xr, .int (nI ns), .ref xs, .ref xi, .long tr, .int (nI i), .int (nI z), .int (nI 1), .long (-1 : Int64), .ref xd, .int u5, .ref xf])), (xt, .inl (cI G, 200, .inl (fI gb)))]) hinX4 tyX4_ok nmX4 0 rfl rfl 19 (by decide) (List.mem_of_getElem? (i := 5) rfl) rfl rfl rfl (Nat.le_of_ble_eq_true rfl) rfl dX4_next_221 (fun H locs hw => ?_)
                              refine lv_aload_n hx hb dX4_next_224 rfl (lv_at hl 0 rfl) ?_
                              refine lv_dup hx hb dX4_next_225 rfl ?_
                              refine x_get E hw (C := RX4) (T := TX4) (N := 23) hinX4 0 rfl rfl 16 (by decide) rfl (List.mem_of_getElem? (i := 1) rfl) dX4_next_226 ?_
                              refine lv_iconst (v := (nI 1)) hx hb dX4_next_229 (by decide) ?_
                              refine x_iadd E (v := (nI (i + 1))) dX4_next_230 (nI_add _ _) ?_
                              refine x_put E hw (C := RX4) (T := TX4) (N := 23) (ws1 := [(x, .inr (4, [.ref xt, .int (nI nb), .int (nI pa), .int (nI pt), .int (nI off), .int (nI ha), .int (nI n), .ref xw, .ref xo, .ref xh, .int (nI nl), .ref xr, .int (nI ns), .ref xs, .ref xi, .long tr, .int (nI (i + 1)), .int (nI z), .int (nI 1), .long (-1 : Int64), .ref xd, .int u5, .ref xf])), (xt, .inl (cI G, 200, .inl (fI gb)))]) hinX4 tyX4_ok nmX4 0 rfl rfl 16 (by decide) (List.mem_of_getElem? (i := 1) rfl) rfl rfl rfl (Nat.le_of_ble_eq_true rfl) rfl dX4_next_231 (fun H locs hw => ?_)
                              refine lv_goto (tgt := 143) hx hb dX4_next_234 (by decide) ?_
                              exact ih_143 (i + 1) (-1 : Int64) (by omega) (by omega) ((lrL_yes hil).symm.trans hinv1) (fun j hj => by rcases Nat.lt_or_ge j (i - z) with a | a; exact hlet j a; rw [show z + j = i by omega]; exact hil.2) (by rw [if_neg (by omega)]) (by omega) _ _ _ hw (lv_sub hl [0] rfl)
                            · rw [if_pos (show i - z ≤ 6 by omega)] at hvv
                              subst hvv
                              have hwb : w32 gb z (i - z) < 1073741824 := Nat.lt_of_lt_of_le (w32_pos _ hlet).2 (show 32 ^ (i - z) ≤ 32 ^ 6 from Nat.pow_le_pow_right (by decide) (by omega))
                              refine lv_ldc2 (v := (32)) hx hb E.2.2.2.1 (E.2.2.2.2 _ (List.mem_of_getElem? (i := 7) rfl)) dX4_next_192 ?_
                              refine x_topl (v := lN 32) (by decide) ?_
                              refine lv_aload_n hx hb dX4_next_195 rfl (lv_at hl 0 rfl) ?_
                              refine x_get E hw (C := RX4) (T := TX4) (N := 23) hinX4 0 rfl rfl 19 (by decide) rfl (List.mem_of_getElem? (i := 5) rfl) dX4_next_196 ?_
                              refine x_lmul E (v := (lN (32 * (w32 gb z (i - z))))) dX4_next_199 (lN_mul _ _) ?_
                              refine lv_aload_n hx hb dX4_next_200 rfl (lv_at hl 0 rfl) ?_
                              refine x_get E hw (C := RX4) (T := TX4) (N := 23) hinX4 0 rfl rfl 0 (by decide) rfl (List.mem_of_getElem? (i := 3) rfl) dX4_next_201 ?_
                              refine lv_aload_n hx hb dX4_next_204 rfl (lv_at hl 0 rfl) ?_
                              refine x_get E hw (C := RX4) (T := TX4) (N := 23) hinX4 0 rfl rfl 16 (by decide) rfl (List.mem_of_getElem? (i := 1) rfl) dX4_next_205 ?_
                              refine x_iald E hw 1 (a := xt) (v := (nI (gb i))) rfl rfl (show i < 200 by omega) (by omega) rfl dX4_next_208 ?_
                              refine lv_i2l (v := (lN (gb i))) hx hb dX4_next_209 (nI_l (by omega)) ?_
                              refine x_ladd E (v := (lN ((32 * (w32 gb z (i - z))) + (gb i)))) dX4_next_210 (lN_add _ _) ?_
                              refine lv_ldc2 (v := (96)) hx hb E.2.2.2.1 (E.2.2.2.2 _ (List.mem_of_getElem? (i := 8) rfl)) dX4_next_211 ?_
                              refine x_topl (v := lN 96) (by decide) ?_
                              refine x_lsub E (v := (lN (((32 * (w32 gb z (i - z))) + (gb i)) - 96))) dX4_next_214 (lN_sub (by omega)) ?_
                              refine lv_goto (tgt := 221) hx hb dX4_next_215 (by decide) ?_
                              refine x_put E hw (C := RX4) (T := TX4) (N := 23) (ws1 := [(x, .inr (4, [.ref xt, .int (nI nb), .int (nI pa), .int (nI pt), .int (nI off), .int (nI ha), .int (nI n), .ref xw, .ref xo, .ref xh, .int (nI nl), .ref xr, .int (nI ns), .ref xs, .ref xi, .long tr, .int (nI i), .int (nI z), .int (nI 1), .long (lN (((32 * (w32 gb z (i - z))) + (gb i)) - 96)), .ref xd, .int u5, .ref xf])), (xt, .inl (cI G, 200, .inl (fI gb)))]) hinX4 tyX4_ok nmX4 0 rfl rfl 19 (by decide) (List.mem_of_getElem? (i := 5) rfl) rfl rfl rfl (Nat.le_of_ble_eq_true rfl) rfl dX4_next_221 (fun H locs hw => ?_)
                              refine lv_aload_n hx hb dX4_next_224 rfl (lv_at hl 0 rfl) ?_
                              refine lv_dup hx hb dX4_next_225 rfl ?_
                              refine x_get E hw (C := RX4) (T := TX4) (N := 23) hinX4 0 rfl rfl 16 (by decide) rfl (List.mem_of_getElem? (i := 1) rfl) dX4_next_226 ?_
                              refine lv_iconst (v := (nI 1)) hx hb dX4_next_229 (by decide) ?_
                              refine x_iadd E (v := (nI (i + 1))) dX4_next_230 (nI_add _ _) ?_
                              refine x_put E hw (C := RX4) (T := TX4) (N := 23) (ws1 := [(x, .inr (4, [.ref xt, .int (nI nb), .int (nI pa), .int (nI pt), .int (nI off), .int (nI ha), .int (nI n), .ref xw, .ref xo, .ref xh, .int (nI nl), .ref xr, .int (nI ns), .ref xs, .ref xi, .long tr, .int (nI (i + 1)), .int (nI z), .int (nI 1), .long (lN (((32 * (w32 gb z (i - z))) + (gb i)) - 96)), .ref xd, .int u5, .ref xf])), (xt, .inl (cI G, 200, .inl (fI gb)))]) hinX4 tyX4_ok nmX4 0 rfl rfl 16 (by decide) (List.mem_of_getElem? (i := 1) rfl) rfl rfl rfl (Nat.le_of_ble_eq_true rfl) rfl dX4_next_231 (fun H locs hw => ?_)
                              refine lv_goto (tgt := 143) hx hb dX4_next_234 (by decide) ?_
                              exact ih_143 (i + 1) (lN (32 * w32 gb z (i - z) + gb i - 96)) (by omega) (by omega) ((lrL_yes hil).symm.trans hinv1) (fun j hj => by rcases Nat.lt_or_ge j (i - z) with a | a; exact hlet j a; rw [show z + j = i by omega]; exact hil.2) (by rw [if_pos (by omega), show i + 1 - z = i - z + 1 by omega, w32_step, show z + (i - z) = i by omega]) (by omega) _ _ _ hw (lv_sub hl [0] rfl)
                  exact loop_143 (nb - z + 1) z (lN 0) (by omega) (by omega) rfl (fun j hj => by omega) (by rw [Nat.sub_self, if_pos (by decide)]; rfl) (Nat.lt_succ_self _) _ _ _ hw (lv_sub hl [1] rfl)
                · exact absurd c_37 (by decide)
            · exfalso; omega
        · refine lv_aload_n hx hb dX4_next_25 rfl (lv_at hl 0 rfl) ?_
          refine lv_dup hx hb dX4_next_26 rfl ?_
          refine x_get E hw (C := RX4) (T := TX4) (N := 23) hinX4 0 rfl rfl 16 (by decide) rfl (List.mem_of_getElem? (i := 1) rfl) dX4_next_27 ?_
          refine lv_iconst (v := (nI 1)) hx hb dX4_next_30 (by decide) ?_
          refine x_iadd E (v := (nI (z + 1))) dX4_next_31 (nI_add _ _) ?_
          refine x_put E hw (C := RX4) (T := TX4) (N := 23) (ws1 := [(x, .inr (4, [.ref xt, .int (nI nb), .int (nI pa), .int (nI pt), .int (nI off), .int (nI ha), .int (nI n), .ref xw, .ref xo, .ref xh, .int (nI nl), .ref xr, .int (nI ns), .ref xs, .ref xi, .long tr, .int (nI (z + 1)), .int u2, .int u3, .long u4, .ref xd, .int u5, .ref xf])), (xt, .inl (cI G, 200, .inl (fI gb)))]) hinX4 tyX4_ok nmX4 0 rfl rfl 16 (by decide) (List.mem_of_getElem? (i := 1) rfl) rfl rfl rfl (Nat.le_of_ble_eq_true rfl) rfl dX4_next_32 (fun H locs hw => ?_)
          refine lv_goto (tgt := 0) hx hb dX4_next_35 (by decide) ?_
          exact ih_0 (z + 1) (by omega) (by omega) ((skL_yes (by omega) (by omega)).symm.trans hinv) (by omega) _ _ _ hw (lv_sub hl [0] rfl)
  exact loop_0 (nb - z0 + 1) z0 (by omega) (by omega) rfl (Nat.lt_succ_self _) _ _ _ hw (lv_sub hl [0] rfl)
