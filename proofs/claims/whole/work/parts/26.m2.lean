abbrev rm_X4_wasted : Room := { frames := 1, cells := 0, slots := 0, locals := 25 }
set_option maxHeartbeats 4000000 in
set_option maxRecDepth 100000 in
theorem c_X4_wasted (l : Launch) (G : XG) (x : Nat) (xt : Nat) (xw : Nat) (xo : Nat) (xh : Nat) (xr : Nat) (xs : Nat) (xi : Nat) (xd : Nat) (xf : Nat) (nb : Nat) (pa : Nat) (pt : Nat) (off : Nat) (ha : Nat) (n : Nat) (nl : Nat) (ns : Nat) (tr : Int64) (u1 : Int32) (u2 : Int32) (u3 : Int32) (u4 : Int64) (u5 : Int32) (gw : Nat → Nat) (a : Int32) (hn : n ≤ 23) (hn3 : 3 ≤ n) (hpa : pa ≤ 63) (hpa3 : 3 ≤ pa) (hgw2 : ∀ q, gw q ≤ 66060288) : CfI l yX4_wasted wsX4_wasted rm_X4_wasted G [.ref x, .int a] [(x, .inr (4, [.ref xt, .int (nI nb), .int (nI pa), .int (nI pt), .int (nI off), .int (nI ha), .int (nI n), .ref xw, .ref xo, .ref xh, .int (nI nl), .ref xr, .int (nI ns), .ref xs, .ref xi, .long tr, .int u1, .int u2, .int u3, .long u4, .ref xd, .int u5, .ref xf])), (xw, .inl (cJ G, 23, .inr (.inl (fJ gw))))] (wastedM gw pa n a.toInt) [(x, .inr (4, [.ref xt, .int (nI nb), .int (nI pa), .int (nI pt), .int (nI off), .int (nI ha), .int (nI n), .ref xw, .ref xo, .ref xh, .int (nI nl), .ref xr, .int (nI ns), .ref xs, .ref xi, .long tr, .int u1, .int u2, .int u3, .long u4, .ref xd, .int u5, .ref xf])), (xw, .inl (cJ G, 23, .inr (.inl (fJ gw))))] := by
  have hgw : ∀ q, gw q < 1073741824 := fun q => Nat.lt_of_le_of_lt (hgw2 q) (by decide)
  refine CtI.go (cc := cX4_wasted) (maxL := 7) RX4 rfl (by decide) rfl (Nat.le_of_ble_eq_true rfl) ?_
  intro p e s m args below meth c A Q ls E hw hl hret
  have hx := E.1
  have hb := E.2.1
  have hinX4 : ∀ w ∈ wsX40, w ∈ wsX4_wasted := (fun w h => List.mem_cons_of_mem _ (List.mem_append_right _ h))
  have hl : lv_has ls 7 [(0, .ref x), (1, .int a)] := hl
  refine lv_iload_n hx hb dX4_wasted_0 rfl (lv_at hl 1 rfl) ?_
  refine lv_i2l (v := a.toInt64) hx hb dX4_wasted_1 rfl ?_
  refine lv_lconst (v := (lN 0)) hx hb dX4_wasted_2 (by decide) ?_
  refine lv_lconst (v := (lN 1)) hx hb dX4_wasted_3 (by decide) ?_
  refine x_cfSi E hw hl.1 (As := [.long a.toInt64, .long (lN 0), .long (lN 1)]) (rest := []) (c_X4_in l G a.toInt64 (lN 0) (lN 1) a.toInt (0 : Int) (1 : Int) ((Int32.toInt_toInt64 _).trans rfl) (lN_toI (by decide)) (lN_toI (by decide))) 3 gX4_wasted_X4_in rfl rfl rfl (by decide) ⟨Nat.le_of_ble_eq_true rfl, Nat.le_of_ble_eq_true rfl⟩ ⟨Nat.le_of_ble_eq_true rfl, Nat.le_of_ble_eq_true rfl⟩ rfl [] [0, 1] rfl rfl rfl rfl rfl [0, 1] [(x, .inr (4, [.ref xt, .int (nI nb), .int (nI pa), .int (nI pt), .int (nI off), .int (nI ha), .int (nI n), .ref xw, .ref xo, .ref xh, .int (nI nl), .ref xr, .int (nI ns), .ref xs, .ref xi, .long tr, .int u1, .int u2, .int u3, .long u4, .ref xd, .int u5, .ref xf])), (xw, .inl (cJ G, 23, .inr (.inl (fJ gw))))] rfl rfl rfl (Nat.le_of_ble_eq_true rfl) dX4_wasted_4 (fun H locs hw => ?_)
  refine x_ifb_ne E (P := (0 : Int) ≤ a.toInt ∧ a.toInt ≤ (1 : Int)) (tgt := 12) dX4_wasted_7 (by decide) (fun c_1 => ?_) (fun c_1 => ?_)
  · refine lv_iconst (v := (nI 0)) hx hb dX4_wasted_12 (by decide) ?_
    refine lv_istore_n (lv' := [(2, .int (nI 0)), (0, .ref x), (1, .int a)]) hx hb dX4_wasted_13 rfl hl (by decide) rfl (fun ls hl => ?_)
    refine lv_lconst (v := (lN 0)) hx hb dX4_wasted_14 (by decide) ?_
    refine lv_lstore_n (lv' := [(3, .long (lN 0)), (2, .int (nI 0)), (0, .ref x), (1, .int a)]) hx hb dX4_wasted_15 rfl hl (by decide) rfl (fun ls hl => ?_)
    refine lv_iconst (v := (nI 2)) hx hb dX4_wasted_16 (by decide) ?_
    refine lv_istore (lv' := [(5, .int (nI 2)), (3, .long (lN 0)), (2, .int (nI 0)), (0, .ref x), (1, .int a)]) hx hb dX4_wasted_17 hl (by decide) rfl (fun ls hl => ?_)
    have loop_19 : ∀ (fu : Nat) (i : Nat), i + 2 ≤ n → n - i < fu → ∀ (H : Heap) (locs : List Loc) (ls : Array Slot), Wd G s A [(x, .inr (4, [.ref xt, .int (nI nb), .int (nI pa), .int (nI pt), .int (nI off), .int (nI ha), .int (nI n), .ref xw, .ref xo, .ref xh, .int (nI nl), .ref xr, .int (nI ns), .ref xs, .ref xi, .long tr, .int u1, .int u2, .int u3, .long u4, .ref xd, .int u5, .ref xf])), (xw, .inl (cJ G, 23, .inr (.inl (fJ gw))))] H locs → lv_has ls 7 [(0, .ref x), (1, .int a), (2, .int (nI (wsN gw i))), (3, .long (lN (metM gw i))), (5, .int (nI (i + 2)))] → W p l e rm_X4_wasted s m args below meth c H locs 0 0 Q (F0 m 19 ls []) := by
      intro fu
      induction fu with
      | zero =>
        intro i hi hmu
        exact absurd hmu (Nat.not_lt_zero _)
      | succ fu ih_19 =>
        intro i hi hmu_19 H locs ls hw hl
        refine lv_iload hx hb dX4_wasted_19 (lv_at hl 4 rfl) ?_
        refine lv_aload_n hx hb dX4_wasted_21 rfl (lv_at hl 0 rfl) ?_
        refine x_get E hw (C := RX4) (T := TX4) (N := 23) hinX4 0 rfl rfl 6 (by decide) rfl (List.mem_of_getElem? (i := 1) rfl) dX4_wasted_22 ?_
        refine x_icmp_ge E (nI_toI (show i + 2 < 2147483648 by omega)) (nI_toI (show n < 2147483648 by omega)) (tgt := 75) dX4_wasted_25 (by decide) (fun c_2 => ?_) (fun c_2 => ?_)
        · obtain ⟨n2, hn2⟩ : ∃ n2, n2 = n - 2 := ⟨_, rfl⟩
          have hin2 : i = n2 := by omega
          rw [hin2] at hl
          have hmlt := metM_lt hgw2 n2
          refine lv_iconst (v := (nI 0)) hx hb dX4_wasted_75 (by decide) ?_
          refine lv_istore (lv' := [(5, .int (nI 0)), (0, .ref x), (1, .int a), (2, .int (nI (wsN gw n2))), (3, .long (lN (metM gw n2)))]) hx hb dX4_wasted_76 hl (by decide) rfl (fun ls hl => ?_)
          refine lv_iconst (v := (nI 1)) hx hb dX4_wasted_78 (by decide) ?_
          refine lv_istore (lv' := [(6, .int (nI 1)), (5, .int (nI 0)), (0, .ref x), (1, .int a), (2, .int (nI (wsN gw n2))), (3, .long (lN (metM gw n2)))]) hx hb dX4_wasted_79 hl (by decide) rfl (fun ls hl => ?_)
          have loop_81 : ∀ (fu : Nat) (k : Nat), k + 1 ≤ pa → pa - k < fu → ∀ (H : Heap) (locs : List Loc) (ls : Array Slot), Wd G s A [(x, .inr (4, [.ref xt, .int (nI nb), .int (nI pa), .int (nI pt), .int (nI off), .int (nI ha), .int (nI n), .ref xw, .ref xo, .ref xh, .int (nI nl), .ref xr, .int (nI ns), .ref xs, .ref xi, .long tr, .int u1, .int u2, .int u3, .long u4, .ref xd, .int u5, .ref xf])), (xw, .inl (cJ G, 23, .inr (.inl (fJ gw))))] H locs → lv_has ls 7 [(0, .ref x), (1, .int a), (2, .int (nI (wsN gw n2))), (3, .long (lN (metM gw n2))), (5, .int (nI (msN (metM gw n2) k))), (6, .int (nI (k + 1)))] → W p l e rm_X4_wasted s m args below meth c H locs 0 0 Q (F0 m 81 ls []) := by
            intro fu
            induction fu with
            | zero =>
              intro k hk hmu
              exact absurd hmu (Nat.not_lt_zero _)
            | succ fu ih_81 =>
              intro k hk hmu_81 H locs ls hw hl
              refine lv_iload hx hb dX4_wasted_81 (lv_at hl 5 rfl) ?_
              refine lv_aload_n hx hb dX4_wasted_83 rfl (lv_at hl 0 rfl) ?_
              refine x_get E hw (C := RX4) (T := TX4) (N := 23) hinX4 0 rfl rfl 2 (by decide) rfl (List.mem_of_getElem? (i := 2) rfl) dX4_wasted_84 ?_
              refine x_icmp_ge E (nI_toI (show k + 1 < 2147483648 by omega)) (nI_toI (show pa < 2147483648 by omega)) (tgt := 117) dX4_wasted_87 (by decide) (fun c_3 => ?_) (fun c_3 => ?_)
              · refine lv_iload_n hx hb dX4_wasted_117 rfl (lv_at hl 1 rfl) ?_
                refine x_if_ne E rfl (tgt := 125) dX4_wasted_118 (by decide) (fun c_4 => ?_) (fun c_4 => ?_)
                · refine lv_iload hx hb dX4_wasted_125 (lv_at hl 4 rfl) ?_
                  exact hret (nI (msN (metM gw n2) k)) () _ _ _ _ dX4_wasted_127 rfl (ifT (by omega) (ifF (by omega) (by rw [← hn2, show k = pa - 1 by omega]))) hw
                · refine lv_iload_n hx hb dX4_wasted_121 rfl (lv_at hl 2 rfl) ?_
                  refine lv_goto (tgt := 127) hx hb dX4_wasted_122 (by decide) ?_
                  exact hret (nI (wsN gw n2)) () _ _ _ _ dX4_wasted_127 rfl (ifT (by omega) (ifT (by omega) (by rw [hn2]))) hw
              · refine lv_iload hx hb dX4_wasted_90 (lv_at hl 4 rfl) ?_
                refine lv_lload_n hx hb dX4_wasted_92 rfl (lv_at hl 3 rfl) ?_
                refine lv_iload hx hb dX4_wasted_93 (lv_at hl 5 rfl) ?_
                refine lv_lshr (v := (lN (metM gw n2) >>> ((nI (k + 1)).toInt64 &&& 63))) hx hb dX4_wasted_95 rfl ?_
                refine lv_lconst (v := (lN 1)) hx hb dX4_wasted_96 (by decide) ?_
                refine x_land E (v := (lN (metM gw n2 / 2 ^ (k + 1) % 2))) dX4_wasted_97 (lsh1 hmlt (by omega)) ?_
                refine lv_lconst (v := (lN 0)) hx hb dX4_wasted_98 (by decide) ?_
                refine x_lc_ne E (lN_toI (show metM gw n2 / 2 ^ (k + 1) % 2 < 9223372036854775808 by omega)) (lN_toI (by decide)) (tgt := 107) dX4_wasted_99 dX4_wasted_100 (by decide) (fun c_5 => ?_) (fun c_5 => ?_)
                · have hbit : ¬ metM gw n2 / 2 ^ (k + 1) % 2 = 0 := by omega
                  refine lv_iconst (v := (nI 0)) hx hb dX4_wasted_107 (by decide) ?_
                  refine x_iadd E (v := (nI (msN (metM gw n2) (k + 1)))) dX4_wasted_108 (by rw [msN, if_neg hbit, nI_add]) ?_
                  refine lv_istore (lv' := [(5, .int (nI (msN (metM gw n2) (k + 1)))), (0, .ref x), (1, .int a), (2, .int (nI (wsN gw n2))), (3, .long (lN (metM gw n2))), (6, .int (nI (k + 1)))]) hx hb dX4_wasted_109 hl (by decide) rfl (fun ls hl => ?_)
                  refine lv_iinc (v := (nI (k + 1 + 1))) (lv' := [(6, .int (nI (k + 1 + 1))), (5, .int (nI (msN (metM gw n2) (k + 1)))), (0, .ref x), (1, .int a), (2, .int (nI (wsN gw n2))), (3, .long (lN (metM gw n2)))]) hx hb dX4_wasted_111 hl (k := 5) rfl (x_inc1 _) (by decide) rfl (fun ls hl => ?_)
                  refine lv_goto (tgt := 81) hx hb dX4_wasted_114 (by decide) ?_
                  exact ih_81 (k + 1) (by omega) (by omega) _ _ _ hw (lv_sub hl [2, 3, 4, 5, 1, 0] rfl)
                · have hbit : metM gw n2 / 2 ^ (k + 1) % 2 = 0 := by omega
                  refine lv_iconst (v := (nI 1)) hx hb dX4_wasted_103 (by decide) ?_
                  refine lv_goto (tgt := 108) hx hb dX4_wasted_104 (by decide) ?_
                  refine x_iadd E (v := (nI (msN (metM gw n2) (k + 1)))) dX4_wasted_108 (by rw [msN, if_pos hbit, nI_add]) ?_
                  refine lv_istore (lv' := [(5, .int (nI (msN (metM gw n2) (k + 1)))), (0, .ref x), (1, .int a), (2, .int (nI (wsN gw n2))), (3, .long (lN (metM gw n2))), (6, .int (nI (k + 1)))]) hx hb dX4_wasted_109 hl (by decide) rfl (fun ls hl => ?_)
                  refine lv_iinc (v := (nI (k + 1 + 1))) (lv' := [(6, .int (nI (k + 1 + 1))), (5, .int (nI (msN (metM gw n2) (k + 1)))), (0, .ref x), (1, .int a), (2, .int (nI (wsN gw n2))), (3, .long (lN (metM gw n2)))]) hx hb dX4_wasted_111 hl (k := 5) rfl (x_inc1 _) (by decide) rfl (fun ls hl => ?_)
                  refine lv_goto (tgt := 81) hx hb dX4_wasted_114 (by decide) ?_
                  exact ih_81 (k + 1) (by omega) (by omega) _ _ _ hw (lv_sub hl [2, 3, 4, 5, 1, 0] rfl)
          exact loop_81 (pa - 0 + 1) 0 (by omega) (Nat.lt_succ_self _) _ _ _ hw (lv_sub hl [2, 3, 4, 5, 1, 0] rfl)
        · have hgk := hgw2 (i + 2)
          by_cases hm : gw (i + 2) % 1048576 = 0
          · have hgk := hgw2 (i + 2)
            refine lv_aload_n hx hb dX4_wasted_28 rfl (lv_at hl 0 rfl) ?_
            refine lv_iload hx hb dX4_wasted_29 (lv_at hl 4 rfl) ?_
            refine x_cfVi E hw hl.1 (As := [.int (nI (i + 2))]) (rest := []) (c_X4_partOfY l G x xt xw xo xh xr xs xi xd xf nb pa pt off ha n nl ns tr u1 u2 u3 u4 u5 (i + 2) gw (by omega) (hgw _) (by assumption)) 1 gX4_wasted_X4_partOf rfl rfl rfl (by decide) ⟨Nat.le_of_ble_eq_true rfl, Nat.le_of_ble_eq_true rfl⟩ ⟨Nat.le_of_ble_eq_true rfl, Nat.le_of_ble_eq_true rfl⟩ rfl 0 (ci := 4) (C := RX4) (T := TX4) (N := 23) rfl rfl [0, 1] [] rfl rfl rfl rfl rfl [0, 1] [(x, .inr (4, [.ref xt, .int (nI nb), .int (nI pa), .int (nI pt), .int (nI off), .int (nI ha), .int (nI n), .ref xw, .ref xo, .ref xh, .int (nI nl), .ref xr, .int (nI ns), .ref xs, .ref xi, .long tr, .int u1, .int u2, .int u3, .long u4, .ref xd, .int u5, .ref xf])), (xw, .inl (cJ G, 23, .inr (.inl (fJ gw))))] rfl rfl rfl (Nat.le_of_ble_eq_true rfl) dX4_wasted_31 (fun H locs hw => ?_)
            refine lv_istore (lv' := [(6, .int (nI (gw (i + 2) / 1048576))), (0, .ref x), (1, .int a), (2, .int (nI (wsN gw i))), (3, .long (lN (metM gw i))), (5, .int (nI (i + 2)))]) hx hb dX4_wasted_34 hl (by decide) rfl (fun ls hl => ?_)
            refine lv_iload_n hx hb dX4_wasted_36 rfl (lv_at hl 3 rfl) ?_
            refine lv_iload hx hb dX4_wasted_37 (lv_at hl 0 rfl) ?_
            refine lv_bipush (v := (-9 : Int32)) hx hb dX4_wasted_39 (by decide) ?_
            refine x_icmp_ne E (nI_toI (show gw (i + 2) / 1048576 < 2147483648 by omega)) (show ((-9 : Int32)).toInt = -9 by decide) (tgt := 48) dX4_wasted_41 (by decide) (fun c_6 => ?_) (fun c_6 => ?_)
            · refine lv_iconst (v := (nI 0)) hx hb dX4_wasted_48 (by decide) ?_
              refine x_iadd E (v := (nI (wsN gw i))) dX4_wasted_49 (by rw [nI_add]; rfl) ?_
              refine lv_istore_n (lv' := [(2, .int (nI (wsN gw i))), (6, .int (nI (gw (i + 2) / 1048576))), (0, .ref x), (1, .int a), (3, .long (lN (metM gw i))), (5, .int (nI (i + 2)))]) hx hb dX4_wasted_50 rfl hl (by decide) rfl (fun ls hl => ?_)
              refine lv_lload_n hx hb dX4_wasted_51 rfl (lv_at hl 4 rfl) ?_
              refine lv_iload hx hb dX4_wasted_52 (lv_at hl 1 rfl) ?_
              refine lv_bipush (v := (-9 : Int32)) hx hb dX4_wasted_54 (by decide) ?_
              refine x_icmp_ne E (nI_toI (show gw (i + 2) / 1048576 < 2147483648 by omega)) (show ((-9 : Int32)).toInt = -9 by decide) (tgt := 63) dX4_wasted_56 (by decide) (fun c_7 => ?_) (fun c_7 => ?_)
              · refine lv_lconst (v := (lN 1)) hx hb dX4_wasted_63 (by decide) ?_
                refine lv_iload hx hb dX4_wasted_64 (lv_at hl 1 rfl) ?_
                refine lv_lshl (v := (lN (2 ^ (gw (i + 2) / 1048576)))) hx hb dX4_wasted_66 (by rw [wb_shl 1 (by omega), Nat.one_mul]) ?_
                refine x_lor E (v := (lN (metM gw i ||| 2 ^ (gw (i + 2) / 1048576)))) dX4_wasted_67 (x_orL _ _) ?_
                refine lv_lstore_n (lv' := [(3, .long (lN (metM gw i ||| 2 ^ (gw (i + 2) / 1048576)))), (2, .int (nI (wsN gw i))), (6, .int (nI (gw (i + 2) / 1048576))), (0, .ref x), (1, .int a), (5, .int (nI (i + 2)))]) hx hb dX4_wasted_68 rfl hl (by decide) rfl (fun ls hl => ?_)
                refine lv_iinc (v := (nI (i + 2 + 1))) (lv' := [(5, .int (nI (i + 2 + 1))), (3, .long (lN (metM gw i ||| 2 ^ (gw (i + 2) / 1048576)))), (2, .int (nI (wsN gw i))), (6, .int (nI (gw (i + 2) / 1048576))), (0, .ref x), (1, .int a)]) hx hb dX4_wasted_69 hl (k := 5) rfl (x_inc1 _) (by decide) rfl (fun ls hl => ?_)
                refine lv_goto (tgt := 19) hx hb dX4_wasted_72 (by decide) ?_
                have hws : wsN gw (i + 1) = wsN gw i := by rw [wsN, if_pos hm, Nat.add_zero]
                have hmm : metM gw (i + 1) = metM gw i ||| 2 ^ (gw (i + 2) / 1048576) := by rw [metM, if_pos hm]
                rw [← hws, ← hmm, show i + 2 + 1 = i + 1 + 2 by omega] at hl
                exact ih_19 (i + 1) (by omega) (by omega) _ _ _ hw (lv_sub hl [4, 5, 2, 1, 0] rfl)
              · exfalso; omega
            · exfalso; omega
          · have hgk := hgw2 (i + 2)
            refine lv_aload_n hx hb dX4_wasted_28 rfl (lv_at hl 0 rfl) ?_
            refine lv_iload hx hb dX4_wasted_29 (lv_at hl 4 rfl) ?_
            refine x_cfVi E hw hl.1 (As := [.int (nI (i + 2))]) (rest := []) (c_X4_partOfN l G x xt xw xo xh xr xs xi xd xf nb pa pt off ha n nl ns tr u1 u2 u3 u4 u5 (i + 2) gw (by omega) (hgw _) (by assumption)) 1 gX4_wasted_X4_partOf rfl rfl rfl (by decide) ⟨Nat.le_of_ble_eq_true rfl, Nat.le_of_ble_eq_true rfl⟩ ⟨Nat.le_of_ble_eq_true rfl, Nat.le_of_ble_eq_true rfl⟩ rfl 0 (ci := 4) (C := RX4) (T := TX4) (N := 23) rfl rfl [0, 1] [] rfl rfl rfl rfl rfl [0, 1] [(x, .inr (4, [.ref xt, .int (nI nb), .int (nI pa), .int (nI pt), .int (nI off), .int (nI ha), .int (nI n), .ref xw, .ref xo, .ref xh, .int (nI nl), .ref xr, .int (nI ns), .ref xs, .ref xi, .long tr, .int u1, .int u2, .int u3, .long u4, .ref xd, .int u5, .ref xf])), (xw, .inl (cJ G, 23, .inr (.inl (fJ gw))))] rfl rfl rfl (Nat.le_of_ble_eq_true rfl) dX4_wasted_31 (fun H locs hw => ?_)
            refine lv_istore (lv' := [(6, .int (-9 : Int32)), (0, .ref x), (1, .int a), (2, .int (nI (wsN gw i))), (3, .long (lN (metM gw i))), (5, .int (nI (i + 2)))]) hx hb dX4_wasted_34 hl (by decide) rfl (fun ls hl => ?_)
            refine lv_iload_n hx hb dX4_wasted_36 rfl (lv_at hl 3 rfl) ?_
            refine lv_iload hx hb dX4_wasted_37 (lv_at hl 0 rfl) ?_
            refine lv_bipush (v := (-9 : Int32)) hx hb dX4_wasted_39 (by decide) ?_
            refine x_icmp_ne E (show ((-9 : Int32)).toInt = -9 by decide) (show ((-9 : Int32)).toInt = -9 by decide) (tgt := 48) dX4_wasted_41 (by decide) (fun c_8 => ?_) (fun c_8 => ?_)
            · exact absurd c_8 (by decide)
            · refine lv_iconst (v := (nI 1)) hx hb dX4_wasted_44 (by decide) ?_
              refine lv_goto (tgt := 49) hx hb dX4_wasted_45 (by decide) ?_
              refine x_iadd E (v := (nI (wsN gw i + 1))) dX4_wasted_49 (nI_add _ _) ?_
              refine lv_istore_n (lv' := [(2, .int (nI (wsN gw i + 1))), (6, .int (-9 : Int32)), (0, .ref x), (1, .int a), (3, .long (lN (metM gw i))), (5, .int (nI (i + 2)))]) hx hb dX4_wasted_50 rfl hl (by decide) rfl (fun ls hl => ?_)
              refine lv_lload_n hx hb dX4_wasted_51 rfl (lv_at hl 4 rfl) ?_
              refine lv_iload hx hb dX4_wasted_52 (lv_at hl 1 rfl) ?_
              refine lv_bipush (v := (-9 : Int32)) hx hb dX4_wasted_54 (by decide) ?_
              refine x_icmp_ne E (show ((-9 : Int32)).toInt = -9 by decide) (show ((-9 : Int32)).toInt = -9 by decide) (tgt := 63) dX4_wasted_56 (by decide) (fun c_9 => ?_) (fun c_9 => ?_)
              · exact absurd c_9 (by decide)
              · refine lv_lconst (v := (lN 0)) hx hb dX4_wasted_59 (by decide) ?_
                refine lv_goto (tgt := 67) hx hb dX4_wasted_60 (by decide) ?_
                refine x_lor E (v := (lN (metM gw i))) dX4_wasted_67 (by rw [x_orL, Nat.or_zero]) ?_
                refine lv_lstore_n (lv' := [(3, .long (lN (metM gw i))), (2, .int (nI (wsN gw i + 1))), (6, .int (-9 : Int32)), (0, .ref x), (1, .int a), (5, .int (nI (i + 2)))]) hx hb dX4_wasted_68 rfl hl (by decide) rfl (fun ls hl => ?_)
                refine lv_iinc (v := (nI (i + 2 + 1))) (lv' := [(5, .int (nI (i + 2 + 1))), (3, .long (lN (metM gw i))), (2, .int (nI (wsN gw i + 1))), (6, .int (-9 : Int32)), (0, .ref x), (1, .int a)]) hx hb dX4_wasted_69 hl (k := 5) rfl (x_inc1 _) (by decide) rfl (fun ls hl => ?_)
                refine lv_goto (tgt := 19) hx hb dX4_wasted_72 (by decide) ?_
                have hws : wsN gw (i + 1) = wsN gw i + 1 := by rw [wsN, if_neg hm]
                have hmm : metM gw (i + 1) = metM gw i := by rw [metM, if_neg hm]
                rw [← hws, ← hmm, show i + 2 + 1 = i + 1 + 2 by omega] at hl
                exact ih_19 (i + 1) (by omega) (by omega) _ _ _ hw (lv_sub hl [4, 5, 2, 1, 0] rfl)
    exact loop_19 (n - 0 + 1) 0 (by omega) (Nat.lt_succ_self _) _ _ _ hw (lv_sub hl [3, 4, 2, 1, 0] rfl)
  · refine lv_iconst (v := (-1 : Int32)) hx hb dX4_wasted_10 (by decide) ?_
    exact hret (-1 : Int32) () _ _ _ _ dX4_wasted_11 rfl (ifF (by omega) rfl) hw

abbrev rm_X4_comes : Room := { frames := 3, cells := 0, slots := 0, locals := 67 }
set_option maxHeartbeats 4000000 in
set_option maxRecDepth 100000 in
theorem c_X4_comes (l : Launch) (G : XG) (x : Nat) (xt : Nat) (xw : Nat) (xo : Nat) (xh : Nat) (xr : Nat) (xs : Nat) (xi : Nat) (xd : Nat) (xf : Nat) (nb : Nat) (pa : Nat) (pt : Nat) (off : Nat) (ha : Nat) (n : Nat) (nl : Nat) (ns : Nat) (tr : Int64) (u1 : Int32) (u2 : Int32) (u3 : Int32) (u4 : Int64) (u5 : Int32) (a : Int32) (hpa : pa ≤ 63) (hpa3 : 3 ≤ pa) (hpt : pt < pa) : CfI l yX4_comes wsX4_comes rm_X4_comes G [.ref x, .int a] [(x, .inr (4, [.ref xt, .int (nI nb), .int (nI pa), .int (nI pt), .int (nI off), .int (nI ha), .int (nI n), .ref xw, .ref xo, .ref xh, .int (nI nl), .ref xr, .int (nI ns), .ref xs, .ref xi, .long tr, .int u1, .int u2, .int u3, .long u4, .ref xd, .int u5, .ref xf]))] (comesM pa pt a.toInt) [(x, .inr (4, [.ref xt, .int (nI nb), .int (nI pa), .int (nI pt), .int (nI off), .int (nI ha), .int (nI n), .ref xw, .ref xo, .ref xh, .int (nI nl), .ref xr, .int (nI ns), .ref xs, .ref xi, .long tr, .int u1, .int u2, .int u3, .long u4, .ref xd, .int u5, .ref xf]))] := by
  refine CtI.go (cc := cX4_comes) (maxL := 7) RX4 rfl (by decide) rfl (Nat.le_of_ble_eq_true rfl) ?_
  intro p e s m args below meth c A Q ls E hw hl hret
  have hx := E.1
  have hb := E.2.1
  have hinX4 : ∀ w ∈ wsX40, w ∈ wsX4_comes := (fun w h => List.mem_cons_of_mem _ (List.mem_append_right _ h))
  have hl : lv_has ls 7 [(0, .ref x), (1, .int a)] := hl
  refine lv_iload_n hx hb dX4_comes_0 rfl (lv_at hl 1 rfl) ?_
  refine lv_i2l (v := a.toInt64) hx hb dX4_comes_1 rfl ?_
  refine lv_lconst (v := (lN 0)) hx hb dX4_comes_2 (by decide) ?_
  refine lv_lconst (v := (lN 1)) hx hb dX4_comes_3 (by decide) ?_
  refine x_cfSi E hw hl.1 (As := [.long a.toInt64, .long (lN 0), .long (lN 1)]) (rest := []) (c_X4_in l G a.toInt64 (lN 0) (lN 1) a.toInt (0 : Int) (1 : Int) ((Int32.toInt_toInt64 _).trans rfl) (lN_toI (by decide)) (lN_toI (by decide))) 3 gX4_comes_X4_in rfl rfl rfl (by decide) ⟨Nat.le_of_ble_eq_true rfl, Nat.le_of_ble_eq_true rfl⟩ ⟨Nat.le_of_ble_eq_true rfl, Nat.le_of_ble_eq_true rfl⟩ rfl [] [0] rfl rfl rfl rfl rfl [0] [(x, .inr (4, [.ref xt, .int (nI nb), .int (nI pa), .int (nI pt), .int (nI off), .int (nI ha), .int (nI n), .ref xw, .ref xo, .ref xh, .int (nI nl), .ref xr, .int (nI ns), .ref xs, .ref xi, .long tr, .int u1, .int u2, .int u3, .long u4, .ref xd, .int u5, .ref xf]))] rfl rfl rfl (Nat.le_of_ble_eq_true rfl) dX4_comes_4 (fun H locs hw => ?_)
  refine x_ifb_ne E (P := (0 : Int) ≤ a.toInt ∧ a.toInt ≤ (1 : Int)) (tgt := 12) dX4_comes_7 (by decide) (fun c_1 => ?_) (fun c_1 => ?_)
  · refine lv_iload_n hx hb dX4_comes_12 rfl (lv_at hl 1 rfl) ?_
    refine x_if_ne E rfl (tgt := 25) dX4_comes_13 (by decide) (fun c_2 => ?_) (fun c_2 => ?_)
    · refine lv_iconst (v := (nI 0)) hx hb dX4_comes_25 (by decide) ?_
      refine lv_istore_n (lv' := [(2, .int (nI 0)), (0, .ref x), (1, .int a)]) hx hb dX4_comes_26 rfl hl (by decide) rfl (fun ls hl => ?_)
      refine lv_lconst (v := (lN 0)) hx hb dX4_comes_27 (by decide) ?_
      refine lv_lstore_n (lv' := [(3, .long (lN 0)), (2, .int (nI 0)), (0, .ref x), (1, .int a)]) hx hb dX4_comes_28 rfl hl (by decide) rfl (fun ls hl => ?_)
      refine lv_iconst (v := (nI 1)) hx hb dX4_comes_29 (by decide) ?_
      refine lv_istore (lv' := [(5, .int (nI 1)), (3, .long (lN 0)), (2, .int (nI 0)), (0, .ref x), (1, .int a)]) hx hb dX4_comes_30 hl (by decide) rfl (fun ls hl => ?_)
      have loop_32 : ∀ (fu : Nat) (j : Nat) (m0 : Nat) (n1 : Nat), 1 ≤ j → j ≤ pa → m0 < 9223372036854775808 → stM pa (pa - j) j m0 n1 = stM pa (pa - 1) 1 0 0 → pa - j < fu → ∀ (H : Heap) (locs : List Loc) (ls : Array Slot), Wd G s A [(x, .inr (4, [.ref xt, .int (nI nb), .int (nI pa), .int (nI pt), .int (nI off), .int (nI ha), .int (nI n), .ref xw, .ref xo, .ref xh, .int (nI nl), .ref xr, .int (nI ns), .ref xs, .ref xi, .long tr, .int u1, .int u2, .int u3, .long u4, .ref xd, .int u5, .ref xf]))] H locs → lv_has ls 7 [(0, .ref x), (1, .int a), (2, .int (nI n1)), (3, .long (lN m0)), (5, .int (nI j))] → W p l e rm_X4_comes s m args below meth c H locs 0 0 Q (F0 m 32 ls []) := by
        intro fu
        induction fu with
        | zero =>
          intro j m0 n1 hj1 hj hm0 hinv hmu
          exact absurd hmu (Nat.not_lt_zero _)
        | succ fu ih_32 =>
          intro j m0 n1 hj1 hj hm0 hinv hmu_32 H locs ls hw hl
          refine lv_iload hx hb dX4_comes_32 (lv_at hl 4 rfl) ?_
          refine lv_aload_n hx hb dX4_comes_34 rfl (lv_at hl 0 rfl) ?_
          refine x_get E hw (C := RX4) (T := TX4) (N := 23) hinX4 0 rfl rfl 2 (by decide) rfl (List.mem_of_getElem? (i := 2) rfl) dX4_comes_35 ?_
          refine x_icmp_ge E (nI_toI (show j < 2147483648 by omega)) (nI_toI (show pa < 2147483648 by omega)) (tgt := 102) dX4_comes_38 (by decide) (fun c_3 => ?_) (fun c_3 => ?_)
          · refine lv_iload_n hx hb dX4_comes_102 rfl (lv_at hl 2 rfl) ?_
            exact hret (nI n1) () _ _ _ _ dX4_comes_103 rfl (by unfold comesM; rw [if_pos (by omega), if_neg (by omega), ← hinv, show pa - j = 0 by omega, stM]) hw
          · refine lv_iload_n hx hb dX4_comes_41 rfl (lv_at hl 2 rfl) ?_
            refine lv_lload_n hx hb dX4_comes_42 rfl (lv_at hl 3 rfl) ?_
            refine lv_iload hx hb dX4_comes_43 (lv_at hl 4 rfl) ?_
            refine lv_lshr (v := (lN m0 >>> ((nI j).toInt64 &&& 63))) hx hb dX4_comes_45 rfl ?_
            refine lv_lconst (v := (lN 1)) hx hb dX4_comes_46 (by decide) ?_
            refine x_land E (v := (lN (m0 / 2 ^ j % 2))) dX4_comes_47 (lsh1 (by omega) (by omega)) ?_
            refine lv_lconst (v := (lN 0)) hx hb dX4_comes_48 (by decide) ?_
            refine x_lc_ne E (lN_toI (show m0 / 2 ^ j % 2 < 9223372036854775808 by omega)) (lN_toI (by decide)) (tgt := 57) dX4_comes_49 dX4_comes_50 (by decide) (fun c_4 => ?_) (fun c_4 => ?_)
            · have hbj : ¬ m0 / 2 ^ j % 2 = 0 := by omega
              refine lv_iconst (v := (nI 0)) hx hb dX4_comes_57 (by decide) ?_
              refine x_iadd E (v := (nI (n1 + (if m0 / 2 ^ j % 2 = 0 then 1 else 0)))) dX4_comes_58 (by rw [if_neg hbj, nI_add]) ?_
              refine lv_istore_n (lv' := [(2, .int (nI (n1 + (if m0 / 2 ^ j % 2 = 0 then 1 else 0)))), (0, .ref x), (1, .int a), (3, .long (lN m0)), (5, .int (nI j))]) hx hb dX4_comes_59 rfl hl (by decide) rfl (fun ls hl => ?_)
              refine lv_iload hx hb dX4_comes_60 (lv_at hl 4 rfl) ?_
              refine lv_istore (lv' := [(6, .int (nI j)), (2, .int (nI (n1 + (if m0 / 2 ^ j % 2 = 0 then 1 else 0)))), (0, .ref x), (1, .int a), (3, .long (lN m0)), (5, .int (nI j))]) hx hb dX4_comes_62 hl (by decide) rfl (fun ls hl => ?_)
              have loop_64 : ∀ (fu : Nat) (f : Nat) (m1 : Nat) (k : Nat), k < pa → m1 < 9223372036854775808 → 63 ≤ ct m1 63 + f → wkL pa f m1 k = wkL pa 63 m0 j → f < fu → ∀ (H : Heap) (locs : List Loc) (ls : Array Slot), Wd G s A [(x, .inr (4, [.ref xt, .int (nI nb), .int (nI pa), .int (nI pt), .int (nI off), .int (nI ha), .int (nI n), .ref xw, .ref xo, .ref xh, .int (nI nl), .ref xr, .int (nI ns), .ref xs, .ref xi, .long tr, .int u1, .int u2, .int u3, .long u4, .ref xd, .int u5, .ref xf]))] H locs → lv_has ls 7 [(0, .ref x), (1, .int a), (2, .int (nI (n1 + (if m0 / 2 ^ j % 2 = 0 then 1 else 0)))), (3, .long (lN m1)), (5, .int (nI j)), (6, .int (nI k))] → W p l e rm_X4_comes s m args below meth c H locs 0 0 Q (F0 m 64 ls []) := by
                intro fu
                induction fu with
                | zero =>
                  intro f m1 k hk hm1 hf hin hmu
                  exact absurd hmu (Nat.not_lt_zero _)
                | succ fu ih_64 =>
                  intro f m1 k hk hm1 hf hin hmu_64 H locs ls hw hl
                  refine lv_lload_n hx hb dX4_comes_64 rfl (lv_at hl 3 rfl) ?_
                  refine lv_iload hx hb dX4_comes_65 (lv_at hl 5 rfl) ?_
                  refine lv_lshr (v := (lN m1 >>> ((nI k).toInt64 &&& 63))) hx hb dX4_comes_67 rfl ?_
                  refine lv_lconst (v := (lN 1)) hx hb dX4_comes_68 (by decide) ?_
                  refine x_land E (v := (lN (m1 / 2 ^ k % 2))) dX4_comes_69 (lsh1 (by omega) (by omega)) ?_
                  refine lv_lconst (v := (lN 0)) hx hb dX4_comes_70 (by decide) ?_
                  refine x_lc_ne E (lN_toI (show m1 / 2 ^ k % 2 < 9223372036854775808 by omega)) (lN_toI (by decide)) (tgt := 96) dX4_comes_71 dX4_comes_72 (by decide) (fun c_5 => ?_) (fun c_5 => ?_)
                  · have hbk : ¬ m1 / 2 ^ k % 2 = 0 := by omega
                    have hwk : wkL pa 63 m0 j = m1 := by rw [← hin]; cases f <;> simp [wkL, hbk]
                    refine lv_iinc (v := (nI (j + 1))) (lv' := [(5, .int (nI (j + 1))), (0, .ref x), (1, .int a), (2, .int (nI (n1 + (if m0 / 2 ^ j % 2 = 0 then 1 else 0)))), (3, .long (lN m1)), (6, .int (nI k))]) hx hb dX4_comes_96 hl (k := 4) rfl (x_inc1 _) (by decide) rfl (fun ls hl => ?_)
                    refine lv_goto (tgt := 32) hx hb dX4_comes_99 (by decide) ?_
                    exact ih_32 (j + 1) m1 (n1 + (if m0 / 2 ^ j % 2 = 0 then 1 else 0)) (by omega) (by omega) hm1 (by rw [← hinv, stM_step (n := n1) (m := m0) (show j < pa by omega), hwk]) (by omega) _ _ _ hw (lv_sub hl [1, 2, 3, 4, 0] rfl)
                  · have hbk : m1 / 2 ^ k % 2 = 0 := by omega
                    have hct := ct_zero_lt (n := 63) hbk (by omega)
                    obtain ⟨f2, rfl⟩ : ∃ f2, f = f2 + 1 := ⟨f - 1, by omega⟩
                    have hco := ct_or hbk 63
                    rw [if_pos (show k < 63 by omega)] at hco
                    have hlt := or63 hm1 (show k < 63 by omega)
                    refine lv_lload_n hx hb dX4_comes_75 rfl (lv_at hl 3 rfl) ?_
                    refine lv_lconst (v := (lN 1)) hx hb dX4_comes_76 (by decide) ?_
                    refine lv_iload hx hb dX4_comes_77 (lv_at hl 5 rfl) ?_
                    refine lv_lshl (v := (lN (2 ^ k))) hx hb dX4_comes_79 (by rw [wb_shl 1 (by omega), Nat.one_mul]) ?_
                    refine x_lor E (v := (lN (m1 ||| (2 ^ k)))) dX4_comes_80 (x_orL _ _) ?_
                    refine lv_lstore_n (lv' := [(3, .long (lN (m1 ||| (2 ^ k)))), (0, .ref x), (1, .int a), (2, .int (nI (n1 + (if m0 / 2 ^ j % 2 = 0 then 1 else 0)))), (5, .int (nI j)), (6, .int (nI k))]) hx hb dX4_comes_81 rfl hl (by decide) rfl (fun ls hl => ?_)
                    refine lv_iload hx hb dX4_comes_82 (lv_at hl 5 rfl) ?_
                    refine lv_aload_n hx hb dX4_comes_84 rfl (lv_at hl 1 rfl) ?_
                    refine x_get E hw (C := RX4) (T := TX4) (N := 23) hinX4 0 rfl rfl 2 (by decide) rfl (List.mem_of_getElem? (i := 2) rfl) dX4_comes_85 ?_
                    refine x_cfSi E hw hl.1 (As := [.int (nI k), .int (nI pa)]) (rest := []) (c_X4_goes l G k pa (by omega)) 2 gX4_comes_X4_goes rfl rfl rfl (by decide) ⟨Nat.le_of_ble_eq_true rfl, Nat.le_of_ble_eq_true rfl⟩ ⟨Nat.le_of_ble_eq_true rfl, Nat.le_of_ble_eq_true rfl⟩ rfl [] [0] rfl rfl rfl rfl rfl [0] [(x, .inr (4, [.ref xt, .int (nI nb), .int (nI pa), .int (nI pt), .int (nI off), .int (nI ha), .int (nI n), .ref xw, .ref xo, .ref xh, .int (nI nl), .ref xr, .int (nI ns), .ref xs, .ref xi, .long tr, .int u1, .int u2, .int u3, .long u4, .ref xd, .int u5, .ref xf]))] rfl rfl rfl (Nat.le_of_ble_eq_true rfl) dX4_comes_88 (fun H locs hw => ?_)
                    refine lv_istore (lv' := [(6, .int (nI (gz pa k))), (3, .long (lN (m1 ||| (2 ^ k)))), (0, .ref x), (1, .int a), (2, .int (nI (n1 + (if m0 / 2 ^ j % 2 = 0 then 1 else 0)))), (5, .int (nI j))]) hx hb dX4_comes_91 hl (by decide) rfl (fun ls hl => ?_)
                    refine lv_goto (tgt := 64) hx hb dX4_comes_93 (by decide) ?_
                    exact ih_64 f2 (m1 ||| (2 ^ k)) (gz pa k) (gz_lt hk) (by omega) (by omega) (by rw [← hin, wkL, if_pos hbk]) (by omega) _ _ _ hw (lv_sub hl [2, 3, 4, 1, 5, 0] rfl)
              exact loop_64 (63 + 1) 63 m0 j (by omega) (by omega) (by omega) rfl (Nat.lt_succ_self _) _ _ _ hw (lv_sub hl [2, 3, 1, 4, 5, 0] rfl)
            · have hbj : m0 / 2 ^ j % 2 = 0 := by omega
              refine lv_iconst (v := (nI 1)) hx hb dX4_comes_53 (by decide) ?_
              refine lv_goto (tgt := 58) hx hb dX4_comes_54 (by decide) ?_
              refine x_iadd E (v := (nI (n1 + (if m0 / 2 ^ j % 2 = 0 then 1 else 0)))) dX4_comes_58 (by rw [if_pos hbj, nI_add]) ?_
              refine lv_istore_n (lv' := [(2, .int (nI (n1 + (if m0 / 2 ^ j % 2 = 0 then 1 else 0)))), (0, .ref x), (1, .int a), (3, .long (lN m0)), (5, .int (nI j))]) hx hb dX4_comes_59 rfl hl (by decide) rfl (fun ls hl => ?_)
              refine lv_iload hx hb dX4_comes_60 (lv_at hl 4 rfl) ?_
              refine lv_istore (lv' := [(6, .int (nI j)), (2, .int (nI (n1 + (if m0 / 2 ^ j % 2 = 0 then 1 else 0)))), (0, .ref x), (1, .int a), (3, .long (lN m0)), (5, .int (nI j))]) hx hb dX4_comes_62 hl (by decide) rfl (fun ls hl => ?_)
              have loop_64 : ∀ (fu : Nat) (f : Nat) (m1 : Nat) (k : Nat), k < pa → m1 < 9223372036854775808 → 63 ≤ ct m1 63 + f → wkL pa f m1 k = wkL pa 63 m0 j → f < fu → ∀ (H : Heap) (locs : List Loc) (ls : Array Slot), Wd G s A [(x, .inr (4, [.ref xt, .int (nI nb), .int (nI pa), .int (nI pt), .int (nI off), .int (nI ha), .int (nI n), .ref xw, .ref xo, .ref xh, .int (nI nl), .ref xr, .int (nI ns), .ref xs, .ref xi, .long tr, .int u1, .int u2, .int u3, .long u4, .ref xd, .int u5, .ref xf]))] H locs → lv_has ls 7 [(0, .ref x), (1, .int a), (2, .int (nI (n1 + (if m0 / 2 ^ j % 2 = 0 then 1 else 0)))), (3, .long (lN m1)), (5, .int (nI j)), (6, .int (nI k))] → W p l e rm_X4_comes s m args below meth c H locs 0 0 Q (F0 m 64 ls []) := by
                intro fu
                induction fu with
                | zero =>
                  intro f m1 k hk hm1 hf hin hmu
                  exact absurd hmu (Nat.not_lt_zero _)
                | succ fu ih_64 =>
                  intro f m1 k hk hm1 hf hin hmu_64 H locs ls hw hl
                  refine lv_lload_n hx hb dX4_comes_64 rfl (lv_at hl 3 rfl) ?_
                  refine lv_iload hx hb dX4_comes_65 (lv_at hl 5 rfl) ?_
                  refine lv_lshr (v := (lN m1 >>> ((nI k).toInt64 &&& 63))) hx hb dX4_comes_67 rfl ?_
                  refine lv_lconst (v := (lN 1)) hx hb dX4_comes_68 (by decide) ?_
                  refine x_land E (v := (lN (m1 / 2 ^ k % 2))) dX4_comes_69 (lsh1 (by omega) (by omega)) ?_
                  refine lv_lconst (v := (lN 0)) hx hb dX4_comes_70 (by decide) ?_
                  refine x_lc_ne E (lN_toI (show m1 / 2 ^ k % 2 < 9223372036854775808 by omega)) (lN_toI (by decide)) (tgt := 96) dX4_comes_71 dX4_comes_72 (by decide) (fun c_6 => ?_) (fun c_6 => ?_)
                  · have hbk : ¬ m1 / 2 ^ k % 2 = 0 := by omega
                    have hwk : wkL pa 63 m0 j = m1 := by rw [← hin]; cases f <;> simp [wkL, hbk]
                    refine lv_iinc (v := (nI (j + 1))) (lv' := [(5, .int (nI (j + 1))), (0, .ref x), (1, .int a), (2, .int (nI (n1 + (if m0 / 2 ^ j % 2 = 0 then 1 else 0)))), (3, .long (lN m1)), (6, .int (nI k))]) hx hb dX4_comes_96 hl (k := 4) rfl (x_inc1 _) (by decide) rfl (fun ls hl => ?_)
                    refine lv_goto (tgt := 32) hx hb dX4_comes_99 (by decide) ?_
                    exact ih_32 (j + 1) m1 (n1 + (if m0 / 2 ^ j % 2 = 0 then 1 else 0)) (by omega) (by omega) hm1 (by rw [← hinv, stM_step (n := n1) (m := m0) (show j < pa by omega), hwk]) (by omega) _ _ _ hw (lv_sub hl [1, 2, 3, 4, 0] rfl)
                  · have hbk : m1 / 2 ^ k % 2 = 0 := by omega
                    have hct := ct_zero_lt (n := 63) hbk (by omega)
                    obtain ⟨f2, rfl⟩ : ∃ f2, f = f2 + 1 := ⟨f - 1, by omega⟩
                    have hco := ct_or hbk 63
                    rw [if_pos (show k < 63 by omega)] at hco
                    have hlt := or63 hm1 (show k < 63 by omega)
                    refine lv_lload_n hx hb dX4_comes_75 rfl (lv_at hl 3 rfl) ?_
                    refine lv_lconst (v := (lN 1)) hx hb dX4_comes_76 (by decide) ?_
                    refine lv_iload hx hb dX4_comes_77 (lv_at hl 5 rfl) ?_
                    refine lv_lshl (v := (lN (2 ^ k))) hx hb dX4_comes_79 (by rw [wb_shl 1 (by omega), Nat.one_mul]) ?_
                    refine x_lor E (v := (lN (m1 ||| (2 ^ k)))) dX4_comes_80 (x_orL _ _) ?_
                    refine lv_lstore_n (lv' := [(3, .long (lN (m1 ||| (2 ^ k)))), (0, .ref x), (1, .int a), (2, .int (nI (n1 + (if m0 / 2 ^ j % 2 = 0 then 1 else 0)))), (5, .int (nI j)), (6, .int (nI k))]) hx hb dX4_comes_81 rfl hl (by decide) rfl (fun ls hl => ?_)
                    refine lv_iload hx hb dX4_comes_82 (lv_at hl 5 rfl) ?_
                    refine lv_aload_n hx hb dX4_comes_84 rfl (lv_at hl 1 rfl) ?_
                    refine x_get E hw (C := RX4) (T := TX4) (N := 23) hinX4 0 rfl rfl 2 (by decide) rfl (List.mem_of_getElem? (i := 2) rfl) dX4_comes_85 ?_
                    refine x_cfSi E hw hl.1 (As := [.int (nI k), .int (nI pa)]) (rest := []) (c_X4_goes l G k pa (by omega)) 2 gX4_comes_X4_goes rfl rfl rfl (by decide) ⟨Nat.le_of_ble_eq_true rfl, Nat.le_of_ble_eq_true rfl⟩ ⟨Nat.le_of_ble_eq_true rfl, Nat.le_of_ble_eq_true rfl⟩ rfl [] [0] rfl rfl rfl rfl rfl [0] [(x, .inr (4, [.ref xt, .int (nI nb), .int (nI pa), .int (nI pt), .int (nI off), .int (nI ha), .int (nI n), .ref xw, .ref xo, .ref xh, .int (nI nl), .ref xr, .int (nI ns), .ref xs, .ref xi, .long tr, .int u1, .int u2, .int u3, .long u4, .ref xd, .int u5, .ref xf]))] rfl rfl rfl (Nat.le_of_ble_eq_true rfl) dX4_comes_88 (fun H locs hw => ?_)
                    refine lv_istore (lv' := [(6, .int (nI (gz pa k))), (3, .long (lN (m1 ||| (2 ^ k)))), (0, .ref x), (1, .int a), (2, .int (nI (n1 + (if m0 / 2 ^ j % 2 = 0 then 1 else 0)))), (5, .int (nI j))]) hx hb dX4_comes_91 hl (by decide) rfl (fun ls hl => ?_)
                    refine lv_goto (tgt := 64) hx hb dX4_comes_93 (by decide) ?_
                    exact ih_64 f2 (m1 ||| (2 ^ k)) (gz pa k) (gz_lt hk) (by omega) (by omega) (by rw [← hin, wkL, if_pos hbk]) (by omega) _ _ _ hw (lv_sub hl [2, 3, 4, 1, 5, 0] rfl)
              exact loop_64 (63 + 1) 63 m0 j (by omega) (by omega) (by omega) rfl (Nat.lt_succ_self _) _ _ _ hw (lv_sub hl [2, 3, 1, 4, 5, 0] rfl)
      exact loop_32 (pa - 1 + 1) 1 0 0 (by omega) (by omega) (by omega) rfl (Nat.lt_succ_self _) _ _ _ hw (lv_sub hl [3, 4, 2, 1, 0] rfl)
    · refine lv_aload_n hx hb dX4_comes_16 rfl (lv_at hl 0 rfl) ?_
      refine lv_aload_n hx hb dX4_comes_17 rfl (lv_at hl 0 rfl) ?_
      refine x_get E hw (C := RX4) (T := TX4) (N := 23) hinX4 0 rfl rfl 3 (by decide) rfl (List.mem_of_getElem? (i := 1) rfl) dX4_comes_18 ?_
      refine x_cfVi E hw hl.1 (As := [.int (nI pt)]) (rest := []) (c_X4_round l G x xt xw xo xh xr xs xi xd xf nb pa pt off ha n nl ns tr u1 u2 u3 u4 u5 (nI pt) (by omega) (by omega)) 1 gX4_comes_X4_round rfl rfl rfl (by decide) ⟨Nat.le_of_ble_eq_true rfl, Nat.le_of_ble_eq_true rfl⟩ ⟨Nat.le_of_ble_eq_true rfl, Nat.le_of_ble_eq_true rfl⟩ rfl 0 (ci := 4) (C := RX4) (T := TX4) (N := 23) rfl rfl [0] [] rfl rfl rfl rfl rfl [0] [(x, .inr (4, [.ref xt, .int (nI nb), .int (nI pa), .int (nI pt), .int (nI off), .int (nI ha), .int (nI n), .ref xw, .ref xo, .ref xh, .int (nI nl), .ref xr, .int (nI ns), .ref xs, .ref xi, .long tr, .int u1, .int u2, .int u3, .long u4, .ref xd, .int u5, .ref xf]))] rfl rfl rfl (Nat.le_of_ble_eq_true rfl) dX4_comes_21 (fun H locs hw => ?_)
      exact hret (roundM pa (nI pt).toInt) () _ _ _ _ dX4_comes_24 rfl (by unfold comesM; rw [if_pos (by omega), if_pos (by omega)]; rw [show (nI pt).toInt = (pt : Int) from nI_toI (by omega)]) hw
  · refine lv_iconst (v := (-1 : Int32)) hx hb dX4_comes_10 (by decide) ?_
    exact hret (-1 : Int32) () _ _ _ _ dX4_comes_11 rfl (ifF (by omega) rfl) hw

abbrev rm_X4_from : Room := { frames := 1, cells := 0, slots := 0, locals := 25 }
set_option maxHeartbeats 4000000 in
set_option maxRecDepth 100000 in
theorem c_X4_from (l : Launch) (G : XG) (x : Nat) (xt : Nat) (xw : Nat) (xo : Nat) (xh : Nat) (xr : Nat) (xs : Nat) (xi : Nat) (xd : Nat) (xf : Nat) (nb : Nat) (pa : Nat) (pt : Nat) (off : Nat) (ha : Nat) (n : Nat) (nl : Nat) (ns : Nat) (tr : Int64) (u1 : Int32) (u2 : Int32) (u3 : Int32) (u4 : Int64) (u5 : Int32) (gs : Nat → Nat) (a : Int32) (hns : ns ≤ 8) (hgs : ∀ q, gs q < 63) (hpa : pa ≤ 63) (hpa3 : 3 ≤ pa) : CfI l yX4_from wsX4_from rm_X4_from G [.ref x, .int a] [(x, .inr (4, [.ref xt, .int (nI nb), .int (nI pa), .int (nI pt), .int (nI off), .int (nI ha), .int (nI n), .ref xw, .ref xo, .ref xh, .int (nI nl), .ref xr, .int (nI ns), .ref xs, .ref xi, .long tr, .int u1, .int u2, .int u3, .long u4, .ref xd, .int u5, .ref xf])), (xs, .inl (cI G, 8, .inl (fI gs)))] (fromF (frM pa (ssN gs ns) (pa - 1) (0, -9)) a.toInt) [(x, .inr (4, [.ref xt, .int (nI nb), .int (nI pa), .int (nI pt), .int (nI off), .int (nI ha), .int (nI n), .ref xw, .ref xo, .ref xh, .int (nI nl), .ref xr, .int (nI ns), .ref xs, .ref xi, .long tr, .int u1, .int u2, .int u3, .long u4, .ref xd, .int u5, .ref xf])), (xs, .inl (cI G, 8, .inl (fI gs)))] := by
  refine CtI.go (cc := cX4_from) (maxL := 11) RX4 rfl (by decide) rfl (Nat.le_of_ble_eq_true rfl) ?_
  intro p e s m args below meth c A Q ls E hw hl hret
  have hx := E.1
  have hb := E.2.1
  have hinX4 : ∀ w ∈ wsX40, w ∈ wsX4_from := (fun w h => List.mem_cons_of_mem _ (List.mem_append_right _ h))
  have hl : lv_has ls 11 [(0, .ref x), (1, .int a)] := hl
  refine lv_iload_n hx hb dX4_from_0 rfl (lv_at hl 1 rfl) ?_
  refine lv_i2l (v := a.toInt64) hx hb dX4_from_1 rfl ?_
  refine lv_lconst (v := (lN 0)) hx hb dX4_from_2 (by decide) ?_
  refine lv_lconst (v := (lN 1)) hx hb dX4_from_3 (by decide) ?_
  refine x_cfSi E hw hl.1 (As := [.long a.toInt64, .long (lN 0), .long (lN 1)]) (rest := []) (c_X4_in l G a.toInt64 (lN 0) (lN 1) a.toInt (0 : Int) (1 : Int) ((Int32.toInt_toInt64 _).trans rfl) (lN_toI (by decide)) (lN_toI (by decide))) 3 gX4_from_X4_in rfl rfl rfl (by decide) ⟨Nat.le_of_ble_eq_true rfl, Nat.le_of_ble_eq_true rfl⟩ ⟨Nat.le_of_ble_eq_true rfl, Nat.le_of_ble_eq_true rfl⟩ rfl [] [0, 1] rfl rfl rfl rfl rfl [0, 1] [(x, .inr (4, [.ref xt, .int (nI nb), .int (nI pa), .int (nI pt), .int (nI off), .int (nI ha), .int (nI n), .ref xw, .ref xo, .ref xh, .int (nI nl), .ref xr, .int (nI ns), .ref xs, .ref xi, .long tr, .int u1, .int u2, .int u3, .long u4, .ref xd, .int u5, .ref xf])), (xs, .inl (cI G, 8, .inl (fI gs)))] rfl rfl rfl (Nat.le_of_ble_eq_true rfl) dX4_from_4 (fun H locs hw => ?_)
  refine x_ifb_ne E (P := (0 : Int) ≤ a.toInt ∧ a.toInt ≤ (1 : Int)) (tgt := 12) dX4_from_7 (by decide) (fun c_1 => ?_) (fun c_1 => ?_)
  · refine lv_lconst (v := (lN 0)) hx hb dX4_from_12 (by decide) ?_
    refine lv_lstore_n (lv' := [(2, .long (lN 0)), (0, .ref x), (1, .int a)]) hx hb dX4_from_13 rfl hl (by decide) rfl (fun ls hl => ?_)
    refine lv_iconst (v := (nI 0)) hx hb dX4_from_14 (by decide) ?_
    refine lv_istore (lv' := [(4, .int (nI 0)), (2, .long (lN 0)), (0, .ref x), (1, .int a)]) hx hb dX4_from_15 hl (by decide) rfl (fun ls hl => ?_)
    have loop_17 : ∀ (fu : Nat) (i : Nat), i ≤ ns → ns - i < fu → ∀ (H : Heap) (locs : List Loc) (ls : Array Slot), Wd G s A [(x, .inr (4, [.ref xt, .int (nI nb), .int (nI pa), .int (nI pt), .int (nI off), .int (nI ha), .int (nI n), .ref xw, .ref xo, .ref xh, .int (nI nl), .ref xr, .int (nI ns), .ref xs, .ref xi, .long tr, .int u1, .int u2, .int u3, .long u4, .ref xd, .int u5, .ref xf])), (xs, .inl (cI G, 8, .inl (fI gs)))] H locs → lv_has ls 11 [(0, .ref x), (1, .int a), (2, .long (lN (ssN gs i))), (4, .int (nI i))] → W p l e rm_X4_from s m args below meth c H locs 0 0 Q (F0 m 17 ls []) := by
      intro fu
      induction fu with
      | zero =>
        intro i hi hmu
        exact absurd hmu (Nat.not_lt_zero _)
      | succ fu ih_17 =>
        intro i hi hmu_17 H locs ls hw hl
        refine lv_iload hx hb dX4_from_17 (lv_at hl 3 rfl) ?_
        refine lv_aload_n hx hb dX4_from_19 rfl (lv_at hl 0 rfl) ?_
        refine x_get E hw (C := RX4) (T := TX4) (N := 23) hinX4 0 rfl rfl 12 (by decide) rfl (List.mem_of_getElem? (i := 1) rfl) dX4_from_20 ?_
        refine x_icmp_ge E (nI_toI (show i < 2147483648 by omega)) (nI_toI (show ns < 2147483648 by omega)) (tgt := 44) dX4_from_23 (by decide) (fun c_2 => ?_) (fun c_2 => ?_)
        · obtain ⟨S, hS⟩ : ∃ S, S = ssN gs ns := ⟨_, rfl⟩
          rw [show i = ns by omega, ← hS] at hl
          have hSl : S < 9223372036854775808 := by rw [hS]; exact ssN_lt hgs _
          refine lv_iconst (v := (nI 0)) hx hb dX4_from_44 (by decide) ?_
          refine lv_istore (lv' := [(4, .int (nI 0)), (0, .ref x), (1, .int a), (2, .long (lN S))]) hx hb dX4_from_45 hl (by decide) rfl (fun ls hl => ?_)
          refine lv_bipush (v := (-9 : Int32)) hx hb dX4_from_47 (by decide) ?_
          refine lv_istore (lv' := [(5, .int (-9 : Int32)), (4, .int (nI 0)), (0, .ref x), (1, .int a), (2, .long (lN S))]) hx hb dX4_from_49 hl (by decide) rfl (fun ls hl => ?_)
          refine lv_aload_n hx hb dX4_from_51 rfl (lv_at hl 2 rfl) ?_
          refine x_get E hw (C := RX4) (T := TX4) (N := 23) hinX4 0 rfl rfl 2 (by decide) rfl (List.mem_of_getElem? (i := 3) rfl) dX4_from_52 ?_
          refine lv_iconst (v := (nI 1)) hx hb dX4_from_55 (by decide) ?_
          refine x_isub E (v := (nI (pa - 1))) dX4_from_56 (pk_sub (by omega)) ?_
          refine lv_istore (lv' := [(6, .int (nI (pa - 1))), (5, .int (-9 : Int32)), (4, .int (nI 0)), (0, .ref x), (1, .int a), (2, .long (lN S))]) hx hb dX4_from_57 hl (by decide) rfl (fun ls hl => ?_)
          have loop_59 : ∀ (fu : Nat) (h : Nat) (w1 : Nat) (b1 : Int32), h < pa → frM pa S h (w1, b1) = frM pa S (pa - 1) (0, -9) → h < fu → ∀ (H : Heap) (locs : List Loc) (ls : Array Slot), Wd G s A [(x, .inr (4, [.ref xt, .int (nI nb), .int (nI pa), .int (nI pt), .int (nI off), .int (nI ha), .int (nI n), .ref xw, .ref xo, .ref xh, .int (nI nl), .ref xr, .int (nI ns), .ref xs, .ref xi, .long tr, .int u1, .int u2, .int u3, .long u4, .ref xd, .int u5, .ref xf])), (xs, .inl (cI G, 8, .inl (fI gs)))] H locs → lv_has ls 11 [(0, .ref x), (1, .int a), (2, .long (lN S)), (4, .int (nI w1)), (5, .int b1), (6, .int (nI h))] → W p l e rm_X4_from s m args below meth c H locs 0 0 Q (F0 m 59 ls []) := by
            intro fu
            induction fu with
            | zero =>
              intro h w1 b1 hh hout hmu
              exact absurd hmu (Nat.not_lt_zero _)
            | succ fu ih_59 =>
              intro h w1 b1 hh hout hmu_59 H locs ls hw hl
              refine lv_iload hx hb dX4_from_59 (lv_at hl 5 rfl) ?_
              refine x_if_le E (nI_toI (show h < 2147483648 by omega)) (tgt := 146) dX4_from_61 (by decide) (fun c_3 => ?_) (fun c_3 => ?_)
              · obtain rfl : h = 0 := by omega
                have hT : (w1, b1) = frM pa (ssN gs ns) (pa - 1) (0, -9) := by rw [← hS]; exact hout
                refine lv_iload_n hx hb dX4_from_146 rfl (lv_at hl 1 rfl) ?_
                refine x_if_ne E rfl (tgt := 155) dX4_from_147 (by decide) (fun c_4 => ?_) (fun c_4 => ?_)
                · refine lv_iload hx hb dX4_from_155 (lv_at hl 4 rfl) ?_
                  exact hret b1 () _ _ _ _ dX4_from_157 rfl (by rw [← hT]; exact ifT (by omega) (ifF (by omega) rfl)) hw
                · refine lv_iload hx hb dX4_from_150 (lv_at hl 3 rfl) ?_
                  refine lv_goto (tgt := 157) hx hb dX4_from_152 (by decide) ?_
                  exact hret (nI w1) () _ _ _ _ dX4_from_157 rfl (by rw [← hT]; exact ifT (by omega) (ifT (by omega) rfl)) hw
              · obtain ⟨q, rfl⟩ : ∃ q, h = q + 1 := ⟨h - 1, by omega⟩
                refine lv_lconst (v := (lN 0)) hx hb dX4_from_64 (by decide) ?_
                refine lv_lstore (lv' := [(7, .long (lN 0)), (0, .ref x), (1, .int a), (2, .long (lN S)), (4, .int (nI w1)), (5, .int b1), (6, .int (nI (q + 1)))]) hx hb dX4_from_65 hl (by decide) rfl (fun ls hl => ?_)
                refine lv_iload hx hb dX4_from_67 (lv_at hl 6 rfl) ?_
                refine lv_istore (lv' := [(9, .int (nI (q + 1))), (7, .long (lN 0)), (0, .ref x), (1, .int a), (2, .long (lN S)), (4, .int (nI w1)), (5, .int b1), (6, .int (nI (q + 1)))]) hx hb dX4_from_69 hl (by decide) rfl (fun ls hl => ?_)
                refine lv_iconst (v := (nI 0)) hx hb dX4_from_71 (by decide) ?_
                refine lv_istore (lv' := [(10, .int (nI 0)), (9, .int (nI (q + 1))), (7, .long (lN 0)), (0, .ref x), (1, .int a), (2, .long (lN S)), (4, .int (nI w1)), (5, .int b1), (6, .int (nI (q + 1)))]) hx hb dX4_from_72 hl (by decide) rfl (fun ls hl => ?_)
                have loop_74 : ∀ (fu : Nat) (d : Nat) (y : Nat) (k : Nat) (w2 : Nat) (b2 : Int32), k ≤ 21 → y < pa → d < 9223372036854775808 → fmL pa S (q + 1) (21 - k) d y (w2, b2) = fmL pa S (q + 1) 21 0 (q + 1) (w1, b1) → 21 - k < fu → ∀ (H : Heap) (locs : List Loc) (ls : Array Slot), Wd G s A [(x, .inr (4, [.ref xt, .int (nI nb), .int (nI pa), .int (nI pt), .int (nI off), .int (nI ha), .int (nI n), .ref xw, .ref xo, .ref xh, .int (nI nl), .ref xr, .int (nI ns), .ref xs, .ref xi, .long tr, .int u1, .int u2, .int u3, .long u4, .ref xd, .int u5, .ref xf])), (xs, .inl (cI G, 8, .inl (fI gs)))] H locs → lv_has ls 11 [(0, .ref x), (1, .int a), (2, .long (lN S)), (4, .int (nI w2)), (5, .int b2), (6, .int (nI (q + 1))), (7, .long (lN d)), (9, .int (nI y)), (10, .int (nI k))] → W p l e rm_X4_from s m args below meth c H locs 0 0 Q (F0 m 74 ls []) := by
                  intro fu
                  induction fu with
                  | zero =>
                    intro d y k w2 b2 hk hy hd hin hmu
                    exact absurd hmu (Nat.not_lt_zero _)
                  | succ fu ih_74 =>
                    intro d y k w2 b2 hk hy hd hin hmu_74 H locs ls hw hl
                    refine lv_iload hx hb dX4_from_74 (lv_at hl 8 rfl) ?_
                    refine lv_bipush (v := (nI 20)) hx hb dX4_from_76 (by decide) ?_
                    refine x_icmp_gt E (nI_toI (show k < 2147483648 by omega)) (nI_toI (by decide)) (tgt := 140) dX4_from_78 (by decide) (fun c_5 => ?_) (fun c_5 => ?_)
                    · refine lv_iinc (v := (nI q)) (lv' := [(6, .int (nI q)), (0, .ref x), (1, .int a), (2, .long (lN S)), (4, .int (nI w2)), (5, .int b2), (7, .long (lN d)), (9, .int (nI y)), (10, .int (nI k))]) hx hb dX4_from_140 hl (k := 5) rfl (pk_m1 _) (by decide) rfl (fun ls hl => ?_)
                      refine lv_goto (tgt := 59) hx hb dX4_from_143 (by decide) ?_
                      exact ih_59 q w2 b2 (by omega) (by rw [← hout, frM, ← hin, show 21 - k = 0 by omega, fmL]) (by omega) _ _ _ hw (lv_sub hl [1, 2, 3, 4, 5, 0] rfl)
                    · refine lv_lload hx hb dX4_from_81 (lv_at hl 6 rfl) ?_
                      refine lv_lconst (v := (lN 1)) hx hb dX4_from_83 (by decide) ?_
                      refine lv_iload hx hb dX4_from_84 (lv_at hl 7 rfl) ?_
                      refine lv_lshl (v := (lN (2 ^ y))) hx hb dX4_from_86 (by rw [wb_shl 1 (by omega), Nat.one_mul]) ?_
                      refine x_lor E (v := (lN (d ||| (2 ^ y)))) dX4_from_87 (x_orL _ _) ?_
                      refine lv_lstore (lv' := [(7, .long (lN (d ||| (2 ^ y)))), (0, .ref x), (1, .int a), (2, .long (lN S)), (4, .int (nI w2)), (5, .int b2), (6, .int (nI (q + 1))), (9, .int (nI y)), (10, .int (nI k))]) hx hb dX4_from_88 hl (by decide) rfl (fun ls hl => ?_)
                      have hor := or63 hd (show y < 63 by omega)
                      refine lv_iload hx hb dX4_from_90 (lv_at hl 4 rfl) ?_
                      refine lv_lload hx hb dX4_from_92 (lv_at hl 0 rfl) ?_
                      refine lv_lload_n hx hb dX4_from_94 rfl (lv_at hl 3 rfl) ?_
                      refine x_lc_ne E (lN_toI (show d ||| (2 ^ y) < 9223372036854775808 by omega)) (lN_toI (show S < 9223372036854775808 by omega)) (tgt := 103) dX4_from_95 dX4_from_96 (by decide) (fun c_6 => ?_) (fun c_6 => ?_)
                      · have hdS : ¬ d ||| 2 ^ y = S := by omega
                        refine lv_iconst (v := (nI 0)) hx hb dX4_from_103 (by decide) ?_
                        refine x_iadd E (v := (nI w2)) dX4_from_104 (by rw [nI_add]; rfl) ?_
                        refine lv_istore (lv' := [(4, .int (nI w2)), (7, .long (lN (d ||| (2 ^ y)))), (0, .ref x), (1, .int a), (2, .long (lN S)), (5, .int b2), (6, .int (nI (q + 1))), (9, .int (nI y)), (10, .int (nI k))]) hx hb dX4_from_105 hl (by decide) rfl (fun ls hl => ?_)
                        refine lv_lload hx hb dX4_from_107 (lv_at hl 1 rfl) ?_
                        refine lv_lload_n hx hb dX4_from_109 rfl (lv_at hl 4 rfl) ?_
                        refine x_lc_ne E (lN_toI (show d ||| (2 ^ y) < 9223372036854775808 by omega)) (lN_toI (show S < 9223372036854775808 by omega)) (tgt := 119) dX4_from_110 dX4_from_111 (by decide) (fun c_7 => ?_) (fun c_7 => ?_)
                        · refine lv_iload hx hb dX4_from_119 (lv_at hl 5 rfl) ?_
                          refine lv_istore (lv' := [(5, .int b2), (4, .int (nI w2)), (7, .long (lN (d ||| (2 ^ y)))), (0, .ref x), (1, .int a), (2, .long (lN S)), (6, .int (nI (q + 1))), (9, .int (nI y)), (10, .int (nI k))]) hx hb dX4_from_121 hl (by decide) rfl (fun ls hl => ?_)
                          refine lv_iload hx hb dX4_from_123 (lv_at hl 7 rfl) ?_
                          refine lv_aload_n hx hb dX4_from_125 rfl (lv_at hl 3 rfl) ?_
                          refine x_get E hw (C := RX4) (T := TX4) (N := 23) hinX4 0 rfl rfl 2 (by decide) rfl (List.mem_of_getElem? (i := 3) rfl) dX4_from_126 ?_
                          refine x_cfSi E hw hl.1 (As := [.int (nI y), .int (nI pa)]) (rest := []) (c_X4_goes l G y pa (by omega)) 2 gX4_from_X4_goes rfl rfl rfl (by decide) ⟨Nat.le_of_ble_eq_true rfl, Nat.le_of_ble_eq_true rfl⟩ ⟨Nat.le_of_ble_eq_true rfl, Nat.le_of_ble_eq_true rfl⟩ rfl [] [0, 1] rfl rfl rfl rfl rfl [0, 1] [(x, .inr (4, [.ref xt, .int (nI nb), .int (nI pa), .int (nI pt), .int (nI off), .int (nI ha), .int (nI n), .ref xw, .ref xo, .ref xh, .int (nI nl), .ref xr, .int (nI ns), .ref xs, .ref xi, .long tr, .int u1, .int u2, .int u3, .long u4, .ref xd, .int u5, .ref xf])), (xs, .inl (cI G, 8, .inl (fI gs)))] rfl rfl rfl (Nat.le_of_ble_eq_true rfl) dX4_from_129 (fun H locs hw => ?_)
                          refine lv_istore (lv' := [(9, .int (nI (gz pa y))), (5, .int b2), (4, .int (nI w2)), (7, .long (lN (d ||| (2 ^ y)))), (0, .ref x), (1, .int a), (2, .long (lN S)), (6, .int (nI (q + 1))), (10, .int (nI k))]) hx hb dX4_from_132 hl (by decide) rfl (fun ls hl => ?_)
                          refine lv_iinc (v := (nI (k + 1))) (lv' := [(10, .int (nI (k + 1))), (9, .int (nI (gz pa y))), (5, .int b2), (4, .int (nI w2)), (7, .long (lN (d ||| (2 ^ y)))), (0, .ref x), (1, .int a), (2, .long (lN S)), (6, .int (nI (q + 1)))]) hx hb dX4_from_134 hl (k := 8) rfl (x_inc1 _) (by decide) rfl (fun ls hl => ?_)
                          refine lv_goto (tgt := 74) hx hb dX4_from_137 (by decide) ?_
                          exact ih_74 (d ||| (2 ^ y)) (gz pa y) (k + 1) w2 b2 (by omega) (gz_lt hy) (by omega) (by have h9 := fmL_step (P := pa) (S := S) (g := q + 1) (d := d) (x := y) (t := (w2, b2)) (show k < 21 by omega); rw [hin] at h9; dsimp only at h9; rw [if_neg hdS, if_neg hdS] at h9; exact h9.symm) (by omega) _ _ _ hw (lv_sub hl [5, 6, 7, 3, 2, 8, 4, 1, 0] rfl)
                        · exfalso; omega
                      · have hdS : d ||| 2 ^ y = S := by omega
                        refine lv_iconst (v := (nI 1)) hx hb dX4_from_99 (by decide) ?_
                        refine lv_goto (tgt := 104) hx hb dX4_from_100 (by decide) ?_
                        refine x_iadd E (v := (nI (w2 + 1))) dX4_from_104 (nI_add _ _) ?_
                        refine lv_istore (lv' := [(4, .int (nI (w2 + 1))), (7, .long (lN (d ||| (2 ^ y)))), (0, .ref x), (1, .int a), (2, .long (lN S)), (5, .int b2), (6, .int (nI (q + 1))), (9, .int (nI y)), (10, .int (nI k))]) hx hb dX4_from_105 hl (by decide) rfl (fun ls hl => ?_)
                        refine lv_lload hx hb dX4_from_107 (lv_at hl 1 rfl) ?_
                        refine lv_lload_n hx hb dX4_from_109 rfl (lv_at hl 4 rfl) ?_
                        refine x_lc_ne E (lN_toI (show d ||| (2 ^ y) < 9223372036854775808 by omega)) (lN_toI (show S < 9223372036854775808 by omega)) (tgt := 119) dX4_from_110 dX4_from_111 (by decide) (fun c_8 => ?_) (fun c_8 => ?_)
                        · exfalso; omega
                        · refine lv_iload hx hb dX4_from_114 (lv_at hl 6 rfl) ?_
                          refine lv_goto (tgt := 121) hx hb dX4_from_116 (by decide) ?_
                          refine lv_istore (lv' := [(5, .int (nI (q + 1))), (4, .int (nI (w2 + 1))), (7, .long (lN (d ||| (2 ^ y)))), (0, .ref x), (1, .int a), (2, .long (lN S)), (6, .int (nI (q + 1))), (9, .int (nI y)), (10, .int (nI k))]) hx hb dX4_from_121 hl (by decide) rfl (fun ls hl => ?_)
                          refine lv_iload hx hb dX4_from_123 (lv_at hl 7 rfl) ?_
                          refine lv_aload_n hx hb dX4_from_125 rfl (lv_at hl 3 rfl) ?_
                          refine x_get E hw (C := RX4) (T := TX4) (N := 23) hinX4 0 rfl rfl 2 (by decide) rfl (List.mem_of_getElem? (i := 3) rfl) dX4_from_126 ?_
                          refine x_cfSi E hw hl.1 (As := [.int (nI y), .int (nI pa)]) (rest := []) (c_X4_goes l G y pa (by omega)) 2 gX4_from_X4_goes rfl rfl rfl (by decide) ⟨Nat.le_of_ble_eq_true rfl, Nat.le_of_ble_eq_true rfl⟩ ⟨Nat.le_of_ble_eq_true rfl, Nat.le_of_ble_eq_true rfl⟩ rfl [] [0, 1] rfl rfl rfl rfl rfl [0, 1] [(x, .inr (4, [.ref xt, .int (nI nb), .int (nI pa), .int (nI pt), .int (nI off), .int (nI ha), .int (nI n), .ref xw, .ref xo, .ref xh, .int (nI nl), .ref xr, .int (nI ns), .ref xs, .ref xi, .long tr, .int u1, .int u2, .int u3, .long u4, .ref xd, .int u5, .ref xf])), (xs, .inl (cI G, 8, .inl (fI gs)))] rfl rfl rfl (Nat.le_of_ble_eq_true rfl) dX4_from_129 (fun H locs hw => ?_)
                          refine lv_istore (lv' := [(9, .int (nI (gz pa y))), (5, .int (nI (q + 1))), (4, .int (nI (w2 + 1))), (7, .long (lN (d ||| (2 ^ y)))), (0, .ref x), (1, .int a), (2, .long (lN S)), (6, .int (nI (q + 1))), (10, .int (nI k))]) hx hb dX4_from_132 hl (by decide) rfl (fun ls hl => ?_)
                          refine lv_iinc (v := (nI (k + 1))) (lv' := [(10, .int (nI (k + 1))), (9, .int (nI (gz pa y))), (5, .int (nI (q + 1))), (4, .int (nI (w2 + 1))), (7, .long (lN (d ||| (2 ^ y)))), (0, .ref x), (1, .int a), (2, .long (lN S)), (6, .int (nI (q + 1)))]) hx hb dX4_from_134 hl (k := 8) rfl (x_inc1 _) (by decide) rfl (fun ls hl => ?_)
                          refine lv_goto (tgt := 74) hx hb dX4_from_137 (by decide) ?_
                          exact ih_74 (d ||| (2 ^ y)) (gz pa y) (k + 1) (w2 + 1) (nI (q + 1)) (by omega) (gz_lt hy) (by omega) (by have h9 := fmL_step (P := pa) (S := S) (g := q + 1) (d := d) (x := y) (t := (w2, b2)) (show k < 21 by omega); rw [hin] at h9; dsimp only at h9; rw [if_pos hdS, if_pos hdS] at h9; exact h9.symm) (by omega) _ _ _ hw (lv_sub hl [5, 6, 7, 3, 2, 8, 4, 1, 0] rfl)
                exact loop_74 (21 - 0 + 1) 0 (q + 1) 0 w1 b1 (by omega) (by omega) (by omega) rfl (Nat.lt_succ_self _) _ _ _ hw (lv_sub hl [3, 4, 5, 6, 7, 8, 2, 1, 0] rfl)
          exact loop_59 ((pa - 1) + 1) (pa - 1) 0 (-9 : Int32) (by omega) rfl (Nat.lt_succ_self _) _ _ _ hw (lv_sub hl [3, 4, 5, 2, 1, 0] rfl)
        · have hgsi := hgs i
          refine lv_lload_n hx hb dX4_from_26 rfl (lv_at hl 2 rfl) ?_
          refine lv_lconst (v := (lN 1)) hx hb dX4_from_27 (by decide) ?_
          refine lv_aload_n hx hb dX4_from_28 rfl (lv_at hl 0 rfl) ?_
          refine x_get E hw (C := RX4) (T := TX4) (N := 23) hinX4 0 rfl rfl 13 (by decide) rfl (List.mem_of_getElem? (i := 2) rfl) dX4_from_29 ?_
          refine lv_iload hx hb dX4_from_32 (lv_at hl 3 rfl) ?_
          refine x_iald E hw 1 (a := xs) (v := (nI (gs i))) rfl rfl (show i < 8 by omega) (by omega) rfl dX4_from_34 ?_
          refine lv_lshl (v := (lN (2 ^ gs i))) hx hb dX4_from_35 (by rw [wb_shl 1 (by omega), Nat.one_mul]) ?_
          refine x_lor E (v := (lN ((ssN gs i) ||| (2 ^ gs i)))) dX4_from_36 (x_orL _ _) ?_
          refine lv_lstore_n (lv' := [(2, .long (lN ((ssN gs i) ||| (2 ^ gs i)))), (0, .ref x), (1, .int a), (4, .int (nI i))]) hx hb dX4_from_37 rfl hl (by decide) rfl (fun ls hl => ?_)
          refine lv_iinc (v := (nI (i + 1))) (lv' := [(4, .int (nI (i + 1))), (2, .long (lN ((ssN gs i) ||| (2 ^ gs i)))), (0, .ref x), (1, .int a)]) hx hb dX4_from_38 hl (k := 3) rfl (x_inc1 _) (by decide) rfl (fun ls hl => ?_)
          refine lv_goto (tgt := 17) hx hb dX4_from_41 (by decide) ?_
          exact ih_17 (i + 1) (by omega) (by omega) _ _ _ hw (lv_sub hl [2, 3, 1, 0] rfl)
    exact loop_17 (ns - 0 + 1) 0 (by omega) (Nat.lt_succ_self _) _ _ _ hw (lv_sub hl [2, 3, 1, 0] rfl)
  · refine lv_iconst (v := (-1 : Int32)) hx hb dX4_from_10 (by decide) ?_
    exact hret (-1 : Int32) () _ _ _ _ dX4_from_11 rfl (ifF (by omega) rfl) hw

abbrev rm_X4_mark_bad : Room := { frames := 2, cells := 0, slots := 0, locals := 46 }
set_option maxHeartbeats 4000000 in
set_option maxRecDepth 100000 in
theorem c_X4_mark_bad (l : Launch) (G : XG) (x : Nat) (xt : Nat) (xw : Nat) (xo : Nat) (xh : Nat) (xr : Nat) (xs : Nat) (xi : Nat) (xd : Nat) (xf : Nat) (nb : Nat) (pa : Nat) (pt : Nat) (off : Nat) (ha : Nat) (n : Nat) (nl : Nat) (ns : Nat) (tr : Int64) (u1 : Int32) (u2 : Int32) (u3 : Int32) (u4 : Int64) (u5 : Int32) (gw : Nat → Nat) (d : Int32) (k : Int32) (hn : n ≤ 23) (hn3 : 3 ≤ n) (hbad : ¬ ((0 ≤ d.toInt ∧ d.toInt ≤ 5) ∧ 0 ≤ k.toInt ∧ k.toInt < (n : Int))) : CfI l yX4_mark wsX4_mark rm_X4_mark_bad G [.ref x, .int d, .int k] [(x, .inr (4, [.ref xt, .int (nI nb), .int (nI pa), .int (nI pt), .int (nI off), .int (nI ha), .int (nI n), .ref xw, .ref xo, .ref xh, .int (nI nl), .ref xr, .int (nI ns), .ref xs, .ref xi, .long tr, .int u1, .int u2, .int u3, .long u4, .ref xd, .int u5, .ref xf])), (xw, .inl (cJ G, 23, .inr (.inl (fJ gw))))] (-1000000 : Int32) [(x, .inr (4, [.ref xt, .int (nI nb), .int (nI pa), .int (nI pt), .int (nI off), .int (nI ha), .int (nI n), .ref xw, .ref xo, .ref xh, .int (nI nl), .ref xr, .int (nI ns), .ref xs, .ref xi, .long tr, .int u1, .int u2, .int u3, .long u4, .ref xd, .int u5, .ref xf])), (xw, .inl (cJ G, 23, .inr (.inl (fJ gw))))] := by
  refine CtI.go (cc := cX4_mark) (maxL := 6) RX4 rfl (by decide) rfl (Nat.le_of_ble_eq_true rfl) ?_
  intro p e s m args below meth c A Q ls E hw hl hret
  have hx := E.1
  have hb := E.2.1
  have hl : lv_has ls 6 [(0, .ref x), (1, .int d), (2, .int k)] := hl
  refine lv_iload_n hx hb dX4_mark_0 rfl (lv_at hl 1 rfl) ?_
  refine lv_i2l (v := d.toInt64) hx hb dX4_mark_1 rfl ?_
  refine lv_lconst (v := (lN 0)) hx hb dX4_mark_2 (by decide) ?_
  refine lv_ldc2 (v := (5)) hx hb E.2.2.2.1 (E.2.2.2.2 _ (List.mem_of_getElem? (i := 1) rfl)) dX4_mark_3 ?_
  refine x_topl (v := lN 5) (by decide) ?_
  refine x_cfSi E hw hl.1 (As := [.long d.toInt64, .long (lN 0), .long (lN 5)]) (rest := []) (c_X4_in l G d.toInt64 (lN 0) (lN 5) d.toInt (0 : Int) (5 : Int) ((Int32.toInt_toInt64 _).trans rfl) (lN_toI (by decide)) (lN_toI (by decide))) 3 gX4_mark_X4_in rfl rfl rfl (by decide) ⟨Nat.le_of_ble_eq_true rfl, Nat.le_of_ble_eq_true rfl⟩ ⟨Nat.le_of_ble_eq_true rfl, Nat.le_of_ble_eq_true rfl⟩ rfl [] [0, 1] rfl rfl rfl rfl rfl [0, 1] [(x, .inr (4, [.ref xt, .int (nI nb), .int (nI pa), .int (nI pt), .int (nI off), .int (nI ha), .int (nI n), .ref xw, .ref xo, .ref xh, .int (nI nl), .ref xr, .int (nI ns), .ref xs, .ref xi, .long tr, .int u1, .int u2, .int u3, .long u4, .ref xd, .int u5, .ref xf])), (xw, .inl (cJ G, 23, .inr (.inl (fJ gw))))] rfl rfl rfl (Nat.le_of_ble_eq_true rfl) dX4_mark_6 (fun H locs hw => ?_)
  refine x_ifb_eq E (P := (0 : Int) ≤ d.toInt ∧ d.toInt ≤ (5 : Int)) (tgt := 20) dX4_mark_9 (by decide) (fun c_1 => ?_) (fun c_1 => ?_)
  · refine lv_ldc (v := (-1000000)) hx hb E.2.2.2.1 (E.2.2.2.2 _ (List.mem_of_getElem? (i := 2) rfl)) dX4_mark_20 ?_
    exact hret (-1000000 : Int32) () _ _ _ _ dX4_mark_22 rfl rfl hw
  · refine lv_aload_n hx hb dX4_mark_12 rfl (lv_at hl 0 rfl) ?_
    refine lv_iload_n hx hb dX4_mark_13 rfl (lv_at hl 2 rfl) ?_
    refine x_cfVi E hw hl.1 (As := [.int k]) (rest := []) (c_X4_isCrease l G x xt xw xo xh xr xs xi xd xf nb pa pt off ha n nl ns tr u1 u2 u3 u4 u5 k (by omega) (by omega)) 1 gX4_mark_X4_isCrease rfl rfl rfl (by decide) ⟨Nat.le_of_ble_eq_true rfl, Nat.le_of_ble_eq_true rfl⟩ ⟨Nat.le_of_ble_eq_true rfl, Nat.le_of_ble_eq_true rfl⟩ rfl 0 (ci := 4) (C := RX4) (T := TX4) (N := 23) rfl rfl [0] [1] rfl rfl rfl rfl rfl [1, 0] [(x, .inr (4, [.ref xt, .int (nI nb), .int (nI pa), .int (nI pt), .int (nI off), .int (nI ha), .int (nI n), .ref xw, .ref xo, .ref xh, .int (nI nl), .ref xr, .int (nI ns), .ref xs, .ref xi, .long tr, .int u1, .int u2, .int u3, .long u4, .ref xd, .int u5, .ref xf])), (xw, .inl (cJ G, 23, .inr (.inl (fJ gw))))] rfl rfl rfl (Nat.le_of_ble_eq_true rfl) dX4_mark_14 (fun H locs hw => ?_)
    refine x_ifb_ne E (P := 0 ≤ k.toInt ∧ k.toInt < (n : Int)) (tgt := 23) dX4_mark_17 (by decide) (fun c_2 => ?_) (fun c_2 => ?_)
    · exfalso; omega
    · refine lv_ldc (v := (-1000000)) hx hb E.2.2.2.1 (E.2.2.2.2 _ (List.mem_of_getElem? (i := 2) rfl)) dX4_mark_20 ?_
      exact hret (-1000000 : Int32) () _ _ _ _ dX4_mark_22 rfl rfl hw

abbrev rm_X4_mark_0 : Room := { frames := 2, cells := 0, slots := 0, locals := 46 }
set_option maxHeartbeats 4000000 in
set_option maxRecDepth 100000 in
theorem c_X4_mark_0 (l : Launch) (G : XG) (x : Nat) (xt : Nat) (xw : Nat) (xo : Nat) (xh : Nat) (xr : Nat) (xs : Nat) (xi : Nat) (xd : Nat) (xf : Nat) (nb : Nat) (pa : Nat) (pt : Nat) (off : Nat) (ha : Nat) (n : Nat) (nl : Nat) (ns : Nat) (tr : Int64) (u1 : Int32) (u2 : Int32) (u3 : Int32) (u4 : Int64) (u5 : Int32) (gw : Nat → Nat) (k : Nat) (hn : n ≤ 23) (hn3 : 3 ≤ n) (hk : k < n) (hgw : ∀ q, gw q < 1073741824) : CfI l yX4_mark wsX4_mark rm_X4_mark_0 G [.ref x, .int (nI 0), .int (nI k)] [(x, .inr (4, [.ref xt, .int (nI nb), .int (nI pa), .int (nI pt), .int (nI off), .int (nI ha), .int (nI n), .ref xw, .ref xo, .ref xh, .int (nI nl), .ref xr, .int (nI ns), .ref xs, .ref xi, .long tr, .int u1, .int u2, .int u3, .long u4, .ref xd, .int u5, .ref xf])), (xw, .inl (cJ G, 23, .inr (.inl (fJ gw))))] (nI k) [(x, .inr (4, [.ref xt, .int (nI nb), .int (nI pa), .int (nI pt), .int (nI off), .int (nI ha), .int (nI n), .ref xw, .ref xo, .ref xh, .int (nI nl), .ref xr, .int (nI ns), .ref xs, .ref xi, .long (tr + lN 1), .int u1, .int u2, .int u3, .long u4, .ref xd, .int u5, .ref xf])), (xw, .inl (cJ G, 23, .inr (.inl (fJ gw))))] := by
  refine CtI.go (cc := cX4_mark) (maxL := 6) RX4 rfl (by decide) rfl (Nat.le_of_ble_eq_true rfl) ?_
  intro p e s m args below meth c A Q ls E hw hl hret
  have hx := E.1
  have hb := E.2.1
  have hinX4 : ∀ w ∈ wsX40, w ∈ wsX4_mark := (fun w h => List.mem_cons_of_mem _ (List.mem_append_right _ h))
  have hl : lv_has ls 6 [(0, .ref x), (1, .int (nI 0)), (2, .int (nI k))] := hl
  refine lv_iload_n hx hb dX4_mark_0 rfl (lv_at hl 1 rfl) ?_
  refine lv_i2l (v := (lN 0)) hx hb dX4_mark_1 (nI_l (by omega)) ?_
  refine lv_lconst (v := (lN 0)) hx hb dX4_mark_2 (by decide) ?_
  refine lv_ldc2 (v := (5)) hx hb E.2.2.2.1 (E.2.2.2.2 _ (List.mem_of_getElem? (i := 1) rfl)) dX4_mark_3 ?_
  refine x_topl (v := lN 5) (by decide) ?_
  refine x_cfSi E hw hl.1 (As := [.long (lN 0), .long (lN 0), .long (lN 5)]) (rest := []) (c_X4_in l G (lN 0) (lN 0) (lN 5) (0 : Int) (0 : Int) (5 : Int) (lN_toI (by decide)) (lN_toI (by decide)) (lN_toI (by decide))) 3 gX4_mark_X4_in rfl rfl rfl (by decide) ⟨Nat.le_of_ble_eq_true rfl, Nat.le_of_ble_eq_true rfl⟩ ⟨Nat.le_of_ble_eq_true rfl, Nat.le_of_ble_eq_true rfl⟩ rfl [] [0, 1] rfl rfl rfl rfl rfl [0, 1] [(x, .inr (4, [.ref xt, .int (nI nb), .int (nI pa), .int (nI pt), .int (nI off), .int (nI ha), .int (nI n), .ref xw, .ref xo, .ref xh, .int (nI nl), .ref xr, .int (nI ns), .ref xs, .ref xi, .long tr, .int u1, .int u2, .int u3, .long u4, .ref xd, .int u5, .ref xf])), (xw, .inl (cJ G, 23, .inr (.inl (fJ gw))))] rfl rfl rfl (Nat.le_of_ble_eq_true rfl) dX4_mark_6 (fun H locs hw => ?_)
  refine x_ifb_eq E (P := (0 : Int) ≤ (0 : Int) ∧ (0 : Int) ≤ (5 : Int)) (tgt := 20) dX4_mark_9 (by decide) (fun c_1 => ?_) (fun c_1 => ?_)
  · exfalso; omega
  · refine lv_aload_n hx hb dX4_mark_12 rfl (lv_at hl 0 rfl) ?_
    refine lv_iload_n hx hb dX4_mark_13 rfl (lv_at hl 2 rfl) ?_
    refine x_cfVi E hw hl.1 (As := [.int (nI k)]) (rest := []) (c_X4_isCreaseN l G x xt xw xo xh xr xs xi xd xf nb pa pt off ha n nl ns tr u1 u2 u3 u4 u5 k (by omega) (by omega) (by omega)) 1 gX4_mark_X4_isCrease rfl rfl rfl (by decide) ⟨Nat.le_of_ble_eq_true rfl, Nat.le_of_ble_eq_true rfl⟩ ⟨Nat.le_of_ble_eq_true rfl, Nat.le_of_ble_eq_true rfl⟩ rfl 0 (ci := 4) (C := RX4) (T := TX4) (N := 23) rfl rfl [0] [1] rfl rfl rfl rfl rfl [1, 0] [(x, .inr (4, [.ref xt, .int (nI nb), .int (nI pa), .int (nI pt), .int (nI off), .int (nI ha), .int (nI n), .ref xw, .ref xo, .ref xh, .int (nI nl), .ref xr, .int (nI ns), .ref xs, .ref xi, .long tr, .int u1, .int u2, .int u3, .long u4, .ref xd, .int u5, .ref xf])), (xw, .inl (cJ G, 23, .inr (.inl (fJ gw))))] rfl rfl rfl (Nat.le_of_ble_eq_true rfl) dX4_mark_14 (fun H locs hw => ?_)
    refine x_ifb_ne E (P := k < n) (tgt := 23) dX4_mark_17 (by decide) (fun c_2 => ?_) (fun c_2 => ?_)
    · refine lv_aload_n hx hb dX4_mark_23 rfl (lv_at hl 0 rfl) ?_
      refine lv_dup hx hb dX4_mark_24 rfl ?_
      refine x_get E hw (C := RX4) (T := TX4) (N := 23) hinX4 0 rfl rfl 15 (by decide) rfl (List.mem_of_getElem? (i := 3) rfl) dX4_mark_25 ?_
      refine lv_iload_n hx hb dX4_mark_28 rfl (lv_at hl 1 rfl) ?_
      refine x_if_ne E (nI_toI (by decide)) (tgt := 36) dX4_mark_29 (by decide) (fun c_3 => ?_) (fun c_3 => ?_)
      · exact absurd c_3 (by decide)
      · refine lv_lconst (v := (lN 1)) hx hb dX4_mark_32 (by decide) ?_
        refine lv_goto (tgt := 83) hx hb dX4_mark_33 (by decide) ?_
        refine x_ladd E (v := (tr + (lN 1))) dX4_mark_83 rfl ?_
        refine x_put E hw (C := RX4) (T := TX4) (N := 23) (ws1 := [(x, .inr (4, [.ref xt, .int (nI nb), .int (nI pa), .int (nI pt), .int (nI off), .int (nI ha), .int (nI n), .ref xw, .ref xo, .ref xh, .int (nI nl), .ref xr, .int (nI ns), .ref xs, .ref xi, .long (tr + (lN 1)), .int u1, .int u2, .int u3, .long u4, .ref xd, .int u5, .ref xf])), (xw, .inl (cJ G, 23, .inr (.inl (fJ gw))))]) hinX4 tyX4_ok nmX4 0 rfl rfl 15 (by decide) (List.mem_of_getElem? (i := 3) rfl) rfl rfl rfl (Nat.le_of_ble_eq_true rfl) rfl dX4_mark_84 (fun H locs hw => ?_)
        have hgk := hgw k
        by_cases hm : gw k % 1048576 = 0
        · have hgk := hgw k
          refine lv_aload_n hx hb dX4_mark_87 rfl (lv_at hl 0 rfl) ?_
          refine lv_iload_n hx hb dX4_mark_88 rfl (lv_at hl 2 rfl) ?_
          refine x_cfVi E hw hl.1 (As := [.int (nI k)]) (rest := []) (c_X4_partOfY l G x xt xw xo xh xr xs xi xd xf nb pa pt off ha n nl ns (tr + (lN 1)) u1 u2 u3 u4 u5 k gw (by omega) (hgw _) (by assumption)) 1 gX4_mark_X4_partOf rfl rfl rfl (by decide) ⟨Nat.le_of_ble_eq_true rfl, Nat.le_of_ble_eq_true rfl⟩ ⟨Nat.le_of_ble_eq_true rfl, Nat.le_of_ble_eq_true rfl⟩ rfl 0 (ci := 4) (C := RX4) (T := TX4) (N := 23) rfl rfl [0, 1] [] rfl rfl rfl rfl rfl [0, 1] [(x, .inr (4, [.ref xt, .int (nI nb), .int (nI pa), .int (nI pt), .int (nI off), .int (nI ha), .int (nI n), .ref xw, .ref xo, .ref xh, .int (nI nl), .ref xr, .int (nI ns), .ref xs, .ref xi, .long (tr + (lN 1)), .int u1, .int u2, .int u3, .long u4, .ref xd, .int u5, .ref xf])), (xw, .inl (cJ G, 23, .inr (.inl (fJ gw))))] rfl rfl rfl (Nat.le_of_ble_eq_true rfl) dX4_mark_89 (fun H locs hw => ?_)
          refine lv_istore_n (lv' := [(3, .int (nI (gw k / 1048576))), (0, .ref x), (1, .int (nI 0)), (2, .int (nI k))]) hx hb dX4_mark_92 rfl hl (by decide) rfl (fun ls hl => ?_)
          refine lv_iload_n hx hb dX4_mark_93 rfl (lv_at hl 3 rfl) ?_
          refine lv_iload_n hx hb dX4_mark_94 rfl (lv_at hl 0 rfl) ?_
          refine lv_bipush (v := (-9 : Int32)) hx hb dX4_mark_95 (by decide) ?_
          refine x_icmp_ne E (nI_toI (show gw k / 1048576 < 2147483648 by omega)) (show ((-9 : Int32)).toInt = -9 by decide) (tgt := 104) dX4_mark_97 (by decide) (fun c_4 => ?_) (fun c_4 => ?_)
          · refine lv_iload_n hx hb dX4_mark_104 rfl (lv_at hl 0 rfl) ?_
            refine x_iadd E (v := (nI (k + pz (gw k)))) dX4_mark_105 (by rw [nI_add, pz_y hm]) ?_
            refine lv_istore (lv' := [(4, .int (nI (k + pz (gw k)))), (3, .int (nI (gw k / 1048576))), (0, .ref x), (1, .int (nI 0)), (2, .int (nI k))]) hx hb dX4_mark_106 hl (by decide) rfl (fun ls hl => ?_)
            refine lv_iload_n hx hb dX4_mark_108 rfl (lv_at hl 4 rfl) ?_
            refine lv_aload_n hx hb dX4_mark_109 rfl (lv_at hl 2 rfl) ?_
            refine x_get E hw (C := RX4) (T := TX4) (N := 23) hinX4 0 rfl rfl 6 (by decide) rfl (List.mem_of_getElem? (i := 9) rfl) dX4_mark_110 ?_
            refine x_isub E (v := (nI k - nI n)) dX4_mark_113 rfl ?_
            refine lv_istore (lv' := [(5, .int (nI k - nI n)), (4, .int (nI (k + pz (gw k)))), (3, .int (nI (gw k / 1048576))), (0, .ref x), (1, .int (nI 0)), (2, .int (nI k))]) hx hb dX4_mark_114 hl (by decide) rfl (fun ls hl => ?_)
            refine lv_iload_n hx hb dX4_mark_116 rfl (lv_at hl 4 rfl) ?_
            refine x_if_ne E (nI_toI (by decide)) (tgt := 124) dX4_mark_117 (by decide) (fun c_5 => ?_) (fun c_5 => ?_)
            · exact absurd c_5 (by decide)
            · refine lv_iload_n hx hb dX4_mark_120 rfl (lv_at hl 5 rfl) ?_
              refine lv_goto (tgt := 177) hx hb dX4_mark_121 (by decide) ?_
              exact hret (nI k) () _ _ _ _ dX4_mark_177 rfl rfl hw
          · exfalso; omega
        · have hgk := hgw k
          refine lv_aload_n hx hb dX4_mark_87 rfl (lv_at hl 0 rfl) ?_
          refine lv_iload_n hx hb dX4_mark_88 rfl (lv_at hl 2 rfl) ?_
          refine x_cfVi E hw hl.1 (As := [.int (nI k)]) (rest := []) (c_X4_partOfN l G x xt xw xo xh xr xs xi xd xf nb pa pt off ha n nl ns (tr + (lN 1)) u1 u2 u3 u4 u5 k gw (by omega) (hgw _) (by assumption)) 1 gX4_mark_X4_partOf rfl rfl rfl (by decide) ⟨Nat.le_of_ble_eq_true rfl, Nat.le_of_ble_eq_true rfl⟩ ⟨Nat.le_of_ble_eq_true rfl, Nat.le_of_ble_eq_true rfl⟩ rfl 0 (ci := 4) (C := RX4) (T := TX4) (N := 23) rfl rfl [0, 1] [] rfl rfl rfl rfl rfl [0, 1] [(x, .inr (4, [.ref xt, .int (nI nb), .int (nI pa), .int (nI pt), .int (nI off), .int (nI ha), .int (nI n), .ref xw, .ref xo, .ref xh, .int (nI nl), .ref xr, .int (nI ns), .ref xs, .ref xi, .long (tr + (lN 1)), .int u1, .int u2, .int u3, .long u4, .ref xd, .int u5, .ref xf])), (xw, .inl (cJ G, 23, .inr (.inl (fJ gw))))] rfl rfl rfl (Nat.le_of_ble_eq_true rfl) dX4_mark_89 (fun H locs hw => ?_)
          refine lv_istore_n (lv' := [(3, .int (-9 : Int32)), (0, .ref x), (1, .int (nI 0)), (2, .int (nI k))]) hx hb dX4_mark_92 rfl hl (by decide) rfl (fun ls hl => ?_)
          refine lv_iload_n hx hb dX4_mark_93 rfl (lv_at hl 3 rfl) ?_
          refine lv_iload_n hx hb dX4_mark_94 rfl (lv_at hl 0 rfl) ?_
          refine lv_bipush (v := (-9 : Int32)) hx hb dX4_mark_95 (by decide) ?_
          refine x_icmp_ne E (show ((-9 : Int32)).toInt = -9 by decide) (show ((-9 : Int32)).toInt = -9 by decide) (tgt := 104) dX4_mark_97 (by decide) (fun c_6 => ?_) (fun c_6 => ?_)
          · exact absurd c_6 (by decide)
          · refine lv_iconst (v := (nI 0)) hx hb dX4_mark_100 (by decide) ?_
            refine lv_goto (tgt := 105) hx hb dX4_mark_101 (by decide) ?_
            refine x_iadd E (v := (nI (k + pz (gw k)))) dX4_mark_105 (by rw [nI_add, pz_n hm]) ?_
            refine lv_istore (lv' := [(4, .int (nI (k + pz (gw k)))), (3, .int (-9 : Int32)), (0, .ref x), (1, .int (nI 0)), (2, .int (nI k))]) hx hb dX4_mark_106 hl (by decide) rfl (fun ls hl => ?_)
            refine lv_iload_n hx hb dX4_mark_108 rfl (lv_at hl 4 rfl) ?_
            refine lv_aload_n hx hb dX4_mark_109 rfl (lv_at hl 2 rfl) ?_
            refine x_get E hw (C := RX4) (T := TX4) (N := 23) hinX4 0 rfl rfl 6 (by decide) rfl (List.mem_of_getElem? (i := 9) rfl) dX4_mark_110 ?_
            refine x_isub E (v := (nI k - nI n)) dX4_mark_113 rfl ?_
            refine lv_istore (lv' := [(5, .int (nI k - nI n)), (4, .int (nI (k + pz (gw k)))), (3, .int (-9 : Int32)), (0, .ref x), (1, .int (nI 0)), (2, .int (nI k))]) hx hb dX4_mark_114 hl (by decide) rfl (fun ls hl => ?_)
            refine lv_iload_n hx hb dX4_mark_116 rfl (lv_at hl 4 rfl) ?_
            refine x_if_ne E (nI_toI (by decide)) (tgt := 124) dX4_mark_117 (by decide) (fun c_7 => ?_) (fun c_7 => ?_)
            · exact absurd c_7 (by decide)
            · refine lv_iload_n hx hb dX4_mark_120 rfl (lv_at hl 5 rfl) ?_
              refine lv_goto (tgt := 177) hx hb dX4_mark_121 (by decide) ?_
              exact hret (nI k) () _ _ _ _ dX4_mark_177 rfl rfl hw
    · exfalso; omega

abbrev rm_X4_mark_1 : Room := { frames := 2, cells := 0, slots := 0, locals := 46 }
set_option maxHeartbeats 4000000 in
set_option maxRecDepth 100000 in
theorem c_X4_mark_1 (l : Launch) (G : XG) (x : Nat) (xt : Nat) (xw : Nat) (xo : Nat) (xh : Nat) (xr : Nat) (xs : Nat) (xi : Nat) (xd : Nat) (xf : Nat) (nb : Nat) (pa : Nat) (pt : Nat) (off : Nat) (ha : Nat) (n : Nat) (nl : Nat) (ns : Nat) (tr : Int64) (u1 : Int32) (u2 : Int32) (u3 : Int32) (u4 : Int64) (u5 : Int32) (gw : Nat → Nat) (k : Nat) (hn : n ≤ 23) (hn3 : 3 ≤ n) (hk : k < n) (hgw : ∀ q, gw q < 1073741824) : CfI l yX4_mark wsX4_mark rm_X4_mark_1 G [.ref x, .int (nI 1), .int (nI k)] [(x, .inr (4, [.ref xt, .int (nI nb), .int (nI pa), .int (nI pt), .int (nI off), .int (nI ha), .int (nI n), .ref xw, .ref xo, .ref xh, .int (nI nl), .ref xr, .int (nI ns), .ref xs, .ref xi, .long tr, .int u1, .int u2, .int u3, .long u4, .ref xd, .int u5, .ref xf])), (xw, .inl (cJ G, 23, .inr (.inl (fJ gw))))] (nI (k + pz (gw k))) [(x, .inr (4, [.ref xt, .int (nI nb), .int (nI pa), .int (nI pt), .int (nI off), .int (nI ha), .int (nI n), .ref xw, .ref xo, .ref xh, .int (nI nl), .ref xr, .int (nI ns), .ref xs, .ref xi, .long (tr + lN 11), .int u1, .int u2, .int u3, .long u4, .ref xd, .int u5, .ref xf])), (xw, .inl (cJ G, 23, .inr (.inl (fJ gw))))] := by
  refine CtI.go (cc := cX4_mark) (maxL := 6) RX4 rfl (by decide) rfl (Nat.le_of_ble_eq_true rfl) ?_
  intro p e s m args below meth c A Q ls E hw hl hret
  have hx := E.1
  have hb := E.2.1
  have hinX4 : ∀ w ∈ wsX40, w ∈ wsX4_mark := (fun w h => List.mem_cons_of_mem _ (List.mem_append_right _ h))
  have hl : lv_has ls 6 [(0, .ref x), (1, .int (nI 1)), (2, .int (nI k))] := hl
  refine lv_iload_n hx hb dX4_mark_0 rfl (lv_at hl 1 rfl) ?_
  refine lv_i2l (v := (lN 1)) hx hb dX4_mark_1 (nI_l (by omega)) ?_
  refine lv_lconst (v := (lN 0)) hx hb dX4_mark_2 (by decide) ?_
  refine lv_ldc2 (v := (5)) hx hb E.2.2.2.1 (E.2.2.2.2 _ (List.mem_of_getElem? (i := 1) rfl)) dX4_mark_3 ?_
  refine x_topl (v := lN 5) (by decide) ?_
  refine x_cfSi E hw hl.1 (As := [.long (lN 1), .long (lN 0), .long (lN 5)]) (rest := []) (c_X4_in l G (lN 1) (lN 0) (lN 5) (1 : Int) (0 : Int) (5 : Int) (lN_toI (by decide)) (lN_toI (by decide)) (lN_toI (by decide))) 3 gX4_mark_X4_in rfl rfl rfl (by decide) ⟨Nat.le_of_ble_eq_true rfl, Nat.le_of_ble_eq_true rfl⟩ ⟨Nat.le_of_ble_eq_true rfl, Nat.le_of_ble_eq_true rfl⟩ rfl [] [0, 1] rfl rfl rfl rfl rfl [0, 1] [(x, .inr (4, [.ref xt, .int (nI nb), .int (nI pa), .int (nI pt), .int (nI off), .int (nI ha), .int (nI n), .ref xw, .ref xo, .ref xh, .int (nI nl), .ref xr, .int (nI ns), .ref xs, .ref xi, .long tr, .int u1, .int u2, .int u3, .long u4, .ref xd, .int u5, .ref xf])), (xw, .inl (cJ G, 23, .inr (.inl (fJ gw))))] rfl rfl rfl (Nat.le_of_ble_eq_true rfl) dX4_mark_6 (fun H locs hw => ?_)
  refine x_ifb_eq E (P := (0 : Int) ≤ (1 : Int) ∧ (1 : Int) ≤ (5 : Int)) (tgt := 20) dX4_mark_9 (by decide) (fun c_1 => ?_) (fun c_1 => ?_)
  · exfalso; omega
  · refine lv_aload_n hx hb dX4_mark_12 rfl (lv_at hl 0 rfl) ?_
    refine lv_iload_n hx hb dX4_mark_13 rfl (lv_at hl 2 rfl) ?_
    refine x_cfVi E hw hl.1 (As := [.int (nI k)]) (rest := []) (c_X4_isCreaseN l G x xt xw xo xh xr xs xi xd xf nb pa pt off ha n nl ns tr u1 u2 u3 u4 u5 k (by omega) (by omega) (by omega)) 1 gX4_mark_X4_isCrease rfl rfl rfl (by decide) ⟨Nat.le_of_ble_eq_true rfl, Nat.le_of_ble_eq_true rfl⟩ ⟨Nat.le_of_ble_eq_true rfl, Nat.le_of_ble_eq_true rfl⟩ rfl 0 (ci := 4) (C := RX4) (T := TX4) (N := 23) rfl rfl [0] [1] rfl rfl rfl rfl rfl [1, 0] [(x, .inr (4, [.ref xt, .int (nI nb), .int (nI pa), .int (nI pt), .int (nI off), .int (nI ha), .int (nI n), .ref xw, .ref xo, .ref xh, .int (nI nl), .ref xr, .int (nI ns), .ref xs, .ref xi, .long tr, .int u1, .int u2, .int u3, .long u4, .ref xd, .int u5, .ref xf])), (xw, .inl (cJ G, 23, .inr (.inl (fJ gw))))] rfl rfl rfl (Nat.le_of_ble_eq_true rfl) dX4_mark_14 (fun H locs hw => ?_)
    refine x_ifb_ne E (P := k < n) (tgt := 23) dX4_mark_17 (by decide) (fun c_2 => ?_) (fun c_2 => ?_)
    · refine lv_aload_n hx hb dX4_mark_23 rfl (lv_at hl 0 rfl) ?_
      refine lv_dup hx hb dX4_mark_24 rfl ?_
      refine x_get E hw (C := RX4) (T := TX4) (N := 23) hinX4 0 rfl rfl 15 (by decide) rfl (List.mem_of_getElem? (i := 3) rfl) dX4_mark_25 ?_
      refine lv_iload_n hx hb dX4_mark_28 rfl (lv_at hl 1 rfl) ?_
      refine x_if_ne E (nI_toI (by decide)) (tgt := 36) dX4_mark_29 (by decide) (fun c_3 => ?_) (fun c_3 => ?_)
      · refine lv_iload_n hx hb dX4_mark_36 rfl (lv_at hl 1 rfl) ?_
        refine lv_iconst (v := (nI 1)) hx hb dX4_mark_37 (by decide) ?_
        refine x_icmp_ne E (nI_toI (by decide)) (nI_toI (by decide)) (tgt := 47) dX4_mark_38 (by decide) (fun c_4 => ?_) (fun c_4 => ?_)
        · exact absurd c_4 (by decide)
        · refine lv_ldc2 (v := (11)) hx hb E.2.2.2.1 (E.2.2.2.2 _ (List.mem_of_getElem? (i := 4) rfl)) dX4_mark_41 ?_
          refine x_topl (v := lN 11) (by decide) ?_
          refine lv_goto (tgt := 83) hx hb dX4_mark_44 (by decide) ?_
          refine x_ladd E (v := (tr + (lN 11))) dX4_mark_83 rfl ?_
          refine x_put E hw (C := RX4) (T := TX4) (N := 23) (ws1 := [(x, .inr (4, [.ref xt, .int (nI nb), .int (nI pa), .int (nI pt), .int (nI off), .int (nI ha), .int (nI n), .ref xw, .ref xo, .ref xh, .int (nI nl), .ref xr, .int (nI ns), .ref xs, .ref xi, .long (tr + (lN 11)), .int u1, .int u2, .int u3, .long u4, .ref xd, .int u5, .ref xf])), (xw, .inl (cJ G, 23, .inr (.inl (fJ gw))))]) hinX4 tyX4_ok nmX4 0 rfl rfl 15 (by decide) (List.mem_of_getElem? (i := 3) rfl) rfl rfl rfl (Nat.le_of_ble_eq_true rfl) rfl dX4_mark_84 (fun H locs hw => ?_)
          have hgk := hgw k
          by_cases hm : gw k % 1048576 = 0
          · have hgk := hgw k
            refine lv_aload_n hx hb dX4_mark_87 rfl (lv_at hl 0 rfl) ?_
            refine lv_iload_n hx hb dX4_mark_88 rfl (lv_at hl 2 rfl) ?_
            refine x_cfVi E hw hl.1 (As := [.int (nI k)]) (rest := []) (c_X4_partOfY l G x xt xw xo xh xr xs xi xd xf nb pa pt off ha n nl ns (tr + (lN 11)) u1 u2 u3 u4 u5 k gw (by omega) (hgw _) (by assumption)) 1 gX4_mark_X4_partOf rfl rfl rfl (by decide) ⟨Nat.le_of_ble_eq_true rfl, Nat.le_of_ble_eq_true rfl⟩ ⟨Nat.le_of_ble_eq_true rfl, Nat.le_of_ble_eq_true rfl⟩ rfl 0 (ci := 4) (C := RX4) (T := TX4) (N := 23) rfl rfl [0, 1] [] rfl rfl rfl rfl rfl [0, 1] [(x, .inr (4, [.ref xt, .int (nI nb), .int (nI pa), .int (nI pt), .int (nI off), .int (nI ha), .int (nI n), .ref xw, .ref xo, .ref xh, .int (nI nl), .ref xr, .int (nI ns), .ref xs, .ref xi, .long (tr + (lN 11)), .int u1, .int u2, .int u3, .long u4, .ref xd, .int u5, .ref xf])), (xw, .inl (cJ G, 23, .inr (.inl (fJ gw))))] rfl rfl rfl (Nat.le_of_ble_eq_true rfl) dX4_mark_89 (fun H locs hw => ?_)
            refine lv_istore_n (lv' := [(3, .int (nI (gw k / 1048576))), (0, .ref x), (1, .int (nI 1)), (2, .int (nI k))]) hx hb dX4_mark_92 rfl hl (by decide) rfl (fun ls hl => ?_)
            refine lv_iload_n hx hb dX4_mark_93 rfl (lv_at hl 3 rfl) ?_
            refine lv_iload_n hx hb dX4_mark_94 rfl (lv_at hl 0 rfl) ?_
            refine lv_bipush (v := (-9 : Int32)) hx hb dX4_mark_95 (by decide) ?_
            refine x_icmp_ne E (nI_toI (show gw k / 1048576 < 2147483648 by omega)) (show ((-9 : Int32)).toInt = -9 by decide) (tgt := 104) dX4_mark_97 (by decide) (fun c_5 => ?_) (fun c_5 => ?_)
            · refine lv_iload_n hx hb dX4_mark_104 rfl (lv_at hl 0 rfl) ?_
              refine x_iadd E (v := (nI (k + pz (gw k)))) dX4_mark_105 (by rw [nI_add, pz_y hm]) ?_
              refine lv_istore (lv' := [(4, .int (nI (k + pz (gw k)))), (3, .int (nI (gw k / 1048576))), (0, .ref x), (1, .int (nI 1)), (2, .int (nI k))]) hx hb dX4_mark_106 hl (by decide) rfl (fun ls hl => ?_)
              refine lv_iload_n hx hb dX4_mark_108 rfl (lv_at hl 4 rfl) ?_
              refine lv_aload_n hx hb dX4_mark_109 rfl (lv_at hl 2 rfl) ?_
              refine x_get E hw (C := RX4) (T := TX4) (N := 23) hinX4 0 rfl rfl 6 (by decide) rfl (List.mem_of_getElem? (i := 9) rfl) dX4_mark_110 ?_
              refine x_isub E (v := (nI k - nI n)) dX4_mark_113 rfl ?_
              refine lv_istore (lv' := [(5, .int (nI k - nI n)), (4, .int (nI (k + pz (gw k)))), (3, .int (nI (gw k / 1048576))), (0, .ref x), (1, .int (nI 1)), (2, .int (nI k))]) hx hb dX4_mark_114 hl (by decide) rfl (fun ls hl => ?_)
              refine lv_iload_n hx hb dX4_mark_116 rfl (lv_at hl 4 rfl) ?_
              refine x_if_ne E (nI_toI (by decide)) (tgt := 124) dX4_mark_117 (by decide) (fun c_6 => ?_) (fun c_6 => ?_)
              · refine lv_iload_n hx hb dX4_mark_124 rfl (lv_at hl 4 rfl) ?_
                refine lv_iconst (v := (nI 1)) hx hb dX4_mark_125 (by decide) ?_
                refine x_icmp_ne E (nI_toI (by decide)) (nI_toI (by decide)) (tgt := 134) dX4_mark_126 (by decide) (fun c_7 => ?_) (fun c_7 => ?_)
                · exact absurd c_7 (by decide)
                · refine lv_iload hx hb dX4_mark_129 (lv_at hl 1 rfl) ?_
                  refine lv_goto (tgt := 177) hx hb dX4_mark_131 (by decide) ?_
                  exact hret (nI (k + pz (gw k))) () _ _ _ _ dX4_mark_177 rfl rfl hw
              · exact absurd c_6 (by decide)
            · exfalso; omega
          · have hgk := hgw k
            refine lv_aload_n hx hb dX4_mark_87 rfl (lv_at hl 0 rfl) ?_
            refine lv_iload_n hx hb dX4_mark_88 rfl (lv_at hl 2 rfl) ?_
            refine x_cfVi E hw hl.1 (As := [.int (nI k)]) (rest := []) (c_X4_partOfN l G x xt xw xo xh xr xs xi xd xf nb pa pt off ha n nl ns (tr + (lN 11)) u1 u2 u3 u4 u5 k gw (by omega) (hgw _) (by assumption)) 1 gX4_mark_X4_partOf rfl rfl rfl (by decide) ⟨Nat.le_of_ble_eq_true rfl, Nat.le_of_ble_eq_true rfl⟩ ⟨Nat.le_of_ble_eq_true rfl, Nat.le_of_ble_eq_true rfl⟩ rfl 0 (ci := 4) (C := RX4) (T := TX4) (N := 23) rfl rfl [0, 1] [] rfl rfl rfl rfl rfl [0, 1] [(x, .inr (4, [.ref xt, .int (nI nb), .int (nI pa), .int (nI pt), .int (nI off), .int (nI ha), .int (nI n), .ref xw, .ref xo, .ref xh, .int (nI nl), .ref xr, .int (nI ns), .ref xs, .ref xi, .long (tr + (lN 11)), .int u1, .int u2, .int u3, .long u4, .ref xd, .int u5, .ref xf])), (xw, .inl (cJ G, 23, .inr (.inl (fJ gw))))] rfl rfl rfl (Nat.le_of_ble_eq_true rfl) dX4_mark_89 (fun H locs hw => ?_)
            refine lv_istore_n (lv' := [(3, .int (-9 : Int32)), (0, .ref x), (1, .int (nI 1)), (2, .int (nI k))]) hx hb dX4_mark_92 rfl hl (by decide) rfl (fun ls hl => ?_)
            refine lv_iload_n hx hb dX4_mark_93 rfl (lv_at hl 3 rfl) ?_
            refine lv_iload_n hx hb dX4_mark_94 rfl (lv_at hl 0 rfl) ?_
            refine lv_bipush (v := (-9 : Int32)) hx hb dX4_mark_95 (by decide) ?_
            refine x_icmp_ne E (show ((-9 : Int32)).toInt = -9 by decide) (show ((-9 : Int32)).toInt = -9 by decide) (tgt := 104) dX4_mark_97 (by decide) (fun c_8 => ?_) (fun c_8 => ?_)
            · exact absurd c_8 (by decide)
            · refine lv_iconst (v := (nI 0)) hx hb dX4_mark_100 (by decide) ?_
              refine lv_goto (tgt := 105) hx hb dX4_mark_101 (by decide) ?_
              refine x_iadd E (v := (nI (k + pz (gw k)))) dX4_mark_105 (by rw [nI_add, pz_n hm]) ?_
              refine lv_istore (lv' := [(4, .int (nI (k + pz (gw k)))), (3, .int (-9 : Int32)), (0, .ref x), (1, .int (nI 1)), (2, .int (nI k))]) hx hb dX4_mark_106 hl (by decide) rfl (fun ls hl => ?_)
              refine lv_iload_n hx hb dX4_mark_108 rfl (lv_at hl 4 rfl) ?_
              refine lv_aload_n hx hb dX4_mark_109 rfl (lv_at hl 2 rfl) ?_
              refine x_get E hw (C := RX4) (T := TX4) (N := 23) hinX4 0 rfl rfl 6 (by decide) rfl (List.mem_of_getElem? (i := 9) rfl) dX4_mark_110 ?_
              refine x_isub E (v := (nI k - nI n)) dX4_mark_113 rfl ?_
              refine lv_istore (lv' := [(5, .int (nI k - nI n)), (4, .int (nI (k + pz (gw k)))), (3, .int (-9 : Int32)), (0, .ref x), (1, .int (nI 1)), (2, .int (nI k))]) hx hb dX4_mark_114 hl (by decide) rfl (fun ls hl => ?_)
              refine lv_iload_n hx hb dX4_mark_116 rfl (lv_at hl 4 rfl) ?_
              refine x_if_ne E (nI_toI (by decide)) (tgt := 124) dX4_mark_117 (by decide) (fun c_9 => ?_) (fun c_9 => ?_)
              · refine lv_iload_n hx hb dX4_mark_124 rfl (lv_at hl 4 rfl) ?_
                refine lv_iconst (v := (nI 1)) hx hb dX4_mark_125 (by decide) ?_
                refine x_icmp_ne E (nI_toI (by decide)) (nI_toI (by decide)) (tgt := 134) dX4_mark_126 (by decide) (fun c_10 => ?_) (fun c_10 => ?_)
                · exact absurd c_10 (by decide)
                · refine lv_iload hx hb dX4_mark_129 (lv_at hl 1 rfl) ?_
                  refine lv_goto (tgt := 177) hx hb dX4_mark_131 (by decide) ?_
                  exact hret (nI (k + pz (gw k))) () _ _ _ _ dX4_mark_177 rfl rfl hw
              · exact absurd c_9 (by decide)
      · exact absurd c_3 (by decide)
    · exfalso; omega

abbrev rm_X4_mark_2 : Room := { frames := 2, cells := 0, slots := 0, locals := 46 }
set_option maxHeartbeats 4000000 in
set_option maxRecDepth 100000 in
theorem c_X4_mark_2 (l : Launch) (G : XG) (x : Nat) (xt : Nat) (xw : Nat) (xo : Nat) (xh : Nat) (xr : Nat) (xs : Nat) (xi : Nat) (xd : Nat) (xf : Nat) (nb : Nat) (pa : Nat) (pt : Nat) (off : Nat) (ha : Nat) (n : Nat) (nl : Nat) (ns : Nat) (tr : Int64) (u1 : Int32) (u2 : Int32) (u3 : Int32) (u4 : Int64) (u5 : Int32) (gw : Nat → Nat) (k : Nat) (hn : n ≤ 23) (hn3 : 3 ≤ n) (hk : k < n) (hgw : ∀ q, gw q < 1073741824) : CfI l yX4_mark wsX4_mark rm_X4_mark_2 G [.ref x, .int (nI 2), .int (nI k)] [(x, .inr (4, [.ref xt, .int (nI nb), .int (nI pa), .int (nI pt), .int (nI off), .int (nI ha), .int (nI n), .ref xw, .ref xo, .ref xh, .int (nI nl), .ref xr, .int (nI ns), .ref xs, .ref xi, .long tr, .int u1, .int u2, .int u3, .long u4, .ref xd, .int u5, .ref xf])), (xw, .inl (cJ G, 23, .inr (.inl (fJ gw))))] (nI k - nI n) [(x, .inr (4, [.ref xt, .int (nI nb), .int (nI pa), .int (nI pt), .int (nI off), .int (nI ha), .int (nI n), .ref xw, .ref xo, .ref xh, .int (nI nl), .ref xr, .int (nI ns), .ref xs, .ref xi, .long (tr + lN 101), .int u1, .int u2, .int u3, .long u4, .ref xd, .int u5, .ref xf])), (xw, .inl (cJ G, 23, .inr (.inl (fJ gw))))] := by
  refine CtI.go (cc := cX4_mark) (maxL := 6) RX4 rfl (by decide) rfl (Nat.le_of_ble_eq_true rfl) ?_
  intro p e s m args below meth c A Q ls E hw hl hret
  have hx := E.1
  have hb := E.2.1
  have hinX4 : ∀ w ∈ wsX40, w ∈ wsX4_mark := (fun w h => List.mem_cons_of_mem _ (List.mem_append_right _ h))
  have hl : lv_has ls 6 [(0, .ref x), (1, .int (nI 2)), (2, .int (nI k))] := hl
  refine lv_iload_n hx hb dX4_mark_0 rfl (lv_at hl 1 rfl) ?_
  refine lv_i2l (v := (lN 2)) hx hb dX4_mark_1 (nI_l (by omega)) ?_
  refine lv_lconst (v := (lN 0)) hx hb dX4_mark_2 (by decide) ?_
  refine lv_ldc2 (v := (5)) hx hb E.2.2.2.1 (E.2.2.2.2 _ (List.mem_of_getElem? (i := 1) rfl)) dX4_mark_3 ?_
  refine x_topl (v := lN 5) (by decide) ?_
  refine x_cfSi E hw hl.1 (As := [.long (lN 2), .long (lN 0), .long (lN 5)]) (rest := []) (c_X4_in l G (lN 2) (lN 0) (lN 5) (2 : Int) (0 : Int) (5 : Int) (lN_toI (by decide)) (lN_toI (by decide)) (lN_toI (by decide))) 3 gX4_mark_X4_in rfl rfl rfl (by decide) ⟨Nat.le_of_ble_eq_true rfl, Nat.le_of_ble_eq_true rfl⟩ ⟨Nat.le_of_ble_eq_true rfl, Nat.le_of_ble_eq_true rfl⟩ rfl [] [0, 1] rfl rfl rfl rfl rfl [0, 1] [(x, .inr (4, [.ref xt, .int (nI nb), .int (nI pa), .int (nI pt), .int (nI off), .int (nI ha), .int (nI n), .ref xw, .ref xo, .ref xh, .int (nI nl), .ref xr, .int (nI ns), .ref xs, .ref xi, .long tr, .int u1, .int u2, .int u3, .long u4, .ref xd, .int u5, .ref xf])), (xw, .inl (cJ G, 23, .inr (.inl (fJ gw))))] rfl rfl rfl (Nat.le_of_ble_eq_true rfl) dX4_mark_6 (fun H locs hw => ?_)
  refine x_ifb_eq E (P := (0 : Int) ≤ (2 : Int) ∧ (2 : Int) ≤ (5 : Int)) (tgt := 20) dX4_mark_9 (by decide) (fun c_1 => ?_) (fun c_1 => ?_)
  · exfalso; omega
  · refine lv_aload_n hx hb dX4_mark_12 rfl (lv_at hl 0 rfl) ?_
    refine lv_iload_n hx hb dX4_mark_13 rfl (lv_at hl 2 rfl) ?_
    refine x_cfVi E hw hl.1 (As := [.int (nI k)]) (rest := []) (c_X4_isCreaseN l G x xt xw xo xh xr xs xi xd xf nb pa pt off ha n nl ns tr u1 u2 u3 u4 u5 k (by omega) (by omega) (by omega)) 1 gX4_mark_X4_isCrease rfl rfl rfl (by decide) ⟨Nat.le_of_ble_eq_true rfl, Nat.le_of_ble_eq_true rfl⟩ ⟨Nat.le_of_ble_eq_true rfl, Nat.le_of_ble_eq_true rfl⟩ rfl 0 (ci := 4) (C := RX4) (T := TX4) (N := 23) rfl rfl [0] [1] rfl rfl rfl rfl rfl [1, 0] [(x, .inr (4, [.ref xt, .int (nI nb), .int (nI pa), .int (nI pt), .int (nI off), .int (nI ha), .int (nI n), .ref xw, .ref xo, .ref xh, .int (nI nl), .ref xr, .int (nI ns), .ref xs, .ref xi, .long tr, .int u1, .int u2, .int u3, .long u4, .ref xd, .int u5, .ref xf])), (xw, .inl (cJ G, 23, .inr (.inl (fJ gw))))] rfl rfl rfl (Nat.le_of_ble_eq_true rfl) dX4_mark_14 (fun H locs hw => ?_)
    refine x_ifb_ne E (P := k < n) (tgt := 23) dX4_mark_17 (by decide) (fun c_2 => ?_) (fun c_2 => ?_)
    · refine lv_aload_n hx hb dX4_mark_23 rfl (lv_at hl 0 rfl) ?_
      refine lv_dup hx hb dX4_mark_24 rfl ?_
      refine x_get E hw (C := RX4) (T := TX4) (N := 23) hinX4 0 rfl rfl 15 (by decide) rfl (List.mem_of_getElem? (i := 3) rfl) dX4_mark_25 ?_
      refine lv_iload_n hx hb dX4_mark_28 rfl (lv_at hl 1 rfl) ?_
      refine x_if_ne E (nI_toI (by decide)) (tgt := 36) dX4_mark_29 (by decide) (fun c_3 => ?_) (fun c_3 => ?_)
      · refine lv_iload_n hx hb dX4_mark_36 rfl (lv_at hl 1 rfl) ?_
        refine lv_iconst (v := (nI 1)) hx hb dX4_mark_37 (by decide) ?_
        refine x_icmp_ne E (nI_toI (by decide)) (nI_toI (by decide)) (tgt := 47) dX4_mark_38 (by decide) (fun c_4 => ?_) (fun c_4 => ?_)
        · refine lv_iload_n hx hb dX4_mark_47 rfl (lv_at hl 1 rfl) ?_
          refine lv_iconst (v := (nI 2)) hx hb dX4_mark_48 (by decide) ?_
          refine x_icmp_ne E (nI_toI (by decide)) (nI_toI (by decide)) (tgt := 58) dX4_mark_49 (by decide) (fun c_5 => ?_) (fun c_5 => ?_)
          · exact absurd c_5 (by decide)
          · refine lv_ldc2 (v := (101)) hx hb E.2.2.2.1 (E.2.2.2.2 _ (List.mem_of_getElem? (i := 5) rfl)) dX4_mark_52 ?_
            refine x_topl (v := lN 101) (by decide) ?_
            refine lv_goto (tgt := 83) hx hb dX4_mark_55 (by decide) ?_
            refine x_ladd E (v := (tr + (lN 101))) dX4_mark_83 rfl ?_
            refine x_put E hw (C := RX4) (T := TX4) (N := 23) (ws1 := [(x, .inr (4, [.ref xt, .int (nI nb), .int (nI pa), .int (nI pt), .int (nI off), .int (nI ha), .int (nI n), .ref xw, .ref xo, .ref xh, .int (nI nl), .ref xr, .int (nI ns), .ref xs, .ref xi, .long (tr + (lN 101)), .int u1, .int u2, .int u3, .long u4, .ref xd, .int u5, .ref xf])), (xw, .inl (cJ G, 23, .inr (.inl (fJ gw))))]) hinX4 tyX4_ok nmX4 0 rfl rfl 15 (by decide) (List.mem_of_getElem? (i := 3) rfl) rfl rfl rfl (Nat.le_of_ble_eq_true rfl) rfl dX4_mark_84 (fun H locs hw => ?_)
            have hgk := hgw k
            by_cases hm : gw k % 1048576 = 0
            · have hgk := hgw k
              refine lv_aload_n hx hb dX4_mark_87 rfl (lv_at hl 0 rfl) ?_
              refine lv_iload_n hx hb dX4_mark_88 rfl (lv_at hl 2 rfl) ?_
              refine x_cfVi E hw hl.1 (As := [.int (nI k)]) (rest := []) (c_X4_partOfY l G x xt xw xo xh xr xs xi xd xf nb pa pt off ha n nl ns (tr + (lN 101)) u1 u2 u3 u4 u5 k gw (by omega) (hgw _) (by assumption)) 1 gX4_mark_X4_partOf rfl rfl rfl (by decide) ⟨Nat.le_of_ble_eq_true rfl, Nat.le_of_ble_eq_true rfl⟩ ⟨Nat.le_of_ble_eq_true rfl, Nat.le_of_ble_eq_true rfl⟩ rfl 0 (ci := 4) (C := RX4) (T := TX4) (N := 23) rfl rfl [0, 1] [] rfl rfl rfl rfl rfl [0, 1] [(x, .inr (4, [.ref xt, .int (nI nb), .int (nI pa), .int (nI pt), .int (nI off), .int (nI ha), .int (nI n), .ref xw, .ref xo, .ref xh, .int (nI nl), .ref xr, .int (nI ns), .ref xs, .ref xi, .long (tr + (lN 101)), .int u1, .int u2, .int u3, .long u4, .ref xd, .int u5, .ref xf])), (xw, .inl (cJ G, 23, .inr (.inl (fJ gw))))] rfl rfl rfl (Nat.le_of_ble_eq_true rfl) dX4_mark_89 (fun H locs hw => ?_)
              refine lv_istore_n (lv' := [(3, .int (nI (gw k / 1048576))), (0, .ref x), (1, .int (nI 2)), (2, .int (nI k))]) hx hb dX4_mark_92 rfl hl (by decide) rfl (fun ls hl => ?_)
              refine lv_iload_n hx hb dX4_mark_93 rfl (lv_at hl 3 rfl) ?_
              refine lv_iload_n hx hb dX4_mark_94 rfl (lv_at hl 0 rfl) ?_
              refine lv_bipush (v := (-9 : Int32)) hx hb dX4_mark_95 (by decide) ?_
              refine x_icmp_ne E (nI_toI (show gw k / 1048576 < 2147483648 by omega)) (show ((-9 : Int32)).toInt = -9 by decide) (tgt := 104) dX4_mark_97 (by decide) (fun c_6 => ?_) (fun c_6 => ?_)
              · refine lv_iload_n hx hb dX4_mark_104 rfl (lv_at hl 0 rfl) ?_
                refine x_iadd E (v := (nI (k + pz (gw k)))) dX4_mark_105 (by rw [nI_add, pz_y hm]) ?_
                refine lv_istore (lv' := [(4, .int (nI (k + pz (gw k)))), (3, .int (nI (gw k / 1048576))), (0, .ref x), (1, .int (nI 2)), (2, .int (nI k))]) hx hb dX4_mark_106 hl (by decide) rfl (fun ls hl => ?_)
                refine lv_iload_n hx hb dX4_mark_108 rfl (lv_at hl 4 rfl) ?_
                refine lv_aload_n hx hb dX4_mark_109 rfl (lv_at hl 2 rfl) ?_
                refine x_get E hw (C := RX4) (T := TX4) (N := 23) hinX4 0 rfl rfl 6 (by decide) rfl (List.mem_of_getElem? (i := 9) rfl) dX4_mark_110 ?_
                refine x_isub E (v := (nI k - nI n)) dX4_mark_113 rfl ?_
                refine lv_istore (lv' := [(5, .int (nI k - nI n)), (4, .int (nI (k + pz (gw k)))), (3, .int (nI (gw k / 1048576))), (0, .ref x), (1, .int (nI 2)), (2, .int (nI k))]) hx hb dX4_mark_114 hl (by decide) rfl (fun ls hl => ?_)
                refine lv_iload_n hx hb dX4_mark_116 rfl (lv_at hl 4 rfl) ?_
                refine x_if_ne E (nI_toI (by decide)) (tgt := 124) dX4_mark_117 (by decide) (fun c_7 => ?_) (fun c_7 => ?_)
                · refine lv_iload_n hx hb dX4_mark_124 rfl (lv_at hl 4 rfl) ?_
                  refine lv_iconst (v := (nI 1)) hx hb dX4_mark_125 (by decide) ?_
                  refine x_icmp_ne E (nI_toI (by decide)) (nI_toI (by decide)) (tgt := 134) dX4_mark_126 (by decide) (fun c_8 => ?_) (fun c_8 => ?_)
                  · refine lv_iload_n hx hb dX4_mark_134 rfl (lv_at hl 4 rfl) ?_
                    refine lv_iconst (v := (nI 2)) hx hb dX4_mark_135 (by decide) ?_
                    refine x_icmp_ne E (nI_toI (by decide)) (nI_toI (by decide)) (tgt := 144) dX4_mark_136 (by decide) (fun c_9 => ?_) (fun c_9 => ?_)
                    · exact absurd c_9 (by decide)
                    · refine lv_iload hx hb dX4_mark_139 (lv_at hl 0 rfl) ?_
                      refine lv_goto (tgt := 177) hx hb dX4_mark_141 (by decide) ?_
                      exact hret (nI k - nI n) () _ _ _ _ dX4_mark_177 rfl rfl hw
                  · exact absurd c_8 (by decide)
                · exact absurd c_7 (by decide)
              · exfalso; omega
            · have hgk := hgw k
              refine lv_aload_n hx hb dX4_mark_87 rfl (lv_at hl 0 rfl) ?_
              refine lv_iload_n hx hb dX4_mark_88 rfl (lv_at hl 2 rfl) ?_
              refine x_cfVi E hw hl.1 (As := [.int (nI k)]) (rest := []) (c_X4_partOfN l G x xt xw xo xh xr xs xi xd xf nb pa pt off ha n nl ns (tr + (lN 101)) u1 u2 u3 u4 u5 k gw (by omega) (hgw _) (by assumption)) 1 gX4_mark_X4_partOf rfl rfl rfl (by decide) ⟨Nat.le_of_ble_eq_true rfl, Nat.le_of_ble_eq_true rfl⟩ ⟨Nat.le_of_ble_eq_true rfl, Nat.le_of_ble_eq_true rfl⟩ rfl 0 (ci := 4) (C := RX4) (T := TX4) (N := 23) rfl rfl [0, 1] [] rfl rfl rfl rfl rfl [0, 1] [(x, .inr (4, [.ref xt, .int (nI nb), .int (nI pa), .int (nI pt), .int (nI off), .int (nI ha), .int (nI n), .ref xw, .ref xo, .ref xh, .int (nI nl), .ref xr, .int (nI ns), .ref xs, .ref xi, .long (tr + (lN 101)), .int u1, .int u2, .int u3, .long u4, .ref xd, .int u5, .ref xf])), (xw, .inl (cJ G, 23, .inr (.inl (fJ gw))))] rfl rfl rfl (Nat.le_of_ble_eq_true rfl) dX4_mark_89 (fun H locs hw => ?_)
              refine lv_istore_n (lv' := [(3, .int (-9 : Int32)), (0, .ref x), (1, .int (nI 2)), (2, .int (nI k))]) hx hb dX4_mark_92 rfl hl (by decide) rfl (fun ls hl => ?_)
              refine lv_iload_n hx hb dX4_mark_93 rfl (lv_at hl 3 rfl) ?_
              refine lv_iload_n hx hb dX4_mark_94 rfl (lv_at hl 0 rfl) ?_
              refine lv_bipush (v := (-9 : Int32)) hx hb dX4_mark_95 (by decide) ?_
              refine x_icmp_ne E (show ((-9 : Int32)).toInt = -9 by decide) (show ((-9 : Int32)).toInt = -9 by decide) (tgt := 104) dX4_mark_97 (by decide) (fun c_10 => ?_) (fun c_10 => ?_)
              · exact absurd c_10 (by decide)
              · refine lv_iconst (v := (nI 0)) hx hb dX4_mark_100 (by decide) ?_
                refine lv_goto (tgt := 105) hx hb dX4_mark_101 (by decide) ?_
                refine x_iadd E (v := (nI (k + pz (gw k)))) dX4_mark_105 (by rw [nI_add, pz_n hm]) ?_
                refine lv_istore (lv' := [(4, .int (nI (k + pz (gw k)))), (3, .int (-9 : Int32)), (0, .ref x), (1, .int (nI 2)), (2, .int (nI k))]) hx hb dX4_mark_106 hl (by decide) rfl (fun ls hl => ?_)
                refine lv_iload_n hx hb dX4_mark_108 rfl (lv_at hl 4 rfl) ?_
                refine lv_aload_n hx hb dX4_mark_109 rfl (lv_at hl 2 rfl) ?_
                refine x_get E hw (C := RX4) (T := TX4) (N := 23) hinX4 0 rfl rfl 6 (by decide) rfl (List.mem_of_getElem? (i := 9) rfl) dX4_mark_110 ?_
                refine x_isub E (v := (nI k - nI n)) dX4_mark_113 rfl ?_
                refine lv_istore (lv' := [(5, .int (nI k - nI n)), (4, .int (nI (k + pz (gw k)))), (3, .int (-9 : Int32)), (0, .ref x), (1, .int (nI 2)), (2, .int (nI k))]) hx hb dX4_mark_114 hl (by decide) rfl (fun ls hl => ?_)
                refine lv_iload_n hx hb dX4_mark_116 rfl (lv_at hl 4 rfl) ?_
                refine x_if_ne E (nI_toI (by decide)) (tgt := 124) dX4_mark_117 (by decide) (fun c_11 => ?_) (fun c_11 => ?_)
                · refine lv_iload_n hx hb dX4_mark_124 rfl (lv_at hl 4 rfl) ?_
                  refine lv_iconst (v := (nI 1)) hx hb dX4_mark_125 (by decide) ?_
                  refine x_icmp_ne E (nI_toI (by decide)) (nI_toI (by decide)) (tgt := 134) dX4_mark_126 (by decide) (fun c_12 => ?_) (fun c_12 => ?_)
                  · refine lv_iload_n hx hb dX4_mark_134 rfl (lv_at hl 4 rfl) ?_
                    refine lv_iconst (v := (nI 2)) hx hb dX4_mark_135 (by decide) ?_
                    refine x_icmp_ne E (nI_toI (by decide)) (nI_toI (by decide)) (tgt := 144) dX4_mark_136 (by decide) (fun c_13 => ?_) (fun c_13 => ?_)
                    · exact absurd c_13 (by decide)
                    · refine lv_iload hx hb dX4_mark_139 (lv_at hl 0 rfl) ?_
                      refine lv_goto (tgt := 177) hx hb dX4_mark_141 (by decide) ?_
                      exact hret (nI k - nI n) () _ _ _ _ dX4_mark_177 rfl rfl hw
                  · exact absurd c_12 (by decide)
                · exact absurd c_11 (by decide)
        · exact absurd c_4 (by decide)
      · exact absurd c_3 (by decide)
    · exfalso; omega

abbrev rm_X4_mark_3 : Room := { frames := 2, cells := 0, slots := 0, locals := 46 }
set_option maxHeartbeats 4000000 in
set_option maxRecDepth 100000 in
theorem c_X4_mark_3 (l : Launch) (G : XG) (x : Nat) (xt : Nat) (xw : Nat) (xo : Nat) (xh : Nat) (xr : Nat) (xs : Nat) (xi : Nat) (xd : Nat) (xf : Nat) (nb : Nat) (pa : Nat) (pt : Nat) (off : Nat) (ha : Nat) (n : Nat) (nl : Nat) (ns : Nat) (tr : Int64) (u1 : Int32) (u2 : Int32) (u3 : Int32) (u4 : Int64) (u5 : Int32) (gw : Nat → Nat) (k : Nat) (hn : n ≤ 23) (hn3 : 3 ≤ n) (hk : k < n) (hgw : ∀ q, gw q < 1073741824) : CfI l yX4_mark wsX4_mark rm_X4_mark_3 G [.ref x, .int (nI 3), .int (nI k)] [(x, .inr (4, [.ref xt, .int (nI nb), .int (nI pa), .int (nI pt), .int (nI off), .int (nI ha), .int (nI n), .ref xw, .ref xo, .ref xh, .int (nI nl), .ref xr, .int (nI ns), .ref xs, .ref xi, .long tr, .int u1, .int u2, .int u3, .long u4, .ref xd, .int u5, .ref xf])), (xw, .inl (cJ G, 23, .inr (.inl (fJ gw))))] (nI ((k + pz (gw k)) * 2)) [(x, .inr (4, [.ref xt, .int (nI nb), .int (nI pa), .int (nI pt), .int (nI off), .int (nI ha), .int (nI n), .ref xw, .ref xo, .ref xh, .int (nI nl), .ref xr, .int (nI ns), .ref xs, .ref xi, .long (tr + lN 1011), .int u1, .int u2, .int u3, .long u4, .ref xd, .int u5, .ref xf])), (xw, .inl (cJ G, 23, .inr (.inl (fJ gw))))] := by
  refine CtI.go (cc := cX4_mark) (maxL := 6) RX4 rfl (by decide) rfl (Nat.le_of_ble_eq_true rfl) ?_
  intro p e s m args below meth c A Q ls E hw hl hret
  have hx := E.1
  have hb := E.2.1
  have hinX4 : ∀ w ∈ wsX40, w ∈ wsX4_mark := (fun w h => List.mem_cons_of_mem _ (List.mem_append_right _ h))
  have hl : lv_has ls 6 [(0, .ref x), (1, .int (nI 3)), (2, .int (nI k))] := hl
  refine lv_iload_n hx hb dX4_mark_0 rfl (lv_at hl 1 rfl) ?_
  refine lv_i2l (v := (lN 3)) hx hb dX4_mark_1 (nI_l (by omega)) ?_
  refine lv_lconst (v := (lN 0)) hx hb dX4_mark_2 (by decide) ?_
  refine lv_ldc2 (v := (5)) hx hb E.2.2.2.1 (E.2.2.2.2 _ (List.mem_of_getElem? (i := 1) rfl)) dX4_mark_3 ?_
  refine x_topl (v := lN 5) (by decide) ?_
  refine x_cfSi E hw hl.1 (As := [.long (lN 3), .long (lN 0), .long (lN 5)]) (rest := []) (c_X4_in l G (lN 3) (lN 0) (lN 5) (3 : Int) (0 : Int) (5 : Int) (lN_toI (by decide)) (lN_toI (by decide)) (lN_toI (by decide))) 3 gX4_mark_X4_in rfl rfl rfl (by decide) ⟨Nat.le_of_ble_eq_true rfl, Nat.le_of_ble_eq_true rfl⟩ ⟨Nat.le_of_ble_eq_true rfl, Nat.le_of_ble_eq_true rfl⟩ rfl [] [0, 1] rfl rfl rfl rfl rfl [0, 1] [(x, .inr (4, [.ref xt, .int (nI nb), .int (nI pa), .int (nI pt), .int (nI off), .int (nI ha), .int (nI n), .ref xw, .ref xo, .ref xh, .int (nI nl), .ref xr, .int (nI ns), .ref xs, .ref xi, .long tr, .int u1, .int u2, .int u3, .long u4, .ref xd, .int u5, .ref xf])), (xw, .inl (cJ G, 23, .inr (.inl (fJ gw))))] rfl rfl rfl (Nat.le_of_ble_eq_true rfl) dX4_mark_6 (fun H locs hw => ?_)
  refine x_ifb_eq E (P := (0 : Int) ≤ (3 : Int) ∧ (3 : Int) ≤ (5 : Int)) (tgt := 20) dX4_mark_9 (by decide) (fun c_1 => ?_) (fun c_1 => ?_)
  · exfalso; omega
  · refine lv_aload_n hx hb dX4_mark_12 rfl (lv_at hl 0 rfl) ?_
    refine lv_iload_n hx hb dX4_mark_13 rfl (lv_at hl 2 rfl) ?_
    refine x_cfVi E hw hl.1 (As := [.int (nI k)]) (rest := []) (c_X4_isCreaseN l G x xt xw xo xh xr xs xi xd xf nb pa pt off ha n nl ns tr u1 u2 u3 u4 u5 k (by omega) (by omega) (by omega)) 1 gX4_mark_X4_isCrease rfl rfl rfl (by decide) ⟨Nat.le_of_ble_eq_true rfl, Nat.le_of_ble_eq_true rfl⟩ ⟨Nat.le_of_ble_eq_true rfl, Nat.le_of_ble_eq_true rfl⟩ rfl 0 (ci := 4) (C := RX4) (T := TX4) (N := 23) rfl rfl [0] [1] rfl rfl rfl rfl rfl [1, 0] [(x, .inr (4, [.ref xt, .int (nI nb), .int (nI pa), .int (nI pt), .int (nI off), .int (nI ha), .int (nI n), .ref xw, .ref xo, .ref xh, .int (nI nl), .ref xr, .int (nI ns), .ref xs, .ref xi, .long tr, .int u1, .int u2, .int u3, .long u4, .ref xd, .int u5, .ref xf])), (xw, .inl (cJ G, 23, .inr (.inl (fJ gw))))] rfl rfl rfl (Nat.le_of_ble_eq_true rfl) dX4_mark_14 (fun H locs hw => ?_)
    refine x_ifb_ne E (P := k < n) (tgt := 23) dX4_mark_17 (by decide) (fun c_2 => ?_) (fun c_2 => ?_)
    · refine lv_aload_n hx hb dX4_mark_23 rfl (lv_at hl 0 rfl) ?_
      refine lv_dup hx hb dX4_mark_24 rfl ?_
      refine x_get E hw (C := RX4) (T := TX4) (N := 23) hinX4 0 rfl rfl 15 (by decide) rfl (List.mem_of_getElem? (i := 3) rfl) dX4_mark_25 ?_
      refine lv_iload_n hx hb dX4_mark_28 rfl (lv_at hl 1 rfl) ?_
      refine x_if_ne E (nI_toI (by decide)) (tgt := 36) dX4_mark_29 (by decide) (fun c_3 => ?_) (fun c_3 => ?_)
      · refine lv_iload_n hx hb dX4_mark_36 rfl (lv_at hl 1 rfl) ?_
        refine lv_iconst (v := (nI 1)) hx hb dX4_mark_37 (by decide) ?_
        refine x_icmp_ne E (nI_toI (by decide)) (nI_toI (by decide)) (tgt := 47) dX4_mark_38 (by decide) (fun c_4 => ?_) (fun c_4 => ?_)
        · refine lv_iload_n hx hb dX4_mark_47 rfl (lv_at hl 1 rfl) ?_
          refine lv_iconst (v := (nI 2)) hx hb dX4_mark_48 (by decide) ?_
          refine x_icmp_ne E (nI_toI (by decide)) (nI_toI (by decide)) (tgt := 58) dX4_mark_49 (by decide) (fun c_5 => ?_) (fun c_5 => ?_)
          · refine lv_iload_n hx hb dX4_mark_58 rfl (lv_at hl 1 rfl) ?_
            refine lv_iconst (v := (nI 3)) hx hb dX4_mark_59 (by decide) ?_
            refine x_icmp_ne E (nI_toI (by decide)) (nI_toI (by decide)) (tgt := 69) dX4_mark_60 (by decide) (fun c_6 => ?_) (fun c_6 => ?_)
            · exact absurd c_6 (by decide)
            · refine lv_ldc2 (v := (1011)) hx hb E.2.2.2.1 (E.2.2.2.2 _ (List.mem_of_getElem? (i := 6) rfl)) dX4_mark_63 ?_
              refine x_topl (v := lN 1011) (by decide) ?_
              refine lv_goto (tgt := 83) hx hb dX4_mark_66 (by decide) ?_
              refine x_ladd E (v := (tr + (lN 1011))) dX4_mark_83 rfl ?_
              refine x_put E hw (C := RX4) (T := TX4) (N := 23) (ws1 := [(x, .inr (4, [.ref xt, .int (nI nb), .int (nI pa), .int (nI pt), .int (nI off), .int (nI ha), .int (nI n), .ref xw, .ref xo, .ref xh, .int (nI nl), .ref xr, .int (nI ns), .ref xs, .ref xi, .long (tr + (lN 1011)), .int u1, .int u2, .int u3, .long u4, .ref xd, .int u5, .ref xf])), (xw, .inl (cJ G, 23, .inr (.inl (fJ gw))))]) hinX4 tyX4_ok nmX4 0 rfl rfl 15 (by decide) (List.mem_of_getElem? (i := 3) rfl) rfl rfl rfl (Nat.le_of_ble_eq_true rfl) rfl dX4_mark_84 (fun H locs hw => ?_)
              have hgk := hgw k
              by_cases hm : gw k % 1048576 = 0
              · have hgk := hgw k
                refine lv_aload_n hx hb dX4_mark_87 rfl (lv_at hl 0 rfl) ?_
                refine lv_iload_n hx hb dX4_mark_88 rfl (lv_at hl 2 rfl) ?_
                refine x_cfVi E hw hl.1 (As := [.int (nI k)]) (rest := []) (c_X4_partOfY l G x xt xw xo xh xr xs xi xd xf nb pa pt off ha n nl ns (tr + (lN 1011)) u1 u2 u3 u4 u5 k gw (by omega) (hgw _) (by assumption)) 1 gX4_mark_X4_partOf rfl rfl rfl (by decide) ⟨Nat.le_of_ble_eq_true rfl, Nat.le_of_ble_eq_true rfl⟩ ⟨Nat.le_of_ble_eq_true rfl, Nat.le_of_ble_eq_true rfl⟩ rfl 0 (ci := 4) (C := RX4) (T := TX4) (N := 23) rfl rfl [0, 1] [] rfl rfl rfl rfl rfl [0, 1] [(x, .inr (4, [.ref xt, .int (nI nb), .int (nI pa), .int (nI pt), .int (nI off), .int (nI ha), .int (nI n), .ref xw, .ref xo, .ref xh, .int (nI nl), .ref xr, .int (nI ns), .ref xs, .ref xi, .long (tr + (lN 1011)), .int u1, .int u2, .int u3, .long u4, .ref xd, .int u5, .ref xf])), (xw, .inl (cJ G, 23, .inr (.inl (fJ gw))))] rfl rfl rfl (Nat.le_of_ble_eq_true rfl) dX4_mark_89 (fun H locs hw => ?_)
                refine lv_istore_n (lv' := [(3, .int (nI (gw k / 1048576))), (0, .ref x), (1, .int (nI 3)), (2, .int (nI k))]) hx hb dX4_mark_92 rfl hl (by decide) rfl (fun ls hl => ?_)
                refine lv_iload_n hx hb dX4_mark_93 rfl (lv_at hl 3 rfl) ?_
                refine lv_iload_n hx hb dX4_mark_94 rfl (lv_at hl 0 rfl) ?_
                refine lv_bipush (v := (-9 : Int32)) hx hb dX4_mark_95 (by decide) ?_
                refine x_icmp_ne E (nI_toI (show gw k / 1048576 < 2147483648 by omega)) (show ((-9 : Int32)).toInt = -9 by decide) (tgt := 104) dX4_mark_97 (by decide) (fun c_7 => ?_) (fun c_7 => ?_)
                · refine lv_iload_n hx hb dX4_mark_104 rfl (lv_at hl 0 rfl) ?_
                  refine x_iadd E (v := (nI (k + pz (gw k)))) dX4_mark_105 (by rw [nI_add, pz_y hm]) ?_
                  refine lv_istore (lv' := [(4, .int (nI (k + pz (gw k)))), (3, .int (nI (gw k / 1048576))), (0, .ref x), (1, .int (nI 3)), (2, .int (nI k))]) hx hb dX4_mark_106 hl (by decide) rfl (fun ls hl => ?_)
                  refine lv_iload_n hx hb dX4_mark_108 rfl (lv_at hl 4 rfl) ?_
                  refine lv_aload_n hx hb dX4_mark_109 rfl (lv_at hl 2 rfl) ?_
                  refine x_get E hw (C := RX4) (T := TX4) (N := 23) hinX4 0 rfl rfl 6 (by decide) rfl (List.mem_of_getElem? (i := 9) rfl) dX4_mark_110 ?_
                  refine x_isub E (v := (nI k - nI n)) dX4_mark_113 rfl ?_
                  refine lv_istore (lv' := [(5, .int (nI k - nI n)), (4, .int (nI (k + pz (gw k)))), (3, .int (nI (gw k / 1048576))), (0, .ref x), (1, .int (nI 3)), (2, .int (nI k))]) hx hb dX4_mark_114 hl (by decide) rfl (fun ls hl => ?_)
                  refine lv_iload_n hx hb dX4_mark_116 rfl (lv_at hl 4 rfl) ?_
                  refine x_if_ne E (nI_toI (by decide)) (tgt := 124) dX4_mark_117 (by decide) (fun c_8 => ?_) (fun c_8 => ?_)
                  · refine lv_iload_n hx hb dX4_mark_124 rfl (lv_at hl 4 rfl) ?_
                    refine lv_iconst (v := (nI 1)) hx hb dX4_mark_125 (by decide) ?_
                    refine x_icmp_ne E (nI_toI (by decide)) (nI_toI (by decide)) (tgt := 134) dX4_mark_126 (by decide) (fun c_9 => ?_) (fun c_9 => ?_)
                    · refine lv_iload_n hx hb dX4_mark_134 rfl (lv_at hl 4 rfl) ?_
                      refine lv_iconst (v := (nI 2)) hx hb dX4_mark_135 (by decide) ?_
                      refine x_icmp_ne E (nI_toI (by decide)) (nI_toI (by decide)) (tgt := 144) dX4_mark_136 (by decide) (fun c_10 => ?_) (fun c_10 => ?_)
                      · refine lv_iload_n hx hb dX4_mark_144 rfl (lv_at hl 4 rfl) ?_
                        refine lv_iconst (v := (nI 3)) hx hb dX4_mark_145 (by decide) ?_
                        refine x_icmp_ne E (nI_toI (by decide)) (nI_toI (by decide)) (tgt := 156) dX4_mark_146 (by decide) (fun c_11 => ?_) (fun c_11 => ?_)
                        · exact absurd c_11 (by decide)
                        · refine lv_iconst (v := (nI 2)) hx hb dX4_mark_149 (by decide) ?_
                          refine lv_iload hx hb dX4_mark_150 (lv_at hl 1 rfl) ?_
                          refine x_imul E (v := (nI (2 * (k + pz (gw k))))) dX4_mark_152 (pk_mul _ _) ?_
                          refine lv_goto (tgt := 177) hx hb dX4_mark_153 (by decide) ?_
                          exact hret (nI (2 * (k + pz (gw k)))) () _ _ _ _ dX4_mark_177 rfl (by rw [Nat.mul_comm]) hw
                      · exact absurd c_10 (by decide)
                    · exact absurd c_9 (by decide)
                  · exact absurd c_8 (by decide)
                · exfalso; omega
              · have hgk := hgw k
                refine lv_aload_n hx hb dX4_mark_87 rfl (lv_at hl 0 rfl) ?_
                refine lv_iload_n hx hb dX4_mark_88 rfl (lv_at hl 2 rfl) ?_
                refine x_cfVi E hw hl.1 (As := [.int (nI k)]) (rest := []) (c_X4_partOfN l G x xt xw xo xh xr xs xi xd xf nb pa pt off ha n nl ns (tr + (lN 1011)) u1 u2 u3 u4 u5 k gw (by omega) (hgw _) (by assumption)) 1 gX4_mark_X4_partOf rfl rfl rfl (by decide) ⟨Nat.le_of_ble_eq_true rfl, Nat.le_of_ble_eq_true rfl⟩ ⟨Nat.le_of_ble_eq_true rfl, Nat.le_of_ble_eq_true rfl⟩ rfl 0 (ci := 4) (C := RX4) (T := TX4) (N := 23) rfl rfl [0, 1] [] rfl rfl rfl rfl rfl [0, 1] [(x, .inr (4, [.ref xt, .int (nI nb), .int (nI pa), .int (nI pt), .int (nI off), .int (nI ha), .int (nI n), .ref xw, .ref xo, .ref xh, .int (nI nl), .ref xr, .int (nI ns), .ref xs, .ref xi, .long (tr + (lN 1011)), .int u1, .int u2, .int u3, .long u4, .ref xd, .int u5, .ref xf])), (xw, .inl (cJ G, 23, .inr (.inl (fJ gw))))] rfl rfl rfl (Nat.le_of_ble_eq_true rfl) dX4_mark_89 (fun H locs hw => ?_)
                refine lv_istore_n (lv' := [(3, .int (-9 : Int32)), (0, .ref x), (1, .int (nI 3)), (2, .int (nI k))]) hx hb dX4_mark_92 rfl hl (by decide) rfl (fun ls hl => ?_)
                refine lv_iload_n hx hb dX4_mark_93 rfl (lv_at hl 3 rfl) ?_
                refine lv_iload_n hx hb dX4_mark_94 rfl (lv_at hl 0 rfl) ?_
                refine lv_bipush (v := (-9 : Int32)) hx hb dX4_mark_95 (by decide) ?_
                refine x_icmp_ne E (show ((-9 : Int32)).toInt = -9 by decide) (show ((-9 : Int32)).toInt = -9 by decide) (tgt := 104) dX4_mark_97 (by decide) (fun c_12 => ?_) (fun c_12 => ?_)
                · exact absurd c_12 (by decide)
                · refine lv_iconst (v := (nI 0)) hx hb dX4_mark_100 (by decide) ?_
                  refine lv_goto (tgt := 105) hx hb dX4_mark_101 (by decide) ?_
                  refine x_iadd E (v := (nI (k + pz (gw k)))) dX4_mark_105 (by rw [nI_add, pz_n hm]) ?_
                  refine lv_istore (lv' := [(4, .int (nI (k + pz (gw k)))), (3, .int (-9 : Int32)), (0, .ref x), (1, .int (nI 3)), (2, .int (nI k))]) hx hb dX4_mark_106 hl (by decide) rfl (fun ls hl => ?_)
                  refine lv_iload_n hx hb dX4_mark_108 rfl (lv_at hl 4 rfl) ?_
                  refine lv_aload_n hx hb dX4_mark_109 rfl (lv_at hl 2 rfl) ?_
                  refine x_get E hw (C := RX4) (T := TX4) (N := 23) hinX4 0 rfl rfl 6 (by decide) rfl (List.mem_of_getElem? (i := 9) rfl) dX4_mark_110 ?_
                  refine x_isub E (v := (nI k - nI n)) dX4_mark_113 rfl ?_
                  refine lv_istore (lv' := [(5, .int (nI k - nI n)), (4, .int (nI (k + pz (gw k)))), (3, .int (-9 : Int32)), (0, .ref x), (1, .int (nI 3)), (2, .int (nI k))]) hx hb dX4_mark_114 hl (by decide) rfl (fun ls hl => ?_)
                  refine lv_iload_n hx hb dX4_mark_116 rfl (lv_at hl 4 rfl) ?_
                  refine x_if_ne E (nI_toI (by decide)) (tgt := 124) dX4_mark_117 (by decide) (fun c_13 => ?_) (fun c_13 => ?_)
                  · refine lv_iload_n hx hb dX4_mark_124 rfl (lv_at hl 4 rfl) ?_
                    refine lv_iconst (v := (nI 1)) hx hb dX4_mark_125 (by decide) ?_
                    refine x_icmp_ne E (nI_toI (by decide)) (nI_toI (by decide)) (tgt := 134) dX4_mark_126 (by decide) (fun c_14 => ?_) (fun c_14 => ?_)
                    · refine lv_iload_n hx hb dX4_mark_134 rfl (lv_at hl 4 rfl) ?_
                      refine lv_iconst (v := (nI 2)) hx hb dX4_mark_135 (by decide) ?_
                      refine x_icmp_ne E (nI_toI (by decide)) (nI_toI (by decide)) (tgt := 144) dX4_mark_136 (by decide) (fun c_15 => ?_) (fun c_15 => ?_)
                      · refine lv_iload_n hx hb dX4_mark_144 rfl (lv_at hl 4 rfl) ?_
                        refine lv_iconst (v := (nI 3)) hx hb dX4_mark_145 (by decide) ?_
                        refine x_icmp_ne E (nI_toI (by decide)) (nI_toI (by decide)) (tgt := 156) dX4_mark_146 (by decide) (fun c_16 => ?_) (fun c_16 => ?_)
                        · exact absurd c_16 (by decide)
                        · refine lv_iconst (v := (nI 2)) hx hb dX4_mark_149 (by decide) ?_
                          refine lv_iload hx hb dX4_mark_150 (lv_at hl 1 rfl) ?_
                          refine x_imul E (v := (nI (2 * (k + pz (gw k))))) dX4_mark_152 (pk_mul _ _) ?_
                          refine lv_goto (tgt := 177) hx hb dX4_mark_153 (by decide) ?_
                          exact hret (nI (2 * (k + pz (gw k)))) () _ _ _ _ dX4_mark_177 rfl (by rw [Nat.mul_comm]) hw
                      · exact absurd c_15 (by decide)
                    · exact absurd c_14 (by decide)
                  · exact absurd c_13 (by decide)
          · exact absurd c_5 (by decide)
        · exact absurd c_4 (by decide)
      · exact absurd c_3 (by decide)
    · exfalso; omega

abbrev rm_X4_mark_4 : Room := { frames := 2, cells := 0, slots := 0, locals := 46 }
set_option maxHeartbeats 4000000 in
set_option maxRecDepth 100000 in
theorem c_X4_mark_4 (l : Launch) (G : XG) (x : Nat) (xt : Nat) (xw : Nat) (xo : Nat) (xh : Nat) (xr : Nat) (xs : Nat) (xi : Nat) (xd : Nat) (xf : Nat) (nb : Nat) (pa : Nat) (pt : Nat) (off : Nat) (ha : Nat) (n : Nat) (nl : Nat) (ns : Nat) (tr : Int64) (u1 : Int32) (u2 : Int32) (u3 : Int32) (u4 : Int64) (u5 : Int32) (gw : Nat → Nat) (k : Nat) (hn : n ≤ 23) (hn3 : 3 ≤ n) (hk : k < n) (hgw : ∀ q, gw q < 1073741824) : CfI l yX4_mark wsX4_mark rm_X4_mark_4 G [.ref x, .int (nI 4), .int (nI k)] [(x, .inr (4, [.ref xt, .int (nI nb), .int (nI pa), .int (nI pt), .int (nI off), .int (nI ha), .int (nI n), .ref xw, .ref xo, .ref xh, .int (nI nl), .ref xr, .int (nI ns), .ref xs, .ref xi, .long tr, .int u1, .int u2, .int u3, .long u4, .ref xd, .int u5, .ref xf])), (xw, .inl (cJ G, 23, .inr (.inl (fJ gw))))] (nI k - nI n + nI nl) [(x, .inr (4, [.ref xt, .int (nI nb), .int (nI pa), .int (nI pt), .int (nI off), .int (nI ha), .int (nI n), .ref xw, .ref xo, .ref xh, .int (nI nl), .ref xr, .int (nI ns), .ref xs, .ref xi, .long (tr + lN 10101), .int u1, .int u2, .int u3, .long u4, .ref xd, .int u5, .ref xf])), (xw, .inl (cJ G, 23, .inr (.inl (fJ gw))))] := by
  refine CtI.go (cc := cX4_mark) (maxL := 6) RX4 rfl (by decide) rfl (Nat.le_of_ble_eq_true rfl) ?_
  intro p e s m args below meth c A Q ls E hw hl hret
  have hx := E.1
  have hb := E.2.1
  have hinX4 : ∀ w ∈ wsX40, w ∈ wsX4_mark := (fun w h => List.mem_cons_of_mem _ (List.mem_append_right _ h))
  have hl : lv_has ls 6 [(0, .ref x), (1, .int (nI 4)), (2, .int (nI k))] := hl
  refine lv_iload_n hx hb dX4_mark_0 rfl (lv_at hl 1 rfl) ?_
  refine lv_i2l (v := (lN 4)) hx hb dX4_mark_1 (nI_l (by omega)) ?_
  refine lv_lconst (v := (lN 0)) hx hb dX4_mark_2 (by decide) ?_
  refine lv_ldc2 (v := (5)) hx hb E.2.2.2.1 (E.2.2.2.2 _ (List.mem_of_getElem? (i := 1) rfl)) dX4_mark_3 ?_
  refine x_topl (v := lN 5) (by decide) ?_
  refine x_cfSi E hw hl.1 (As := [.long (lN 4), .long (lN 0), .long (lN 5)]) (rest := []) (c_X4_in l G (lN 4) (lN 0) (lN 5) (4 : Int) (0 : Int) (5 : Int) (lN_toI (by decide)) (lN_toI (by decide)) (lN_toI (by decide))) 3 gX4_mark_X4_in rfl rfl rfl (by decide) ⟨Nat.le_of_ble_eq_true rfl, Nat.le_of_ble_eq_true rfl⟩ ⟨Nat.le_of_ble_eq_true rfl, Nat.le_of_ble_eq_true rfl⟩ rfl [] [0, 1] rfl rfl rfl rfl rfl [0, 1] [(x, .inr (4, [.ref xt, .int (nI nb), .int (nI pa), .int (nI pt), .int (nI off), .int (nI ha), .int (nI n), .ref xw, .ref xo, .ref xh, .int (nI nl), .ref xr, .int (nI ns), .ref xs, .ref xi, .long tr, .int u1, .int u2, .int u3, .long u4, .ref xd, .int u5, .ref xf])), (xw, .inl (cJ G, 23, .inr (.inl (fJ gw))))] rfl rfl rfl (Nat.le_of_ble_eq_true rfl) dX4_mark_6 (fun H locs hw => ?_)
  refine x_ifb_eq E (P := (0 : Int) ≤ (4 : Int) ∧ (4 : Int) ≤ (5 : Int)) (tgt := 20) dX4_mark_9 (by decide) (fun c_1 => ?_) (fun c_1 => ?_)
  · exfalso; omega
  · refine lv_aload_n hx hb dX4_mark_12 rfl (lv_at hl 0 rfl) ?_
    refine lv_iload_n hx hb dX4_mark_13 rfl (lv_at hl 2 rfl) ?_
    refine x_cfVi E hw hl.1 (As := [.int (nI k)]) (rest := []) (c_X4_isCreaseN l G x xt xw xo xh xr xs xi xd xf nb pa pt off ha n nl ns tr u1 u2 u3 u4 u5 k (by omega) (by omega) (by omega)) 1 gX4_mark_X4_isCrease rfl rfl rfl (by decide) ⟨Nat.le_of_ble_eq_true rfl, Nat.le_of_ble_eq_true rfl⟩ ⟨Nat.le_of_ble_eq_true rfl, Nat.le_of_ble_eq_true rfl⟩ rfl 0 (ci := 4) (C := RX4) (T := TX4) (N := 23) rfl rfl [0] [1] rfl rfl rfl rfl rfl [1, 0] [(x, .inr (4, [.ref xt, .int (nI nb), .int (nI pa), .int (nI pt), .int (nI off), .int (nI ha), .int (nI n), .ref xw, .ref xo, .ref xh, .int (nI nl), .ref xr, .int (nI ns), .ref xs, .ref xi, .long tr, .int u1, .int u2, .int u3, .long u4, .ref xd, .int u5, .ref xf])), (xw, .inl (cJ G, 23, .inr (.inl (fJ gw))))] rfl rfl rfl (Nat.le_of_ble_eq_true rfl) dX4_mark_14 (fun H locs hw => ?_)
    refine x_ifb_ne E (P := k < n) (tgt := 23) dX4_mark_17 (by decide) (fun c_2 => ?_) (fun c_2 => ?_)
    · refine lv_aload_n hx hb dX4_mark_23 rfl (lv_at hl 0 rfl) ?_
      refine lv_dup hx hb dX4_mark_24 rfl ?_
      refine x_get E hw (C := RX4) (T := TX4) (N := 23) hinX4 0 rfl rfl 15 (by decide) rfl (List.mem_of_getElem? (i := 3) rfl) dX4_mark_25 ?_
      refine lv_iload_n hx hb dX4_mark_28 rfl (lv_at hl 1 rfl) ?_
      refine x_if_ne E (nI_toI (by decide)) (tgt := 36) dX4_mark_29 (by decide) (fun c_3 => ?_) (fun c_3 => ?_)
      · refine lv_iload_n hx hb dX4_mark_36 rfl (lv_at hl 1 rfl) ?_
        refine lv_iconst (v := (nI 1)) hx hb dX4_mark_37 (by decide) ?_
        refine x_icmp_ne E (nI_toI (by decide)) (nI_toI (by decide)) (tgt := 47) dX4_mark_38 (by decide) (fun c_4 => ?_) (fun c_4 => ?_)
        · refine lv_iload_n hx hb dX4_mark_47 rfl (lv_at hl 1 rfl) ?_
          refine lv_iconst (v := (nI 2)) hx hb dX4_mark_48 (by decide) ?_
          refine x_icmp_ne E (nI_toI (by decide)) (nI_toI (by decide)) (tgt := 58) dX4_mark_49 (by decide) (fun c_5 => ?_) (fun c_5 => ?_)
          · refine lv_iload_n hx hb dX4_mark_58 rfl (lv_at hl 1 rfl) ?_
            refine lv_iconst (v := (nI 3)) hx hb dX4_mark_59 (by decide) ?_
            refine x_icmp_ne E (nI_toI (by decide)) (nI_toI (by decide)) (tgt := 69) dX4_mark_60 (by decide) (fun c_6 => ?_) (fun c_6 => ?_)
            · refine lv_iload_n hx hb dX4_mark_69 rfl (lv_at hl 1 rfl) ?_
              refine lv_iconst (v := (nI 4)) hx hb dX4_mark_70 (by decide) ?_
              refine x_icmp_ne E (nI_toI (by decide)) (nI_toI (by decide)) (tgt := 80) dX4_mark_71 (by decide) (fun c_7 => ?_) (fun c_7 => ?_)
              · exact absurd c_7 (by decide)
              · refine lv_ldc2 (v := (10101)) hx hb E.2.2.2.1 (E.2.2.2.2 _ (List.mem_of_getElem? (i := 7) rfl)) dX4_mark_74 ?_
                refine x_topl (v := lN 10101) (by decide) ?_
                refine lv_goto (tgt := 83) hx hb dX4_mark_77 (by decide) ?_
                refine x_ladd E (v := (tr + (lN 10101))) dX4_mark_83 rfl ?_
                refine x_put E hw (C := RX4) (T := TX4) (N := 23) (ws1 := [(x, .inr (4, [.ref xt, .int (nI nb), .int (nI pa), .int (nI pt), .int (nI off), .int (nI ha), .int (nI n), .ref xw, .ref xo, .ref xh, .int (nI nl), .ref xr, .int (nI ns), .ref xs, .ref xi, .long (tr + (lN 10101)), .int u1, .int u2, .int u3, .long u4, .ref xd, .int u5, .ref xf])), (xw, .inl (cJ G, 23, .inr (.inl (fJ gw))))]) hinX4 tyX4_ok nmX4 0 rfl rfl 15 (by decide) (List.mem_of_getElem? (i := 3) rfl) rfl rfl rfl (Nat.le_of_ble_eq_true rfl) rfl dX4_mark_84 (fun H locs hw => ?_)
                have hgk := hgw k
                by_cases hm : gw k % 1048576 = 0
                · have hgk := hgw k
                  refine lv_aload_n hx hb dX4_mark_87 rfl (lv_at hl 0 rfl) ?_
                  refine lv_iload_n hx hb dX4_mark_88 rfl (lv_at hl 2 rfl) ?_
                  refine x_cfVi E hw hl.1 (As := [.int (nI k)]) (rest := []) (c_X4_partOfY l G x xt xw xo xh xr xs xi xd xf nb pa pt off ha n nl ns (tr + (lN 10101)) u1 u2 u3 u4 u5 k gw (by omega) (hgw _) (by assumption)) 1 gX4_mark_X4_partOf rfl rfl rfl (by decide) ⟨Nat.le_of_ble_eq_true rfl, Nat.le_of_ble_eq_true rfl⟩ ⟨Nat.le_of_ble_eq_true rfl, Nat.le_of_ble_eq_true rfl⟩ rfl 0 (ci := 4) (C := RX4) (T := TX4) (N := 23) rfl rfl [0, 1] [] rfl rfl rfl rfl rfl [0, 1] [(x, .inr (4, [.ref xt, .int (nI nb), .int (nI pa), .int (nI pt), .int (nI off), .int (nI ha), .int (nI n), .ref xw, .ref xo, .ref xh, .int (nI nl), .ref xr, .int (nI ns), .ref xs, .ref xi, .long (tr + (lN 10101)), .int u1, .int u2, .int u3, .long u4, .ref xd, .int u5, .ref xf])), (xw, .inl (cJ G, 23, .inr (.inl (fJ gw))))] rfl rfl rfl (Nat.le_of_ble_eq_true rfl) dX4_mark_89 (fun H locs hw => ?_)
                  refine lv_istore_n (lv' := [(3, .int (nI (gw k / 1048576))), (0, .ref x), (1, .int (nI 4)), (2, .int (nI k))]) hx hb dX4_mark_92 rfl hl (by decide) rfl (fun ls hl => ?_)
                  refine lv_iload_n hx hb dX4_mark_93 rfl (lv_at hl 3 rfl) ?_
                  refine lv_iload_n hx hb dX4_mark_94 rfl (lv_at hl 0 rfl) ?_
                  refine lv_bipush (v := (-9 : Int32)) hx hb dX4_mark_95 (by decide) ?_
                  refine x_icmp_ne E (nI_toI (show gw k / 1048576 < 2147483648 by omega)) (show ((-9 : Int32)).toInt = -9 by decide) (tgt := 104) dX4_mark_97 (by decide) (fun c_8 => ?_) (fun c_8 => ?_)
                  · refine lv_iload_n hx hb dX4_mark_104 rfl (lv_at hl 0 rfl) ?_
                    refine x_iadd E (v := (nI (k + pz (gw k)))) dX4_mark_105 (by rw [nI_add, pz_y hm]) ?_
                    refine lv_istore (lv' := [(4, .int (nI (k + pz (gw k)))), (3, .int (nI (gw k / 1048576))), (0, .ref x), (1, .int (nI 4)), (2, .int (nI k))]) hx hb dX4_mark_106 hl (by decide) rfl (fun ls hl => ?_)
                    refine lv_iload_n hx hb dX4_mark_108 rfl (lv_at hl 4 rfl) ?_
                    refine lv_aload_n hx hb dX4_mark_109 rfl (lv_at hl 2 rfl) ?_
                    refine x_get E hw (C := RX4) (T := TX4) (N := 23) hinX4 0 rfl rfl 6 (by decide) rfl (List.mem_of_getElem? (i := 9) rfl) dX4_mark_110 ?_
                    refine x_isub E (v := (nI k - nI n)) dX4_mark_113 rfl ?_
                    refine lv_istore (lv' := [(5, .int (nI k - nI n)), (4, .int (nI (k + pz (gw k)))), (3, .int (nI (gw k / 1048576))), (0, .ref x), (1, .int (nI 4)), (2, .int (nI k))]) hx hb dX4_mark_114 hl (by decide) rfl (fun ls hl => ?_)
                    refine lv_iload_n hx hb dX4_mark_116 rfl (lv_at hl 4 rfl) ?_
                    refine x_if_ne E (nI_toI (by decide)) (tgt := 124) dX4_mark_117 (by decide) (fun c_9 => ?_) (fun c_9 => ?_)
                    · refine lv_iload_n hx hb dX4_mark_124 rfl (lv_at hl 4 rfl) ?_
                      refine lv_iconst (v := (nI 1)) hx hb dX4_mark_125 (by decide) ?_
                      refine x_icmp_ne E (nI_toI (by decide)) (nI_toI (by decide)) (tgt := 134) dX4_mark_126 (by decide) (fun c_10 => ?_) (fun c_10 => ?_)
                      · refine lv_iload_n hx hb dX4_mark_134 rfl (lv_at hl 4 rfl) ?_
                        refine lv_iconst (v := (nI 2)) hx hb dX4_mark_135 (by decide) ?_
                        refine x_icmp_ne E (nI_toI (by decide)) (nI_toI (by decide)) (tgt := 144) dX4_mark_136 (by decide) (fun c_11 => ?_) (fun c_11 => ?_)
                        · refine lv_iload_n hx hb dX4_mark_144 rfl (lv_at hl 4 rfl) ?_
                          refine lv_iconst (v := (nI 3)) hx hb dX4_mark_145 (by decide) ?_
                          refine x_icmp_ne E (nI_toI (by decide)) (nI_toI (by decide)) (tgt := 156) dX4_mark_146 (by decide) (fun c_12 => ?_) (fun c_12 => ?_)
                          · refine lv_iload_n hx hb dX4_mark_156 rfl (lv_at hl 4 rfl) ?_
                            refine lv_iconst (v := (nI 4)) hx hb dX4_mark_157 (by decide) ?_
                            refine x_icmp_ne E (nI_toI (by decide)) (nI_toI (by decide)) (tgt := 171) dX4_mark_158 (by decide) (fun c_13 => ?_) (fun c_13 => ?_)
                            · exact absurd c_13 (by decide)
                            · refine lv_iload hx hb dX4_mark_161 (lv_at hl 0 rfl) ?_
                              refine lv_aload_n hx hb dX4_mark_163 rfl (lv_at hl 3 rfl) ?_
                              refine x_get E hw (C := RX4) (T := TX4) (N := 23) hinX4 0 rfl rfl 10 (by decide) rfl (List.mem_of_getElem? (i := 10) rfl) dX4_mark_164 ?_
                              refine x_iadd E (v := ((nI k - nI n) + (nI nl))) dX4_mark_167 rfl ?_
                              refine lv_goto (tgt := 177) hx hb dX4_mark_168 (by decide) ?_
                              exact hret ((nI k - nI n) + (nI nl)) () _ _ _ _ dX4_mark_177 rfl rfl hw
                          · exact absurd c_12 (by decide)
                        · exact absurd c_11 (by decide)
                      · exact absurd c_10 (by decide)
                    · exact absurd c_9 (by decide)
                  · exfalso; omega
                · have hgk := hgw k
                  refine lv_aload_n hx hb dX4_mark_87 rfl (lv_at hl 0 rfl) ?_
                  refine lv_iload_n hx hb dX4_mark_88 rfl (lv_at hl 2 rfl) ?_
                  refine x_cfVi E hw hl.1 (As := [.int (nI k)]) (rest := []) (c_X4_partOfN l G x xt xw xo xh xr xs xi xd xf nb pa pt off ha n nl ns (tr + (lN 10101)) u1 u2 u3 u4 u5 k gw (by omega) (hgw _) (by assumption)) 1 gX4_mark_X4_partOf rfl rfl rfl (by decide) ⟨Nat.le_of_ble_eq_true rfl, Nat.le_of_ble_eq_true rfl⟩ ⟨Nat.le_of_ble_eq_true rfl, Nat.le_of_ble_eq_true rfl⟩ rfl 0 (ci := 4) (C := RX4) (T := TX4) (N := 23) rfl rfl [0, 1] [] rfl rfl rfl rfl rfl [0, 1] [(x, .inr (4, [.ref xt, .int (nI nb), .int (nI pa), .int (nI pt), .int (nI off), .int (nI ha), .int (nI n), .ref xw, .ref xo, .ref xh, .int (nI nl), .ref xr, .int (nI ns), .ref xs, .ref xi, .long (tr + (lN 10101)), .int u1, .int u2, .int u3, .long u4, .ref xd, .int u5, .ref xf])), (xw, .inl (cJ G, 23, .inr (.inl (fJ gw))))] rfl rfl rfl (Nat.le_of_ble_eq_true rfl) dX4_mark_89 (fun H locs hw => ?_)
                  refine lv_istore_n (lv' := [(3, .int (-9 : Int32)), (0, .ref x), (1, .int (nI 4)), (2, .int (nI k))]) hx hb dX4_mark_92 rfl hl (by decide) rfl (fun ls hl => ?_)
                  refine lv_iload_n hx hb dX4_mark_93 rfl (lv_at hl 3 rfl) ?_
                  refine lv_iload_n hx hb dX4_mark_94 rfl (lv_at hl 0 rfl) ?_
                  refine lv_bipush (v := (-9 : Int32)) hx hb dX4_mark_95 (by decide) ?_
                  refine x_icmp_ne E (show ((-9 : Int32)).toInt = -9 by decide) (show ((-9 : Int32)).toInt = -9 by decide) (tgt := 104) dX4_mark_97 (by decide) (fun c_14 => ?_) (fun c_14 => ?_)
                  · exact absurd c_14 (by decide)
                  · refine lv_iconst (v := (nI 0)) hx hb dX4_mark_100 (by decide) ?_
                    refine lv_goto (tgt := 105) hx hb dX4_mark_101 (by decide) ?_
                    refine x_iadd E (v := (nI (k + pz (gw k)))) dX4_mark_105 (by rw [nI_add, pz_n hm]) ?_
                    refine lv_istore (lv' := [(4, .int (nI (k + pz (gw k)))), (3, .int (-9 : Int32)), (0, .ref x), (1, .int (nI 4)), (2, .int (nI k))]) hx hb dX4_mark_106 hl (by decide) rfl (fun ls hl => ?_)
                    refine lv_iload_n hx hb dX4_mark_108 rfl (lv_at hl 4 rfl) ?_
                    refine lv_aload_n hx hb dX4_mark_109 rfl (lv_at hl 2 rfl) ?_
                    refine x_get E hw (C := RX4) (T := TX4) (N := 23) hinX4 0 rfl rfl 6 (by decide) rfl (List.mem_of_getElem? (i := 9) rfl) dX4_mark_110 ?_
                    refine x_isub E (v := (nI k - nI n)) dX4_mark_113 rfl ?_
                    refine lv_istore (lv' := [(5, .int (nI k - nI n)), (4, .int (nI (k + pz (gw k)))), (3, .int (-9 : Int32)), (0, .ref x), (1, .int (nI 4)), (2, .int (nI k))]) hx hb dX4_mark_114 hl (by decide) rfl (fun ls hl => ?_)
                    refine lv_iload_n hx hb dX4_mark_116 rfl (lv_at hl 4 rfl) ?_
                    refine x_if_ne E (nI_toI (by decide)) (tgt := 124) dX4_mark_117 (by decide) (fun c_15 => ?_) (fun c_15 => ?_)
                    · refine lv_iload_n hx hb dX4_mark_124 rfl (lv_at hl 4 rfl) ?_
                      refine lv_iconst (v := (nI 1)) hx hb dX4_mark_125 (by decide) ?_
                      refine x_icmp_ne E (nI_toI (by decide)) (nI_toI (by decide)) (tgt := 134) dX4_mark_126 (by decide) (fun c_16 => ?_) (fun c_16 => ?_)
                      · refine lv_iload_n hx hb dX4_mark_134 rfl (lv_at hl 4 rfl) ?_
                        refine lv_iconst (v := (nI 2)) hx hb dX4_mark_135 (by decide) ?_
                        refine x_icmp_ne E (nI_toI (by decide)) (nI_toI (by decide)) (tgt := 144) dX4_mark_136 (by decide) (fun c_17 => ?_) (fun c_17 => ?_)
                        · refine lv_iload_n hx hb dX4_mark_144 rfl (lv_at hl 4 rfl) ?_
                          refine lv_iconst (v := (nI 3)) hx hb dX4_mark_145 (by decide) ?_
                          refine x_icmp_ne E (nI_toI (by decide)) (nI_toI (by decide)) (tgt := 156) dX4_mark_146 (by decide) (fun c_18 => ?_) (fun c_18 => ?_)
                          · refine lv_iload_n hx hb dX4_mark_156 rfl (lv_at hl 4 rfl) ?_
                            refine lv_iconst (v := (nI 4)) hx hb dX4_mark_157 (by decide) ?_
                            refine x_icmp_ne E (nI_toI (by decide)) (nI_toI (by decide)) (tgt := 171) dX4_mark_158 (by decide) (fun c_19 => ?_) (fun c_19 => ?_)
                            · exact absurd c_19 (by decide)
                            · refine lv_iload hx hb dX4_mark_161 (lv_at hl 0 rfl) ?_
                              refine lv_aload_n hx hb dX4_mark_163 rfl (lv_at hl 3 rfl) ?_
                              refine x_get E hw (C := RX4) (T := TX4) (N := 23) hinX4 0 rfl rfl 10 (by decide) rfl (List.mem_of_getElem? (i := 10) rfl) dX4_mark_164 ?_
                              refine x_iadd E (v := ((nI k - nI n) + (nI nl))) dX4_mark_167 rfl ?_
                              refine lv_goto (tgt := 177) hx hb dX4_mark_168 (by decide) ?_
                              exact hret ((nI k - nI n) + (nI nl)) () _ _ _ _ dX4_mark_177 rfl rfl hw
                          · exact absurd c_18 (by decide)
                        · exact absurd c_17 (by decide)
                      · exact absurd c_16 (by decide)
                    · exact absurd c_15 (by decide)
            · exact absurd c_6 (by decide)
          · exact absurd c_5 (by decide)
        · exact absurd c_4 (by decide)
      · exact absurd c_3 (by decide)
    · exfalso; omega

abbrev rm_X4_mark_5 : Room := { frames := 2, cells := 0, slots := 0, locals := 46 }
set_option maxHeartbeats 4000000 in
set_option maxRecDepth 100000 in
theorem c_X4_mark_5 (l : Launch) (G : XG) (x : Nat) (xt : Nat) (xw : Nat) (xo : Nat) (xh : Nat) (xr : Nat) (xs : Nat) (xi : Nat) (xd : Nat) (xf : Nat) (nb : Nat) (pa : Nat) (pt : Nat) (off : Nat) (ha : Nat) (n : Nat) (nl : Nat) (ns : Nat) (tr : Int64) (u1 : Int32) (u2 : Int32) (u3 : Int32) (u4 : Int64) (u5 : Int32) (gw : Nat → Nat) (k : Nat) (hn : n ≤ 23) (hn3 : 3 ≤ n) (hk : k < n) (hgw : ∀ q, gw q < 1073741824) : CfI l yX4_mark wsX4_mark rm_X4_mark_5 G [.ref x, .int (nI 5), .int (nI k)] [(x, .inr (4, [.ref xt, .int (nI nb), .int (nI pa), .int (nI pt), .int (nI off), .int (nI ha), .int (nI n), .ref xw, .ref xo, .ref xh, .int (nI nl), .ref xr, .int (nI ns), .ref xs, .ref xi, .long tr, .int u1, .int u2, .int u3, .long u4, .ref xd, .int u5, .ref xf])), (xw, .inl (cJ G, 23, .inr (.inl (fJ gw))))] (nI (k + pa)) [(x, .inr (4, [.ref xt, .int (nI nb), .int (nI pa), .int (nI pt), .int (nI off), .int (nI ha), .int (nI n), .ref xw, .ref xo, .ref xh, .int (nI nl), .ref xr, .int (nI ns), .ref xs, .ref xi, .long (tr + lN 100001), .int u1, .int u2, .int u3, .long u4, .ref xd, .int u5, .ref xf])), (xw, .inl (cJ G, 23, .inr (.inl (fJ gw))))] := by
  refine CtI.go (cc := cX4_mark) (maxL := 6) RX4 rfl (by decide) rfl (Nat.le_of_ble_eq_true rfl) ?_
  intro p e s m args below meth c A Q ls E hw hl hret
  have hx := E.1
  have hb := E.2.1
  have hinX4 : ∀ w ∈ wsX40, w ∈ wsX4_mark := (fun w h => List.mem_cons_of_mem _ (List.mem_append_right _ h))
  have hl : lv_has ls 6 [(0, .ref x), (1, .int (nI 5)), (2, .int (nI k))] := hl
  refine lv_iload_n hx hb dX4_mark_0 rfl (lv_at hl 1 rfl) ?_
  refine lv_i2l (v := (lN 5)) hx hb dX4_mark_1 (nI_l (by omega)) ?_
  refine lv_lconst (v := (lN 0)) hx hb dX4_mark_2 (by decide) ?_
  refine lv_ldc2 (v := (5)) hx hb E.2.2.2.1 (E.2.2.2.2 _ (List.mem_of_getElem? (i := 1) rfl)) dX4_mark_3 ?_
  refine x_topl (v := lN 5) (by decide) ?_
  refine x_cfSi E hw hl.1 (As := [.long (lN 5), .long (lN 0), .long (lN 5)]) (rest := []) (c_X4_in l G (lN 5) (lN 0) (lN 5) (5 : Int) (0 : Int) (5 : Int) (lN_toI (by decide)) (lN_toI (by decide)) (lN_toI (by decide))) 3 gX4_mark_X4_in rfl rfl rfl (by decide) ⟨Nat.le_of_ble_eq_true rfl, Nat.le_of_ble_eq_true rfl⟩ ⟨Nat.le_of_ble_eq_true rfl, Nat.le_of_ble_eq_true rfl⟩ rfl [] [0, 1] rfl rfl rfl rfl rfl [0, 1] [(x, .inr (4, [.ref xt, .int (nI nb), .int (nI pa), .int (nI pt), .int (nI off), .int (nI ha), .int (nI n), .ref xw, .ref xo, .ref xh, .int (nI nl), .ref xr, .int (nI ns), .ref xs, .ref xi, .long tr, .int u1, .int u2, .int u3, .long u4, .ref xd, .int u5, .ref xf])), (xw, .inl (cJ G, 23, .inr (.inl (fJ gw))))] rfl rfl rfl (Nat.le_of_ble_eq_true rfl) dX4_mark_6 (fun H locs hw => ?_)
  refine x_ifb_eq E (P := (0 : Int) ≤ (5 : Int) ∧ (5 : Int) ≤ (5 : Int)) (tgt := 20) dX4_mark_9 (by decide) (fun c_1 => ?_) (fun c_1 => ?_)
  · exfalso; omega
  · refine lv_aload_n hx hb dX4_mark_12 rfl (lv_at hl 0 rfl) ?_
    refine lv_iload_n hx hb dX4_mark_13 rfl (lv_at hl 2 rfl) ?_
    refine x_cfVi E hw hl.1 (As := [.int (nI k)]) (rest := []) (c_X4_isCreaseN l G x xt xw xo xh xr xs xi xd xf nb pa pt off ha n nl ns tr u1 u2 u3 u4 u5 k (by omega) (by omega) (by omega)) 1 gX4_mark_X4_isCrease rfl rfl rfl (by decide) ⟨Nat.le_of_ble_eq_true rfl, Nat.le_of_ble_eq_true rfl⟩ ⟨Nat.le_of_ble_eq_true rfl, Nat.le_of_ble_eq_true rfl⟩ rfl 0 (ci := 4) (C := RX4) (T := TX4) (N := 23) rfl rfl [0] [1] rfl rfl rfl rfl rfl [1, 0] [(x, .inr (4, [.ref xt, .int (nI nb), .int (nI pa), .int (nI pt), .int (nI off), .int (nI ha), .int (nI n), .ref xw, .ref xo, .ref xh, .int (nI nl), .ref xr, .int (nI ns), .ref xs, .ref xi, .long tr, .int u1, .int u2, .int u3, .long u4, .ref xd, .int u5, .ref xf])), (xw, .inl (cJ G, 23, .inr (.inl (fJ gw))))] rfl rfl rfl (Nat.le_of_ble_eq_true rfl) dX4_mark_14 (fun H locs hw => ?_)
    refine x_ifb_ne E (P := k < n) (tgt := 23) dX4_mark_17 (by decide) (fun c_2 => ?_) (fun c_2 => ?_)
    · refine lv_aload_n hx hb dX4_mark_23 rfl (lv_at hl 0 rfl) ?_
      refine lv_dup hx hb dX4_mark_24 rfl ?_
      refine x_get E hw (C := RX4) (T := TX4) (N := 23) hinX4 0 rfl rfl 15 (by decide) rfl (List.mem_of_getElem? (i := 3) rfl) dX4_mark_25 ?_
      refine lv_iload_n hx hb dX4_mark_28 rfl (lv_at hl 1 rfl) ?_
      refine x_if_ne E (nI_toI (by decide)) (tgt := 36) dX4_mark_29 (by decide) (fun c_3 => ?_) (fun c_3 => ?_)
      · refine lv_iload_n hx hb dX4_mark_36 rfl (lv_at hl 1 rfl) ?_
        refine lv_iconst (v := (nI 1)) hx hb dX4_mark_37 (by decide) ?_
        refine x_icmp_ne E (nI_toI (by decide)) (nI_toI (by decide)) (tgt := 47) dX4_mark_38 (by decide) (fun c_4 => ?_) (fun c_4 => ?_)
        · refine lv_iload_n hx hb dX4_mark_47 rfl (lv_at hl 1 rfl) ?_
          refine lv_iconst (v := (nI 2)) hx hb dX4_mark_48 (by decide) ?_
          refine x_icmp_ne E (nI_toI (by decide)) (nI_toI (by decide)) (tgt := 58) dX4_mark_49 (by decide) (fun c_5 => ?_) (fun c_5 => ?_)
          · refine lv_iload_n hx hb dX4_mark_58 rfl (lv_at hl 1 rfl) ?_
            refine lv_iconst (v := (nI 3)) hx hb dX4_mark_59 (by decide) ?_
            refine x_icmp_ne E (nI_toI (by decide)) (nI_toI (by decide)) (tgt := 69) dX4_mark_60 (by decide) (fun c_6 => ?_) (fun c_6 => ?_)
            · refine lv_iload_n hx hb dX4_mark_69 rfl (lv_at hl 1 rfl) ?_
              refine lv_iconst (v := (nI 4)) hx hb dX4_mark_70 (by decide) ?_
              refine x_icmp_ne E (nI_toI (by decide)) (nI_toI (by decide)) (tgt := 80) dX4_mark_71 (by decide) (fun c_7 => ?_) (fun c_7 => ?_)
              · refine lv_ldc2 (v := (100001)) hx hb E.2.2.2.1 (E.2.2.2.2 _ (List.mem_of_getElem? (i := 8) rfl)) dX4_mark_80 ?_
                refine x_topl (v := lN 100001) (by decide) ?_
                refine x_ladd E (v := (tr + (lN 100001))) dX4_mark_83 rfl ?_
                refine x_put E hw (C := RX4) (T := TX4) (N := 23) (ws1 := [(x, .inr (4, [.ref xt, .int (nI nb), .int (nI pa), .int (nI pt), .int (nI off), .int (nI ha), .int (nI n), .ref xw, .ref xo, .ref xh, .int (nI nl), .ref xr, .int (nI ns), .ref xs, .ref xi, .long (tr + (lN 100001)), .int u1, .int u2, .int u3, .long u4, .ref xd, .int u5, .ref xf])), (xw, .inl (cJ G, 23, .inr (.inl (fJ gw))))]) hinX4 tyX4_ok nmX4 0 rfl rfl 15 (by decide) (List.mem_of_getElem? (i := 3) rfl) rfl rfl rfl (Nat.le_of_ble_eq_true rfl) rfl dX4_mark_84 (fun H locs hw => ?_)
                have hgk := hgw k
                by_cases hm : gw k % 1048576 = 0
                · have hgk := hgw k
                  refine lv_aload_n hx hb dX4_mark_87 rfl (lv_at hl 0 rfl) ?_
                  refine lv_iload_n hx hb dX4_mark_88 rfl (lv_at hl 2 rfl) ?_
                  refine x_cfVi E hw hl.1 (As := [.int (nI k)]) (rest := []) (c_X4_partOfY l G x xt xw xo xh xr xs xi xd xf nb pa pt off ha n nl ns (tr + (lN 100001)) u1 u2 u3 u4 u5 k gw (by omega) (hgw _) (by assumption)) 1 gX4_mark_X4_partOf rfl rfl rfl (by decide) ⟨Nat.le_of_ble_eq_true rfl, Nat.le_of_ble_eq_true rfl⟩ ⟨Nat.le_of_ble_eq_true rfl, Nat.le_of_ble_eq_true rfl⟩ rfl 0 (ci := 4) (C := RX4) (T := TX4) (N := 23) rfl rfl [0, 1] [] rfl rfl rfl rfl rfl [0, 1] [(x, .inr (4, [.ref xt, .int (nI nb), .int (nI pa), .int (nI pt), .int (nI off), .int (nI ha), .int (nI n), .ref xw, .ref xo, .ref xh, .int (nI nl), .ref xr, .int (nI ns), .ref xs, .ref xi, .long (tr + (lN 100001)), .int u1, .int u2, .int u3, .long u4, .ref xd, .int u5, .ref xf])), (xw, .inl (cJ G, 23, .inr (.inl (fJ gw))))] rfl rfl rfl (Nat.le_of_ble_eq_true rfl) dX4_mark_89 (fun H locs hw => ?_)
                  refine lv_istore_n (lv' := [(3, .int (nI (gw k / 1048576))), (0, .ref x), (1, .int (nI 5)), (2, .int (nI k))]) hx hb dX4_mark_92 rfl hl (by decide) rfl (fun ls hl => ?_)
                  refine lv_iload_n hx hb dX4_mark_93 rfl (lv_at hl 3 rfl) ?_
                  refine lv_iload_n hx hb dX4_mark_94 rfl (lv_at hl 0 rfl) ?_
                  refine lv_bipush (v := (-9 : Int32)) hx hb dX4_mark_95 (by decide) ?_
                  refine x_icmp_ne E (nI_toI (show gw k / 1048576 < 2147483648 by omega)) (show ((-9 : Int32)).toInt = -9 by decide) (tgt := 104) dX4_mark_97 (by decide) (fun c_8 => ?_) (fun c_8 => ?_)
                  · refine lv_iload_n hx hb dX4_mark_104 rfl (lv_at hl 0 rfl) ?_
                    refine x_iadd E (v := (nI (k + pz (gw k)))) dX4_mark_105 (by rw [nI_add, pz_y hm]) ?_
                    refine lv_istore (lv' := [(4, .int (nI (k + pz (gw k)))), (3, .int (nI (gw k / 1048576))), (0, .ref x), (1, .int (nI 5)), (2, .int (nI k))]) hx hb dX4_mark_106 hl (by decide) rfl (fun ls hl => ?_)
                    refine lv_iload_n hx hb dX4_mark_108 rfl (lv_at hl 4 rfl) ?_
                    refine lv_aload_n hx hb dX4_mark_109 rfl (lv_at hl 2 rfl) ?_
                    refine x_get E hw (C := RX4) (T := TX4) (N := 23) hinX4 0 rfl rfl 6 (by decide) rfl (List.mem_of_getElem? (i := 9) rfl) dX4_mark_110 ?_
                    refine x_isub E (v := (nI k - nI n)) dX4_mark_113 rfl ?_
                    refine lv_istore (lv' := [(5, .int (nI k - nI n)), (4, .int (nI (k + pz (gw k)))), (3, .int (nI (gw k / 1048576))), (0, .ref x), (1, .int (nI 5)), (2, .int (nI k))]) hx hb dX4_mark_114 hl (by decide) rfl (fun ls hl => ?_)
                    refine lv_iload_n hx hb dX4_mark_116 rfl (lv_at hl 4 rfl) ?_
                    refine x_if_ne E (nI_toI (by decide)) (tgt := 124) dX4_mark_117 (by decide) (fun c_9 => ?_) (fun c_9 => ?_)
                    · refine lv_iload_n hx hb dX4_mark_124 rfl (lv_at hl 4 rfl) ?_
                      refine lv_iconst (v := (nI 1)) hx hb dX4_mark_125 (by decide) ?_
                      refine x_icmp_ne E (nI_toI (by decide)) (nI_toI (by decide)) (tgt := 134) dX4_mark_126 (by decide) (fun c_10 => ?_) (fun c_10 => ?_)
                      · refine lv_iload_n hx hb dX4_mark_134 rfl (lv_at hl 4 rfl) ?_
                        refine lv_iconst (v := (nI 2)) hx hb dX4_mark_135 (by decide) ?_
                        refine x_icmp_ne E (nI_toI (by decide)) (nI_toI (by decide)) (tgt := 144) dX4_mark_136 (by decide) (fun c_11 => ?_) (fun c_11 => ?_)
                        · refine lv_iload_n hx hb dX4_mark_144 rfl (lv_at hl 4 rfl) ?_
                          refine lv_iconst (v := (nI 3)) hx hb dX4_mark_145 (by decide) ?_
                          refine x_icmp_ne E (nI_toI (by decide)) (nI_toI (by decide)) (tgt := 156) dX4_mark_146 (by decide) (fun c_12 => ?_) (fun c_12 => ?_)
                          · refine lv_iload_n hx hb dX4_mark_156 rfl (lv_at hl 4 rfl) ?_
                            refine lv_iconst (v := (nI 4)) hx hb dX4_mark_157 (by decide) ?_
                            refine x_icmp_ne E (nI_toI (by decide)) (nI_toI (by decide)) (tgt := 171) dX4_mark_158 (by decide) (fun c_13 => ?_) (fun c_13 => ?_)
                            · refine lv_iload_n hx hb dX4_mark_171 rfl (lv_at hl 5 rfl) ?_
                              refine lv_aload_n hx hb dX4_mark_172 rfl (lv_at hl 3 rfl) ?_
                              refine x_get E hw (C := RX4) (T := TX4) (N := 23) hinX4 0 rfl rfl 2 (by decide) rfl (List.mem_of_getElem? (i := 11) rfl) dX4_mark_173 ?_
                              refine x_iadd E (v := (nI (k + pa))) dX4_mark_176 (nI_add _ _) ?_
                              exact hret (nI (k + pa)) () _ _ _ _ dX4_mark_177 rfl rfl hw
                            · exact absurd c_13 (by decide)
                          · exact absurd c_12 (by decide)
                        · exact absurd c_11 (by decide)
                      · exact absurd c_10 (by decide)
                    · exact absurd c_9 (by decide)
                  · exfalso; omega
                · have hgk := hgw k
                  refine lv_aload_n hx hb dX4_mark_87 rfl (lv_at hl 0 rfl) ?_
                  refine lv_iload_n hx hb dX4_mark_88 rfl (lv_at hl 2 rfl) ?_
                  refine x_cfVi E hw hl.1 (As := [.int (nI k)]) (rest := []) (c_X4_partOfN l G x xt xw xo xh xr xs xi xd xf nb pa pt off ha n nl ns (tr + (lN 100001)) u1 u2 u3 u4 u5 k gw (by omega) (hgw _) (by assumption)) 1 gX4_mark_X4_partOf rfl rfl rfl (by decide) ⟨Nat.le_of_ble_eq_true rfl, Nat.le_of_ble_eq_true rfl⟩ ⟨Nat.le_of_ble_eq_true rfl, Nat.le_of_ble_eq_true rfl⟩ rfl 0 (ci := 4) (C := RX4) (T := TX4) (N := 23) rfl rfl [0, 1] [] rfl rfl rfl rfl rfl [0, 1] [(x, .inr (4, [.ref xt, .int (nI nb), .int (nI pa), .int (nI pt), .int (nI off), .int (nI ha), .int (nI n), .ref xw, .ref xo, .ref xh, .int (nI nl), .ref xr, .int (nI ns), .ref xs, .ref xi, .long (tr + (lN 100001)), .int u1, .int u2, .int u3, .long u4, .ref xd, .int u5, .ref xf])), (xw, .inl (cJ G, 23, .inr (.inl (fJ gw))))] rfl rfl rfl (Nat.le_of_ble_eq_true rfl) dX4_mark_89 (fun H locs hw => ?_)
                  refine lv_istore_n (lv' := [(3, .int (-9 : Int32)), (0, .ref x), (1, .int (nI 5)), (2, .int (nI k))]) hx hb dX4_mark_92 rfl hl (by decide) rfl (fun ls hl => ?_)
                  refine lv_iload_n hx hb dX4_mark_93 rfl (lv_at hl 3 rfl) ?_
                  refine lv_iload_n hx hb dX4_mark_94 rfl (lv_at hl 0 rfl) ?_
                  refine lv_bipush (v := (-9 : Int32)) hx hb dX4_mark_95 (by decide) ?_
                  refine x_icmp_ne E (show ((-9 : Int32)).toInt = -9 by decide) (show ((-9 : Int32)).toInt = -9 by decide) (tgt := 104) dX4_mark_97 (by decide) (fun c_14 => ?_) (fun c_14 => ?_)
                  · exact absurd c_14 (by decide)
                  · refine lv_iconst (v := (nI 0)) hx hb dX4_mark_100 (by decide) ?_
                    refine lv_goto (tgt := 105) hx hb dX4_mark_101 (by decide) ?_
                    refine x_iadd E (v := (nI (k + pz (gw k)))) dX4_mark_105 (by rw [nI_add, pz_n hm]) ?_
                    refine lv_istore (lv' := [(4, .int (nI (k + pz (gw k)))), (3, .int (-9 : Int32)), (0, .ref x), (1, .int (nI 5)), (2, .int (nI k))]) hx hb dX4_mark_106 hl (by decide) rfl (fun ls hl => ?_)
                    refine lv_iload_n hx hb dX4_mark_108 rfl (lv_at hl 4 rfl) ?_
                    refine lv_aload_n hx hb dX4_mark_109 rfl (lv_at hl 2 rfl) ?_
                    refine x_get E hw (C := RX4) (T := TX4) (N := 23) hinX4 0 rfl rfl 6 (by decide) rfl (List.mem_of_getElem? (i := 9) rfl) dX4_mark_110 ?_
                    refine x_isub E (v := (nI k - nI n)) dX4_mark_113 rfl ?_
                    refine lv_istore (lv' := [(5, .int (nI k - nI n)), (4, .int (nI (k + pz (gw k)))), (3, .int (-9 : Int32)), (0, .ref x), (1, .int (nI 5)), (2, .int (nI k))]) hx hb dX4_mark_114 hl (by decide) rfl (fun ls hl => ?_)
                    refine lv_iload_n hx hb dX4_mark_116 rfl (lv_at hl 4 rfl) ?_
                    refine x_if_ne E (nI_toI (by decide)) (tgt := 124) dX4_mark_117 (by decide) (fun c_15 => ?_) (fun c_15 => ?_)
                    · refine lv_iload_n hx hb dX4_mark_124 rfl (lv_at hl 4 rfl) ?_
                      refine lv_iconst (v := (nI 1)) hx hb dX4_mark_125 (by decide) ?_
                      refine x_icmp_ne E (nI_toI (by decide)) (nI_toI (by decide)) (tgt := 134) dX4_mark_126 (by decide) (fun c_16 => ?_) (fun c_16 => ?_)
                      · refine lv_iload_n hx hb dX4_mark_134 rfl (lv_at hl 4 rfl) ?_
                        refine lv_iconst (v := (nI 2)) hx hb dX4_mark_135 (by decide) ?_
                        refine x_icmp_ne E (nI_toI (by decide)) (nI_toI (by decide)) (tgt := 144) dX4_mark_136 (by decide) (fun c_17 => ?_) (fun c_17 => ?_)
                        · refine lv_iload_n hx hb dX4_mark_144 rfl (lv_at hl 4 rfl) ?_
                          refine lv_iconst (v := (nI 3)) hx hb dX4_mark_145 (by decide) ?_
                          refine x_icmp_ne E (nI_toI (by decide)) (nI_toI (by decide)) (tgt := 156) dX4_mark_146 (by decide) (fun c_18 => ?_) (fun c_18 => ?_)
                          · refine lv_iload_n hx hb dX4_mark_156 rfl (lv_at hl 4 rfl) ?_
                            refine lv_iconst (v := (nI 4)) hx hb dX4_mark_157 (by decide) ?_
                            refine x_icmp_ne E (nI_toI (by decide)) (nI_toI (by decide)) (tgt := 171) dX4_mark_158 (by decide) (fun c_19 => ?_) (fun c_19 => ?_)
                            · refine lv_iload_n hx hb dX4_mark_171 rfl (lv_at hl 5 rfl) ?_
                              refine lv_aload_n hx hb dX4_mark_172 rfl (lv_at hl 3 rfl) ?_
                              refine x_get E hw (C := RX4) (T := TX4) (N := 23) hinX4 0 rfl rfl 2 (by decide) rfl (List.mem_of_getElem? (i := 11) rfl) dX4_mark_173 ?_
                              refine x_iadd E (v := (nI (k + pa))) dX4_mark_176 (nI_add _ _) ?_
                              exact hret (nI (k + pa)) () _ _ _ _ dX4_mark_177 rfl rfl hw
                            · exact absurd c_19 (by decide)
                          · exact absurd c_18 (by decide)
                        · exact absurd c_17 (by decide)
                      · exact absurd c_16 (by decide)
                    · exact absurd c_15 (by decide)
              · exact absurd c_7 (by decide)
            · exact absurd c_6 (by decide)
          · exact absurd c_5 (by decide)
        · exact absurd c_4 (by decide)
      · exact absurd c_3 (by decide)
    · exfalso; omega

abbrev rm_X4_keep_0 : Room := { frames := 1, cells := 0, slots := 0, locals := 25 }
set_option maxHeartbeats 4000000 in
set_option maxRecDepth 100000 in
theorem c_X4_keep_0 (l : Launch) (G : XG) (x : Nat) (xt : Nat) (xw : Nat) (xo : Nat) (xh : Nat) (xr : Nat) (xs : Nat) (xi : Nat) (xd : Nat) (xf : Nat) (nb : Nat) (pa : Nat) (pt : Nat) (off : Nat) (ha : Nat) (n : Nat) (nl : Nat) (ns : Nat) (tr : Int64) (u1 : Int32) (u2 : Int32) (u3 : Int32) (u4 : Int64) (u5 : Int32) (gl : Nat → Nat) (gs : Nat → Nat) (gw : Nat → Nat) (go : Nat → Nat) (gh : Nat → Nat) (gi : Nat → Nat) (hn : n ≤ 23) (hn3 : 3 ≤ n) (hnl : nl ≤ 12) (hns : ns ≤ 8) (hgl : ∀ q, gl q ≤ 1) (hgs : ∀ q, gs q < 63) : CfI l yX4_keep wsX4_keep rm_X4_keep_0 G [.ref x, .int (nI 0)] [(x, .inr (4, [.ref xt, .int (nI nb), .int (nI pa), .int (nI pt), .int (nI off), .int (nI ha), .int (nI n), .ref xw, .ref xo, .ref xh, .int (nI nl), .ref xr, .int (nI ns), .ref xs, .ref xi, .long tr, .int u1, .int u2, .int u3, .long u4, .ref xd, .int u5, .ref xf])), (xr, .inl (cI G, 12, .inl (fI gl))), (xs, .inl (cI G, 8, .inl (fI gs))), (xw, .inl (cJ G, 23, .inr (.inl (fJ gw)))), (xo, .inl (cJ G, 23, .inr (.inl (fJ go)))), (xh, .inl (cJ G, 23, .inr (.inl (fJ gh)))), (xi, .inl (cJ G, 200, .inr (.inl (fJ gi))))] (nI n) [(x, .inr (4, [.ref xt, .int (nI nb), .int (nI pa), .int (nI pt), .int (nI off), .int (nI ha), .int (nI n), .ref xw, .ref xo, .ref xh, .int (nI nl), .ref xr, .int (nI ns), .ref xs, .ref xi, .long tr, .int u1, .int u2, .int u3, .long u4, .ref xd, .int u5, .ref xf])), (xr, .inl (cI G, 12, .inl (fI gl))), (xs, .inl (cI G, 8, .inl (fI gs))), (xw, .inl (cJ G, 23, .inr (.inl (fJ gw)))), (xo, .inl (cJ G, 23, .inr (.inl (fJ go)))), (xh, .inl (cJ G, 23, .inr (.inl (fJ gh)))), (xi, .inl (cJ G, 200, .inr (.inl (fJ (keepF gi 0 n nl ns gl gs gw go gh)))))] := by
  refine CtI.go (cc := cX4_keep) (maxL := 4) RX4 rfl (by decide) rfl (Nat.le_of_ble_eq_true rfl) ?_
  intro p e s m args below meth c A Q ls E hw hl hret
  have hx := E.1
  have hb := E.2.1
  have hinX4 : ∀ w ∈ wsX40, w ∈ wsX4_keep := (fun w h => List.mem_cons_of_mem _ (List.mem_append_right _ h))
  have hl : lv_has ls 4 [(0, .ref x), (1, .int (nI 0))] := hl
  refine lv_iload_n hx hb dX4_keep_0 rfl (lv_at hl 1 rfl) ?_
  refine lv_i2l (v := (lN 0)) hx hb dX4_keep_1 (nI_l (by omega)) ?_
  refine lv_lconst (v := (lN 0)) hx hb dX4_keep_2 (by decide) ?_
  refine lv_lconst (v := (lN 1)) hx hb dX4_keep_3 (by decide) ?_
  refine x_cfSi E hw hl.1 (As := [.long (lN 0), .long (lN 0), .long (lN 1)]) (rest := []) (c_X4_in l G (lN 0) (lN 0) (lN 1) (0 : Int) (0 : Int) (1 : Int) (lN_toI (by decide)) (lN_toI (by decide)) (lN_toI (by decide))) 3 gX4_keep_X4_in rfl rfl rfl (by decide) ⟨Nat.le_of_ble_eq_true rfl, Nat.le_of_ble_eq_true rfl⟩ ⟨Nat.le_of_ble_eq_true rfl, Nat.le_of_ble_eq_true rfl⟩ rfl [] [0, 1, 2, 3, 4, 5, 6] rfl rfl rfl rfl rfl [0, 1, 2, 3, 4, 5, 6] [(x, .inr (4, [.ref xt, .int (nI nb), .int (nI pa), .int (nI pt), .int (nI off), .int (nI ha), .int (nI n), .ref xw, .ref xo, .ref xh, .int (nI nl), .ref xr, .int (nI ns), .ref xs, .ref xi, .long tr, .int u1, .int u2, .int u3, .long u4, .ref xd, .int u5, .ref xf])), (xr, .inl (cI G, 12, .inl (fI gl))), (xs, .inl (cI G, 8, .inl (fI gs))), (xw, .inl (cJ G, 23, .inr (.inl (fJ gw)))), (xo, .inl (cJ G, 23, .inr (.inl (fJ go)))), (xh, .inl (cJ G, 23, .inr (.inl (fJ gh)))), (xi, .inl (cJ G, 200, .inr (.inl (fJ gi))))] rfl rfl rfl (Nat.le_of_ble_eq_true rfl) dX4_keep_4 (fun H locs hw => ?_)
  refine x_ifb_ne E (P := (0 : Int) ≤ (0 : Int) ∧ (0 : Int) ≤ (1 : Int)) (tgt := 12) dX4_keep_7 (by decide) (fun c_1 => ?_) (fun c_1 => ?_)
  · refine lv_bipush (v := (nI 100)) hx hb dX4_keep_12 (by decide) ?_
    refine lv_iload_n hx hb dX4_keep_14 rfl (lv_at hl 1 rfl) ?_
    refine x_imul E (v := (nI 0)) dX4_keep_15 (pk_mul _ _) ?_
    refine lv_istore_n (lv' := [(2, .int (nI 0)), (0, .ref x), (1, .int (nI 0))]) hx hb dX4_keep_16 rfl hl (by decide) rfl (fun ls hl => ?_)
    refine lv_aload_n hx hb dX4_keep_17 rfl (lv_at hl 1 rfl) ?_
    refine x_get E hw (C := RX4) (T := TX4) (N := 23) hinX4 0 rfl rfl 14 (by decide) rfl (List.mem_of_getElem? (i := 1) rfl) dX4_keep_18 ?_
    refine lv_iload_n hx hb dX4_keep_21 rfl (lv_at hl 0 rfl) ?_
    refine lv_lconst (v := (lN 1)) hx hb dX4_keep_22 (by decide) ?_
    refine x_last E hw 6 (a := xi) (ws1 := [(x, .inr (4, [.ref xt, .int (nI nb), .int (nI pa), .int (nI pt), .int (nI off), .int (nI ha), .int (nI n), .ref xw, .ref xo, .ref xh, .int (nI nl), .ref xr, .int (nI ns), .ref xs, .ref xi, .long tr, .int u1, .int u2, .int u3, .long u4, .ref xd, .int u5, .ref xf])), (xr, .inl (cI G, 12, .inl (fI gl))), (xs, .inl (cI G, 8, .inl (fI gs))), (xw, .inl (cJ G, 23, .inr (.inl (fJ gw)))), (xo, .inl (cJ G, 23, .inr (.inl (fJ go)))), (xh, .inl (cJ G, 23, .inr (.inl (fJ gh)))), (xi, .inl (cJ G, 200, .inr (.inl (fJ (va_up gi 0 1)))))]) rfl rfl (show 0 < 200 by omega) (by omega) (fJ_up _ _ _) rfl dX4_keep_23 (fun H locs hw => ?_)
    refine lv_aload_n hx hb dX4_keep_24 rfl (lv_at hl 1 rfl) ?_
    refine x_get E hw (C := RX4) (T := TX4) (N := 23) hinX4 0 rfl rfl 14 (by decide) rfl (List.mem_of_getElem? (i := 1) rfl) dX4_keep_25 ?_
    refine lv_iload_n hx hb dX4_keep_28 rfl (lv_at hl 0 rfl) ?_
    refine lv_iconst (v := (nI 1)) hx hb dX4_keep_29 (by decide) ?_
    refine x_iadd E (v := (nI 1)) dX4_keep_30 (nI_add _ _) ?_
    refine lv_aload_n hx hb dX4_keep_31 rfl (lv_at hl 1 rfl) ?_
    refine x_get E hw (C := RX4) (T := TX4) (N := 23) hinX4 0 rfl rfl 6 (by decide) rfl (List.mem_of_getElem? (i := 2) rfl) dX4_keep_32 ?_
    refine lv_i2l (v := (lN n)) hx hb dX4_keep_35 (nI_l (by omega)) ?_
    refine x_last E hw 6 (a := xi) (ws1 := [(x, .inr (4, [.ref xt, .int (nI nb), .int (nI pa), .int (nI pt), .int (nI off), .int (nI ha), .int (nI n), .ref xw, .ref xo, .ref xh, .int (nI nl), .ref xr, .int (nI ns), .ref xs, .ref xi, .long tr, .int u1, .int u2, .int u3, .long u4, .ref xd, .int u5, .ref xf])), (xr, .inl (cI G, 12, .inl (fI gl))), (xs, .inl (cI G, 8, .inl (fI gs))), (xw, .inl (cJ G, 23, .inr (.inl (fJ gw)))), (xo, .inl (cJ G, 23, .inr (.inl (fJ go)))), (xh, .inl (cJ G, 23, .inr (.inl (fJ gh)))), (xi, .inl (cJ G, 200, .inr (.inl (fJ (va_up (va_up gi 0 1) 1 n)))))]) rfl rfl (show 1 < 200 by omega) (by omega) (fJ_up _ _ _) rfl dX4_keep_36 (fun H locs hw => ?_)
    refine lv_aload_n hx hb dX4_keep_37 rfl (lv_at hl 1 rfl) ?_
    refine x_get E hw (C := RX4) (T := TX4) (N := 23) hinX4 0 rfl rfl 14 (by decide) rfl (List.mem_of_getElem? (i := 1) rfl) dX4_keep_38 ?_
    refine lv_iload_n hx hb dX4_keep_41 rfl (lv_at hl 0 rfl) ?_
    refine lv_iconst (v := (nI 2)) hx hb dX4_keep_42 (by decide) ?_
    refine x_iadd E (v := (nI 2)) dX4_keep_43 (nI_add _ _) ?_
    refine lv_aload_n hx hb dX4_keep_44 rfl (lv_at hl 1 rfl) ?_
    refine x_get E hw (C := RX4) (T := TX4) (N := 23) hinX4 0 rfl rfl 10 (by decide) rfl (List.mem_of_getElem? (i := 3) rfl) dX4_keep_45 ?_
    refine lv_i2l (v := (lN nl)) hx hb dX4_keep_48 (nI_l (by omega)) ?_
    refine x_last E hw 6 (a := xi) (ws1 := [(x, .inr (4, [.ref xt, .int (nI nb), .int (nI pa), .int (nI pt), .int (nI off), .int (nI ha), .int (nI n), .ref xw, .ref xo, .ref xh, .int (nI nl), .ref xr, .int (nI ns), .ref xs, .ref xi, .long tr, .int u1, .int u2, .int u3, .long u4, .ref xd, .int u5, .ref xf])), (xr, .inl (cI G, 12, .inl (fI gl))), (xs, .inl (cI G, 8, .inl (fI gs))), (xw, .inl (cJ G, 23, .inr (.inl (fJ gw)))), (xo, .inl (cJ G, 23, .inr (.inl (fJ go)))), (xh, .inl (cJ G, 23, .inr (.inl (fJ gh)))), (xi, .inl (cJ G, 200, .inr (.inl (fJ (va_up (va_up (va_up gi 0 1) 1 n) 2 nl)))))]) rfl rfl (show 2 < 200 by omega) (by omega) (fJ_up _ _ _) rfl dX4_keep_49 (fun H locs hw => ?_)
    refine lv_aload_n hx hb dX4_keep_50 rfl (lv_at hl 1 rfl) ?_
    refine x_get E hw (C := RX4) (T := TX4) (N := 23) hinX4 0 rfl rfl 14 (by decide) rfl (List.mem_of_getElem? (i := 1) rfl) dX4_keep_51 ?_
    refine lv_iload_n hx hb dX4_keep_54 rfl (lv_at hl 0 rfl) ?_
    refine lv_iconst (v := (nI 3)) hx hb dX4_keep_55 (by decide) ?_
    refine x_iadd E (v := (nI 3)) dX4_keep_56 (nI_add _ _) ?_
    refine lv_aload_n hx hb dX4_keep_57 rfl (lv_at hl 1 rfl) ?_
    refine x_get E hw (C := RX4) (T := TX4) (N := 23) hinX4 0 rfl rfl 12 (by decide) rfl (List.mem_of_getElem? (i := 4) rfl) dX4_keep_58 ?_
    refine lv_i2l (v := (lN ns)) hx hb dX4_keep_61 (nI_l (by omega)) ?_
    refine x_last E hw 6 (a := xi) (ws1 := [(x, .inr (4, [.ref xt, .int (nI nb), .int (nI pa), .int (nI pt), .int (nI off), .int (nI ha), .int (nI n), .ref xw, .ref xo, .ref xh, .int (nI nl), .ref xr, .int (nI ns), .ref xs, .ref xi, .long tr, .int u1, .int u2, .int u3, .long u4, .ref xd, .int u5, .ref xf])), (xr, .inl (cI G, 12, .inl (fI gl))), (xs, .inl (cI G, 8, .inl (fI gs))), (xw, .inl (cJ G, 23, .inr (.inl (fJ gw)))), (xo, .inl (cJ G, 23, .inr (.inl (fJ go)))), (xh, .inl (cJ G, 23, .inr (.inl (fJ gh)))), (xi, .inl (cJ G, 200, .inr (.inl (fJ (va_up (va_up (va_up (va_up gi 0 1) 1 n) 2 nl) 3 ns)))))]) rfl rfl (show 3 < 200 by omega) (by omega) (fJ_up _ _ _) rfl dX4_keep_62 (fun H locs hw => ?_)
    refine lv_iconst (v := (nI 0)) hx hb dX4_keep_63 (by decide) ?_
    refine lv_istore_n (lv' := [(3, .int (nI 0)), (2, .int (nI 0)), (0, .ref x), (1, .int (nI 0))]) hx hb dX4_keep_64 rfl hl (by decide) rfl (fun ls hl => ?_)
    have loop_65 : ∀ (fu : Nat) (e1 : Nat), e1 ≤ 12 → 12 - e1 < fu → ∀ (H : Heap) (locs : List Loc) (ls : Array Slot), Wd G s A [(x, .inr (4, [.ref xt, .int (nI nb), .int (nI pa), .int (nI pt), .int (nI off), .int (nI ha), .int (nI n), .ref xw, .ref xo, .ref xh, .int (nI nl), .ref xr, .int (nI ns), .ref xs, .ref xi, .long tr, .int u1, .int u2, .int u3, .long u4, .ref xd, .int u5, .ref xf])), (xr, .inl (cI G, 12, .inl (fI gl))), (xs, .inl (cI G, 8, .inl (fI gs))), (xw, .inl (cJ G, 23, .inr (.inl (fJ gw)))), (xo, .inl (cJ G, 23, .inr (.inl (fJ go)))), (xh, .inl (cJ G, 23, .inr (.inl (fJ gh)))), (xi, .inl (cJ G, 200, .inr (.inl (fJ (kpR (kpA gi 0 n nl ns) gl 0 e1)))))] H locs → lv_has ls 4 [(0, .ref x), (1, .int (nI 0)), (2, .int (nI 0)), (3, .int (nI e1))] → W p l e rm_X4_keep_0 s m args below meth c H locs 0 0 Q (F0 m 65 ls []) := by
      intro fu
      induction fu with
      | zero =>
        intro e1 he1 hmu
        exact absurd hmu (Nat.not_lt_zero _)
      | succ fu ih_65 =>
        intro e1 he1 hmu_65 H locs ls hw hl
        refine lv_iload_n hx hb dX4_keep_65 rfl (lv_at hl 3 rfl) ?_
        refine lv_bipush (v := (nI 12)) hx hb dX4_keep_66 (by decide) ?_
        refine x_icmp_ge E (nI_toI (show e1 < 2147483648 by omega)) (nI_toI (by decide)) (tgt := 94) dX4_keep_68 (by decide) (fun c_2 => ?_) (fun c_2 => ?_)
        · obtain rfl : e1 = 12 := by omega
          refine lv_iconst (v := (nI 0)) hx hb dX4_keep_94 (by decide) ?_
          refine lv_istore_n (lv' := [(3, .int (nI 0)), (0, .ref x), (1, .int (nI 0)), (2, .int (nI 0))]) hx hb dX4_keep_95 rfl hl (by decide) rfl (fun ls hl => ?_)
          have loop_96 : ∀ (fu : Nat) (e2 : Nat), e2 ≤ 8 → 8 - e2 < fu → ∀ (H : Heap) (locs : List Loc) (ls : Array Slot), Wd G s A [(x, .inr (4, [.ref xt, .int (nI nb), .int (nI pa), .int (nI pt), .int (nI off), .int (nI ha), .int (nI n), .ref xw, .ref xo, .ref xh, .int (nI nl), .ref xr, .int (nI ns), .ref xs, .ref xi, .long tr, .int u1, .int u2, .int u3, .long u4, .ref xd, .int u5, .ref xf])), (xr, .inl (cI G, 12, .inl (fI gl))), (xs, .inl (cI G, 8, .inl (fI gs))), (xw, .inl (cJ G, 23, .inr (.inl (fJ gw)))), (xo, .inl (cJ G, 23, .inr (.inl (fJ go)))), (xh, .inl (cJ G, 23, .inr (.inl (fJ gh)))), (xi, .inl (cJ G, 200, .inr (.inl (fJ (kpS (kpR (kpA gi 0 n nl ns) gl 0 12) gs 0 e2)))))] H locs → lv_has ls 4 [(0, .ref x), (1, .int (nI 0)), (2, .int (nI 0)), (3, .int (nI e2))] → W p l e rm_X4_keep_0 s m args below meth c H locs 0 0 Q (F0 m 96 ls []) := by
            intro fu
            induction fu with
            | zero =>
              intro e2 he2 hmu
              exact absurd hmu (Nat.not_lt_zero _)
            | succ fu ih_96 =>
              intro e2 he2 hmu_96 H locs ls hw hl
              refine lv_iload_n hx hb dX4_keep_96 rfl (lv_at hl 3 rfl) ?_
              refine lv_bipush (v := (nI 8)) hx hb dX4_keep_97 (by decide) ?_
              refine x_icmp_ge E (nI_toI (show e2 < 2147483648 by omega)) (nI_toI (by decide)) (tgt := 126) dX4_keep_99 (by decide) (fun c_3 => ?_) (fun c_3 => ?_)
              · obtain rfl : e2 = 8 := by omega
                refine lv_iconst (v := (nI 0)) hx hb dX4_keep_126 (by decide) ?_
                refine lv_istore_n (lv' := [(3, .int (nI 0)), (0, .ref x), (1, .int (nI 0)), (2, .int (nI 0))]) hx hb dX4_keep_127 rfl hl (by decide) rfl (fun ls hl => ?_)
                have loop_128 : ∀ (fu : Nat) (e3 : Nat), e3 ≤ 23 → 23 - e3 < fu → ∀ (H : Heap) (locs : List Loc) (ls : Array Slot), Wd G s A [(x, .inr (4, [.ref xt, .int (nI nb), .int (nI pa), .int (nI pt), .int (nI off), .int (nI ha), .int (nI n), .ref xw, .ref xo, .ref xh, .int (nI nl), .ref xr, .int (nI ns), .ref xs, .ref xi, .long tr, .int u1, .int u2, .int u3, .long u4, .ref xd, .int u5, .ref xf])), (xr, .inl (cI G, 12, .inl (fI gl))), (xs, .inl (cI G, 8, .inl (fI gs))), (xw, .inl (cJ G, 23, .inr (.inl (fJ gw)))), (xo, .inl (cJ G, 23, .inr (.inl (fJ go)))), (xh, .inl (cJ G, 23, .inr (.inl (fJ gh)))), (xi, .inl (cJ G, 200, .inr (.inl (fJ (kpC (kpS (kpR (kpA gi 0 n nl ns) gl 0 12) gs 0 8) gw go gh 0 e3)))))] H locs → lv_has ls 4 [(0, .ref x), (1, .int (nI 0)), (2, .int (nI 0)), (3, .int (nI e3))] → W p l e rm_X4_keep_0 s m args below meth c H locs 0 0 Q (F0 m 128 ls []) := by
                  intro fu
                  induction fu with
                  | zero =>
                    intro e3 he3 hmu
                    exact absurd hmu (Nat.not_lt_zero _)
                  | succ fu ih_128 =>
                    intro e3 he3 hmu_128 H locs ls hw hl
                    refine lv_iload_n hx hb dX4_keep_128 rfl (lv_at hl 3 rfl) ?_
                    refine lv_bipush (v := (nI 23)) hx hb dX4_keep_129 (by decide) ?_
                    refine x_icmp_ge E (nI_toI (show e3 < 2147483648 by omega)) (nI_toI (by decide)) (tgt := 197) dX4_keep_131 (by decide) (fun c_4 => ?_) (fun c_4 => ?_)
                    · obtain rfl : e3 = 23 := by omega
                      refine lv_aload_n hx hb dX4_keep_197 rfl (lv_at hl 0 rfl) ?_
                      refine x_get E hw (C := RX4) (T := TX4) (N := 23) hinX4 0 rfl rfl 6 (by decide) rfl (List.mem_of_getElem? (i := 2) rfl) dX4_keep_198 ?_
                      exact hret (nI n) () _ _ _ _ dX4_keep_201 rfl rfl hw
                    · refine lv_aload_n hx hb dX4_keep_134 rfl (lv_at hl 0 rfl) ?_
                      refine x_get E hw (C := RX4) (T := TX4) (N := 23) hinX4 0 rfl rfl 14 (by decide) rfl (List.mem_of_getElem? (i := 1) rfl) dX4_keep_135 ?_
                      refine lv_iload_n hx hb dX4_keep_138 rfl (lv_at hl 2 rfl) ?_
                      refine lv_bipush (v := (nI 24)) hx hb dX4_keep_139 (by decide) ?_
                      refine x_iadd E (v := (nI 24)) dX4_keep_141 (nI_add _ _) ?_
                      refine lv_iconst (v := (nI 3)) hx hb dX4_keep_142 (by decide) ?_
                      refine lv_iload_n hx hb dX4_keep_143 rfl (lv_at hl 3 rfl) ?_
                      refine x_imul E (v := (nI (3 * e3))) dX4_keep_144 (pk_mul _ _) ?_
                      refine x_iadd E (v := (nI (24 + (3 * e3)))) dX4_keep_145 (nI_add _ _) ?_
                      refine lv_aload_n hx hb dX4_keep_146 rfl (lv_at hl 0 rfl) ?_
                      refine x_get E hw (C := RX4) (T := TX4) (N := 23) hinX4 0 rfl rfl 7 (by decide) rfl (List.mem_of_getElem? (i := 7) rfl) dX4_keep_147 ?_
                      refine lv_iload_n hx hb dX4_keep_150 rfl (lv_at hl 3 rfl) ?_
                      refine x_lald E hw 3 (a := xw) (v := (lN (gw e3))) rfl rfl (show e3 < 23 by omega) (by omega) rfl dX4_keep_151 ?_
                      refine x_last E hw 6 (a := xi) (ws1 := [(x, .inr (4, [.ref xt, .int (nI nb), .int (nI pa), .int (nI pt), .int (nI off), .int (nI ha), .int (nI n), .ref xw, .ref xo, .ref xh, .int (nI nl), .ref xr, .int (nI ns), .ref xs, .ref xi, .long tr, .int u1, .int u2, .int u3, .long u4, .ref xd, .int u5, .ref xf])), (xr, .inl (cI G, 12, .inl (fI gl))), (xs, .inl (cI G, 8, .inl (fI gs))), (xw, .inl (cJ G, 23, .inr (.inl (fJ gw)))), (xo, .inl (cJ G, 23, .inr (.inl (fJ go)))), (xh, .inl (cJ G, 23, .inr (.inl (fJ gh)))), (xi, .inl (cJ G, 200, .inr (.inl (fJ (va_up (kpC (kpS (kpR (kpA gi 0 n nl ns) gl 0 12) gs 0 8) gw go gh 0 e3) (24 + (3 * e3)) (gw e3))))))]) rfl rfl (show 24 + (3 * e3) < 200 by omega) (by omega) (fJ_up _ _ _) rfl dX4_keep_152 (fun H locs hw => ?_)
                      refine lv_aload_n hx hb dX4_keep_153 rfl (lv_at hl 0 rfl) ?_
                      refine x_get E hw (C := RX4) (T := TX4) (N := 23) hinX4 0 rfl rfl 14 (by decide) rfl (List.mem_of_getElem? (i := 1) rfl) dX4_keep_154 ?_
                      refine lv_iload_n hx hb dX4_keep_157 rfl (lv_at hl 2 rfl) ?_
                      refine lv_bipush (v := (nI 25)) hx hb dX4_keep_158 (by decide) ?_
                      refine x_iadd E (v := (nI 25)) dX4_keep_160 (nI_add _ _) ?_
                      refine lv_iconst (v := (nI 3)) hx hb dX4_keep_161 (by decide) ?_
                      refine lv_iload_n hx hb dX4_keep_162 rfl (lv_at hl 3 rfl) ?_
                      refine x_imul E (v := (nI (3 * e3))) dX4_keep_163 (pk_mul _ _) ?_
                      refine x_iadd E (v := (nI (25 + (3 * e3)))) dX4_keep_164 (nI_add _ _) ?_
                      refine lv_aload_n hx hb dX4_keep_165 rfl (lv_at hl 0 rfl) ?_
                      refine x_get E hw (C := RX4) (T := TX4) (N := 23) hinX4 0 rfl rfl 8 (by decide) rfl (List.mem_of_getElem? (i := 8) rfl) dX4_keep_166 ?_
                      refine lv_iload_n hx hb dX4_keep_169 rfl (lv_at hl 3 rfl) ?_
                      refine x_lald E hw 4 (a := xo) (v := (lN (go e3))) rfl rfl (show e3 < 23 by omega) (by omega) rfl dX4_keep_170 ?_
                      refine x_last E hw 6 (a := xi) (ws1 := [(x, .inr (4, [.ref xt, .int (nI nb), .int (nI pa), .int (nI pt), .int (nI off), .int (nI ha), .int (nI n), .ref xw, .ref xo, .ref xh, .int (nI nl), .ref xr, .int (nI ns), .ref xs, .ref xi, .long tr, .int u1, .int u2, .int u3, .long u4, .ref xd, .int u5, .ref xf])), (xr, .inl (cI G, 12, .inl (fI gl))), (xs, .inl (cI G, 8, .inl (fI gs))), (xw, .inl (cJ G, 23, .inr (.inl (fJ gw)))), (xo, .inl (cJ G, 23, .inr (.inl (fJ go)))), (xh, .inl (cJ G, 23, .inr (.inl (fJ gh)))), (xi, .inl (cJ G, 200, .inr (.inl (fJ (va_up (va_up (kpC (kpS (kpR (kpA gi 0 n nl ns) gl 0 12) gs 0 8) gw go gh 0 e3) (24 + (3 * e3)) (gw e3)) (25 + (3 * e3)) (go e3))))))]) rfl rfl (show 25 + (3 * e3) < 200 by omega) (by omega) (fJ_up _ _ _) rfl dX4_keep_171 (fun H locs hw => ?_)
                      refine lv_aload_n hx hb dX4_keep_172 rfl (lv_at hl 0 rfl) ?_
                      refine x_get E hw (C := RX4) (T := TX4) (N := 23) hinX4 0 rfl rfl 14 (by decide) rfl (List.mem_of_getElem? (i := 1) rfl) dX4_keep_173 ?_
                      refine lv_iload_n hx hb dX4_keep_176 rfl (lv_at hl 2 rfl) ?_
                      refine lv_bipush (v := (nI 26)) hx hb dX4_keep_177 (by decide) ?_
                      refine x_iadd E (v := (nI 26)) dX4_keep_179 (nI_add _ _) ?_
                      refine lv_iconst (v := (nI 3)) hx hb dX4_keep_180 (by decide) ?_
                      refine lv_iload_n hx hb dX4_keep_181 rfl (lv_at hl 3 rfl) ?_
                      refine x_imul E (v := (nI (3 * e3))) dX4_keep_182 (pk_mul _ _) ?_
                      refine x_iadd E (v := (nI (26 + (3 * e3)))) dX4_keep_183 (nI_add _ _) ?_
                      refine lv_aload_n hx hb dX4_keep_184 rfl (lv_at hl 0 rfl) ?_
                      refine x_get E hw (C := RX4) (T := TX4) (N := 23) hinX4 0 rfl rfl 9 (by decide) rfl (List.mem_of_getElem? (i := 9) rfl) dX4_keep_185 ?_
                      refine lv_iload_n hx hb dX4_keep_188 rfl (lv_at hl 3 rfl) ?_
                      refine x_lald E hw 5 (a := xh) (v := (lN (gh e3))) rfl rfl (show e3 < 23 by omega) (by omega) rfl dX4_keep_189 ?_
                      refine x_last E hw 6 (a := xi) (ws1 := [(x, .inr (4, [.ref xt, .int (nI nb), .int (nI pa), .int (nI pt), .int (nI off), .int (nI ha), .int (nI n), .ref xw, .ref xo, .ref xh, .int (nI nl), .ref xr, .int (nI ns), .ref xs, .ref xi, .long tr, .int u1, .int u2, .int u3, .long u4, .ref xd, .int u5, .ref xf])), (xr, .inl (cI G, 12, .inl (fI gl))), (xs, .inl (cI G, 8, .inl (fI gs))), (xw, .inl (cJ G, 23, .inr (.inl (fJ gw)))), (xo, .inl (cJ G, 23, .inr (.inl (fJ go)))), (xh, .inl (cJ G, 23, .inr (.inl (fJ gh)))), (xi, .inl (cJ G, 200, .inr (.inl (fJ (va_up (va_up (va_up (kpC (kpS (kpR (kpA gi 0 n nl ns) gl 0 12) gs 0 8) gw go gh 0 e3) (24 + (3 * e3)) (gw e3)) (25 + (3 * e3)) (go e3)) (26 + (3 * e3)) (gh e3))))))]) rfl rfl (show 26 + (3 * e3) < 200 by omega) (by omega) (fJ_up _ _ _) rfl dX4_keep_190 (fun H locs hw => ?_)
                      refine lv_iinc (v := (nI (e3 + 1))) (lv' := [(3, .int (nI (e3 + 1))), (0, .ref x), (1, .int (nI 0)), (2, .int (nI 0))]) hx hb dX4_keep_191 hl (k := 3) rfl (x_inc1 _) (by decide) rfl (fun ls hl => ?_)
                      refine lv_goto (tgt := 128) hx hb dX4_keep_194 (by decide) ?_
                      exact ih_128 (e3 + 1) (by omega) (by omega) _ _ _ hw (lv_sub hl [1, 2, 3, 0] rfl)
                exact loop_128 (23 - 0 + 1) 0 (by omega) (Nat.lt_succ_self _) _ _ _ hw (lv_sub hl [1, 2, 3, 0] rfl)
              · have hgse := hgs e2
                refine lv_aload_n hx hb dX4_keep_102 rfl (lv_at hl 0 rfl) ?_
                refine x_get E hw (C := RX4) (T := TX4) (N := 23) hinX4 0 rfl rfl 14 (by decide) rfl (List.mem_of_getElem? (i := 1) rfl) dX4_keep_103 ?_
                refine lv_iload_n hx hb dX4_keep_106 rfl (lv_at hl 2 rfl) ?_
                refine lv_bipush (v := (nI 16)) hx hb dX4_keep_107 (by decide) ?_
                refine x_iadd E (v := (nI 16)) dX4_keep_109 (nI_add _ _) ?_
                refine lv_iload_n hx hb dX4_keep_110 rfl (lv_at hl 3 rfl) ?_
                refine x_iadd E (v := (nI (16 + e2))) dX4_keep_111 (nI_add _ _) ?_
                refine lv_aload_n hx hb dX4_keep_112 rfl (lv_at hl 0 rfl) ?_
                refine x_get E hw (C := RX4) (T := TX4) (N := 23) hinX4 0 rfl rfl 13 (by decide) rfl (List.mem_of_getElem? (i := 6) rfl) dX4_keep_113 ?_
                refine lv_iload_n hx hb dX4_keep_116 rfl (lv_at hl 3 rfl) ?_
                refine x_iald E hw 2 (a := xs) (v := (nI (gs e2))) rfl rfl (show e2 < 8 by omega) (by omega) rfl dX4_keep_117 ?_
                refine lv_i2l (v := (lN (gs e2))) hx hb dX4_keep_118 (nI_l (by omega)) ?_
                refine x_last E hw 6 (a := xi) (ws1 := [(x, .inr (4, [.ref xt, .int (nI nb), .int (nI pa), .int (nI pt), .int (nI off), .int (nI ha), .int (nI n), .ref xw, .ref xo, .ref xh, .int (nI nl), .ref xr, .int (nI ns), .ref xs, .ref xi, .long tr, .int u1, .int u2, .int u3, .long u4, .ref xd, .int u5, .ref xf])), (xr, .inl (cI G, 12, .inl (fI gl))), (xs, .inl (cI G, 8, .inl (fI gs))), (xw, .inl (cJ G, 23, .inr (.inl (fJ gw)))), (xo, .inl (cJ G, 23, .inr (.inl (fJ go)))), (xh, .inl (cJ G, 23, .inr (.inl (fJ gh)))), (xi, .inl (cJ G, 200, .inr (.inl (fJ (va_up (kpS (kpR (kpA gi 0 n nl ns) gl 0 12) gs 0 e2) (16 + e2) (gs e2))))))]) rfl rfl (show 16 + e2 < 200 by omega) (by omega) (fJ_up _ _ _) rfl dX4_keep_119 (fun H locs hw => ?_)
                refine lv_iinc (v := (nI (e2 + 1))) (lv' := [(3, .int (nI (e2 + 1))), (0, .ref x), (1, .int (nI 0)), (2, .int (nI 0))]) hx hb dX4_keep_120 hl (k := 3) rfl (x_inc1 _) (by decide) rfl (fun ls hl => ?_)
                refine lv_goto (tgt := 96) hx hb dX4_keep_123 (by decide) ?_
                exact ih_96 (e2 + 1) (by omega) (by omega) _ _ _ hw (lv_sub hl [1, 2, 3, 0] rfl)
          exact loop_96 (8 - 0 + 1) 0 (by omega) (Nat.lt_succ_self _) _ _ _ hw (lv_sub hl [1, 2, 3, 0] rfl)
        · have hgle := hgl e1
          refine lv_aload_n hx hb dX4_keep_71 rfl (lv_at hl 0 rfl) ?_
          refine x_get E hw (C := RX4) (T := TX4) (N := 23) hinX4 0 rfl rfl 14 (by decide) rfl (List.mem_of_getElem? (i := 1) rfl) dX4_keep_72 ?_
          refine lv_iload_n hx hb dX4_keep_75 rfl (lv_at hl 2 rfl) ?_
          refine lv_iconst (v := (nI 4)) hx hb dX4_keep_76 (by decide) ?_
          refine x_iadd E (v := (nI 4)) dX4_keep_77 (nI_add _ _) ?_
          refine lv_iload_n hx hb dX4_keep_78 rfl (lv_at hl 3 rfl) ?_
          refine x_iadd E (v := (nI (4 + e1))) dX4_keep_79 (nI_add _ _) ?_
          refine lv_aload_n hx hb dX4_keep_80 rfl (lv_at hl 0 rfl) ?_
          refine x_get E hw (C := RX4) (T := TX4) (N := 23) hinX4 0 rfl rfl 11 (by decide) rfl (List.mem_of_getElem? (i := 5) rfl) dX4_keep_81 ?_
          refine lv_iload_n hx hb dX4_keep_84 rfl (lv_at hl 3 rfl) ?_
          refine x_iald E hw 1 (a := xr) (v := (nI (gl e1))) rfl rfl (show e1 < 12 by omega) (by omega) rfl dX4_keep_85 ?_
          refine lv_i2l (v := (lN (gl e1))) hx hb dX4_keep_86 (nI_l (by omega)) ?_
          refine x_last E hw 6 (a := xi) (ws1 := [(x, .inr (4, [.ref xt, .int (nI nb), .int (nI pa), .int (nI pt), .int (nI off), .int (nI ha), .int (nI n), .ref xw, .ref xo, .ref xh, .int (nI nl), .ref xr, .int (nI ns), .ref xs, .ref xi, .long tr, .int u1, .int u2, .int u3, .long u4, .ref xd, .int u5, .ref xf])), (xr, .inl (cI G, 12, .inl (fI gl))), (xs, .inl (cI G, 8, .inl (fI gs))), (xw, .inl (cJ G, 23, .inr (.inl (fJ gw)))), (xo, .inl (cJ G, 23, .inr (.inl (fJ go)))), (xh, .inl (cJ G, 23, .inr (.inl (fJ gh)))), (xi, .inl (cJ G, 200, .inr (.inl (fJ (va_up (kpR (kpA gi 0 n nl ns) gl 0 e1) (4 + e1) (gl e1))))))]) rfl rfl (show 4 + e1 < 200 by omega) (by omega) (fJ_up _ _ _) rfl dX4_keep_87 (fun H locs hw => ?_)
          refine lv_iinc (v := (nI (e1 + 1))) (lv' := [(3, .int (nI (e1 + 1))), (0, .ref x), (1, .int (nI 0)), (2, .int (nI 0))]) hx hb dX4_keep_88 hl (k := 3) rfl (x_inc1 _) (by decide) rfl (fun ls hl => ?_)
          refine lv_goto (tgt := 65) hx hb dX4_keep_91 (by decide) ?_
          exact ih_65 (e1 + 1) (by omega) (by omega) _ _ _ hw (lv_sub hl [1, 2, 3, 0] rfl)
    exact loop_65 (12 - 0 + 1) 0 (by omega) (Nat.lt_succ_self _) _ _ _ hw (lv_sub hl [2, 3, 1, 0] rfl)
  · exfalso; omega

abbrev rm_X4_back_state_0 : Room := { frames := 1, cells := 0, slots := 0, locals := 25 }
set_option maxHeartbeats 4000000 in
set_option maxRecDepth 100000 in
theorem c_X4_back_state_0 (l : Launch) (G : XG) (x : Nat) (xt : Nat) (xw : Nat) (xo : Nat) (xh : Nat) (xr : Nat) (xs : Nat) (xi : Nat) (xd : Nat) (xf : Nat) (nb : Nat) (pa : Nat) (pt : Nat) (off : Nat) (ha : Nat) (n : Nat) (nl : Nat) (ns : Nat) (tr : Int64) (u1 : Int32) (u2 : Int32) (u3 : Int32) (u4 : Int64) (u5 : Int32) (gi : Nat → Nat) (h0 : gi 0 = 0) : CfI l yX4_back wsX4_back rm_X4_back_state_0 G [.ref x, .int (nI 0)] [(x, .inr (4, [.ref xt, .int (nI nb), .int (nI pa), .int (nI pt), .int (nI off), .int (nI ha), .int (nI n), .ref xw, .ref xo, .ref xh, .int (nI nl), .ref xr, .int (nI ns), .ref xs, .ref xi, .long tr, .int u1, .int u2, .int u3, .long u4, .ref xd, .int u5, .ref xf])), (xi, .inl (cJ G, 200, .inr (.inl (fJ gi))))] (-2 : Int32) [(x, .inr (4, [.ref xt, .int (nI nb), .int (nI pa), .int (nI pt), .int (nI off), .int (nI ha), .int (nI n), .ref xw, .ref xo, .ref xh, .int (nI nl), .ref xr, .int (nI ns), .ref xs, .ref xi, .long tr, .int u1, .int u2, .int u3, .long u4, .ref xd, .int u5, .ref xf])), (xi, .inl (cJ G, 200, .inr (.inl (fJ gi))))] := by
  refine CtI.go (cc := cX4_back) (maxL := 4) RX4 rfl (by decide) rfl (Nat.le_of_ble_eq_true rfl) ?_
  intro p e s m args below meth c A Q ls E hw hl hret
  have hx := E.1
  have hb := E.2.1
  have hinX4 : ∀ w ∈ wsX40, w ∈ wsX4_back := (fun w h => List.mem_cons_of_mem _ (List.mem_append_right _ h))
  have hl : lv_has ls 4 [(0, .ref x), (1, .int (nI 0))] := hl
  refine lv_iload_n hx hb dX4_back_0 rfl (lv_at hl 1 rfl) ?_
  refine lv_i2l (v := (lN 0)) hx hb dX4_back_1 (nI_l (by omega)) ?_
  refine lv_lconst (v := (lN 0)) hx hb dX4_back_2 (by decide) ?_
  refine lv_lconst (v := (lN 1)) hx hb dX4_back_3 (by decide) ?_
  refine x_cfSi E hw hl.1 (As := [.long (lN 0), .long (lN 0), .long (lN 1)]) (rest := []) (c_X4_in l G (lN 0) (lN 0) (lN 1) (0 : Int) (0 : Int) (1 : Int) (lN_toI (by decide)) (lN_toI (by decide)) (lN_toI (by decide))) 3 gX4_back_X4_in rfl rfl rfl (by decide) ⟨Nat.le_of_ble_eq_true rfl, Nat.le_of_ble_eq_true rfl⟩ ⟨Nat.le_of_ble_eq_true rfl, Nat.le_of_ble_eq_true rfl⟩ rfl [] [0, 1] rfl rfl rfl rfl rfl [0, 1] [(x, .inr (4, [.ref xt, .int (nI nb), .int (nI pa), .int (nI pt), .int (nI off), .int (nI ha), .int (nI n), .ref xw, .ref xo, .ref xh, .int (nI nl), .ref xr, .int (nI ns), .ref xs, .ref xi, .long tr, .int u1, .int u2, .int u3, .long u4, .ref xd, .int u5, .ref xf])), (xi, .inl (cJ G, 200, .inr (.inl (fJ gi))))] rfl rfl rfl (Nat.le_of_ble_eq_true rfl) dX4_back_4 (fun H locs hw => ?_)
  refine x_ifb_ne E (P := (0 : Int) ≤ (0 : Int) ∧ (0 : Int) ≤ (1 : Int)) (tgt := 12) dX4_back_7 (by decide) (fun c_1 => ?_) (fun c_1 => ?_)
  · refine lv_bipush (v := (nI 100)) hx hb dX4_back_12 (by decide) ?_
    refine lv_iload_n hx hb dX4_back_14 rfl (lv_at hl 1 rfl) ?_
    refine x_imul E (v := (nI 0)) dX4_back_15 (pk_mul _ _) ?_
    refine lv_istore_n (lv' := [(2, .int (nI 0)), (0, .ref x), (1, .int (nI 0))]) hx hb dX4_back_16 rfl hl (by decide) rfl (fun ls hl => ?_)
    refine lv_aload_n hx hb dX4_back_17 rfl (lv_at hl 1 rfl) ?_
    refine x_get E hw (C := RX4) (T := TX4) (N := 23) hinX4 0 rfl rfl 14 (by decide) rfl (List.mem_of_getElem? (i := 1) rfl) dX4_back_18 ?_
    refine lv_iload_n hx hb dX4_back_21 rfl (lv_at hl 0 rfl) ?_
    refine x_lald E hw 1 (a := xi) (v := (lN 0)) rfl rfl (show 0 < 200 by omega) (by omega) (by show lN (gi 0) = lN 0; rw [h0]) dX4_back_22 ?_
    refine lv_lconst (v := (lN 0)) hx hb dX4_back_23 (by decide) ?_
    refine x_lc_ne E (lN_toI (by decide)) (lN_toI (by decide)) (tgt := 31) dX4_back_24 dX4_back_25 (by decide) (fun c_2 => ?_) (fun c_2 => ?_)
    · exact absurd c_2 (by decide)
    · refine lv_bipush (v := (-2 : Int32)) hx hb dX4_back_28 (by decide) ?_
      exact hret (-2 : Int32) () _ _ _ _ dX4_back_30 rfl rfl hw
  · exfalso; omega

abbrev rm_X4_back_ok_0 : Room := { frames := 1, cells := 0, slots := 0, locals := 25 }
set_option maxHeartbeats 4000000 in
set_option maxRecDepth 100000 in
theorem c_X4_back_ok_0 (l : Launch) (G : XG) (x : Nat) (xt : Nat) (xw : Nat) (xo : Nat) (xh : Nat) (xr : Nat) (xs : Nat) (xi : Nat) (xd : Nat) (xf : Nat) (nb : Nat) (pa : Nat) (pt : Nat) (off : Nat) (ha : Nat) (n : Nat) (nl : Nat) (ns : Nat) (tr : Int64) (u1 : Int32) (u2 : Int32) (u3 : Int32) (u4 : Int64) (u5 : Int32) (gl : Nat → Nat) (gs : Nat → Nat) (gw : Nat → Nat) (go : Nat → Nat) (gh : Nat → Nat) (gi : Nat → Nat) (h1 : gi 0 = 1) : CfI l yX4_back wsX4_back rm_X4_back_ok_0 G [.ref x, .int (nI 0)] [(x, .inr (4, [.ref xt, .int (nI nb), .int (nI pa), .int (nI pt), .int (nI off), .int (nI ha), .int (nI n), .ref xw, .ref xo, .ref xh, .int (nI nl), .ref xr, .int (nI ns), .ref xs, .ref xi, .long tr, .int u1, .int u2, .int u3, .long u4, .ref xd, .int u5, .ref xf])), (xr, .inl (cI G, 12, .inl (fI gl))), (xs, .inl (cI G, 8, .inl (fI gs))), (xw, .inl (cJ G, 23, .inr (.inl (fJ gw)))), (xo, .inl (cJ G, 23, .inr (.inl (fJ go)))), (xh, .inl (cJ G, 23, .inr (.inl (fJ gh)))), (xi, .inl (cJ G, 200, .inr (.inl (fJ gi))))] (nI (gi 1)) [(x, .inr (4, [.ref xt, .int (nI nb), .int (nI pa), .int (nI pt), .int (nI off), .int (nI ha), .int (nI (gi 1)), .ref xw, .ref xo, .ref xh, .int (nI (gi 2)), .ref xr, .int (nI (gi 3)), .ref xs, .ref xi, .long tr, .int u1, .int u2, .int u3, .long u4, .ref xd, .int u5, .ref xf])), (xr, .inl (cI G, 12, .inl (fI (cpN (fun j => gi (4 + j)) gl 12)))), (xs, .inl (cI G, 8, .inl (fI (cpN (fun j => gi (16 + j)) gs 8)))), (xw, .inl (cJ G, 23, .inr (.inl (fJ (cpN (fun j => gi (24 + 3 * j)) gw 23))))), (xo, .inl (cJ G, 23, .inr (.inl (fJ (cpN (fun j => gi (25 + 3 * j)) go 23))))), (xh, .inl (cJ G, 23, .inr (.inl (fJ (cpN (fun j => gi (26 + 3 * j)) gh 23))))), (xi, .inl (cJ G, 200, .inr (.inl (fJ gi))))] := by
  refine CtI.go (cc := cX4_back) (maxL := 4) RX4 rfl (by decide) rfl (Nat.le_of_ble_eq_true rfl) ?_
  intro p e s m args below meth c A Q ls E hw hl hret
  have hx := E.1
  have hb := E.2.1
  have hinX4 : ∀ w ∈ wsX40, w ∈ wsX4_back := (fun w h => List.mem_cons_of_mem _ (List.mem_append_right _ h))
  have hl : lv_has ls 4 [(0, .ref x), (1, .int (nI 0))] := hl
  refine lv_iload_n hx hb dX4_back_0 rfl (lv_at hl 1 rfl) ?_
  refine lv_i2l (v := (lN 0)) hx hb dX4_back_1 (nI_l (by omega)) ?_
  refine lv_lconst (v := (lN 0)) hx hb dX4_back_2 (by decide) ?_
  refine lv_lconst (v := (lN 1)) hx hb dX4_back_3 (by decide) ?_
  refine x_cfSi E hw hl.1 (As := [.long (lN 0), .long (lN 0), .long (lN 1)]) (rest := []) (c_X4_in l G (lN 0) (lN 0) (lN 1) (0 : Int) (0 : Int) (1 : Int) (lN_toI (by decide)) (lN_toI (by decide)) (lN_toI (by decide))) 3 gX4_back_X4_in rfl rfl rfl (by decide) ⟨Nat.le_of_ble_eq_true rfl, Nat.le_of_ble_eq_true rfl⟩ ⟨Nat.le_of_ble_eq_true rfl, Nat.le_of_ble_eq_true rfl⟩ rfl [] [0, 1, 2, 3, 4, 5, 6] rfl rfl rfl rfl rfl [0, 1, 2, 3, 4, 5, 6] [(x, .inr (4, [.ref xt, .int (nI nb), .int (nI pa), .int (nI pt), .int (nI off), .int (nI ha), .int (nI n), .ref xw, .ref xo, .ref xh, .int (nI nl), .ref xr, .int (nI ns), .ref xs, .ref xi, .long tr, .int u1, .int u2, .int u3, .long u4, .ref xd, .int u5, .ref xf])), (xr, .inl (cI G, 12, .inl (fI gl))), (xs, .inl (cI G, 8, .inl (fI gs))), (xw, .inl (cJ G, 23, .inr (.inl (fJ gw)))), (xo, .inl (cJ G, 23, .inr (.inl (fJ go)))), (xh, .inl (cJ G, 23, .inr (.inl (fJ gh)))), (xi, .inl (cJ G, 200, .inr (.inl (fJ gi))))] rfl rfl rfl (Nat.le_of_ble_eq_true rfl) dX4_back_4 (fun H locs hw => ?_)
  refine x_ifb_ne E (P := (0 : Int) ≤ (0 : Int) ∧ (0 : Int) ≤ (1 : Int)) (tgt := 12) dX4_back_7 (by decide) (fun c_1 => ?_) (fun c_1 => ?_)
  · refine lv_bipush (v := (nI 100)) hx hb dX4_back_12 (by decide) ?_
    refine lv_iload_n hx hb dX4_back_14 rfl (lv_at hl 1 rfl) ?_
    refine x_imul E (v := (nI 0)) dX4_back_15 (pk_mul _ _) ?_
    refine lv_istore_n (lv' := [(2, .int (nI 0)), (0, .ref x), (1, .int (nI 0))]) hx hb dX4_back_16 rfl hl (by decide) rfl (fun ls hl => ?_)
    refine lv_aload_n hx hb dX4_back_17 rfl (lv_at hl 1 rfl) ?_
    refine x_get E hw (C := RX4) (T := TX4) (N := 23) hinX4 0 rfl rfl 14 (by decide) rfl (List.mem_of_getElem? (i := 1) rfl) dX4_back_18 ?_
    refine lv_iload_n hx hb dX4_back_21 rfl (lv_at hl 0 rfl) ?_
    refine x_lald E hw 6 (a := xi) (v := (lN 1)) rfl rfl (show 0 < 200 by omega) (by omega) (by show lN (gi 0) = lN 1; rw [h1]) dX4_back_22 ?_
    refine lv_lconst (v := (lN 0)) hx hb dX4_back_23 (by decide) ?_
    refine x_lc_ne E (lN_toI (by decide)) (lN_toI (by decide)) (tgt := 31) dX4_back_24 dX4_back_25 (by decide) (fun c_2 => ?_) (fun c_2 => ?_)
    · refine lv_aload_n hx hb dX4_back_31 rfl (lv_at hl 1 rfl) ?_
      refine lv_aload_n hx hb dX4_back_32 rfl (lv_at hl 1 rfl) ?_
      refine x_get E hw (C := RX4) (T := TX4) (N := 23) hinX4 0 rfl rfl 14 (by decide) rfl (List.mem_of_getElem? (i := 1) rfl) dX4_back_33 ?_
      refine lv_iload_n hx hb dX4_back_36 rfl (lv_at hl 0 rfl) ?_
      refine lv_iconst (v := (nI 1)) hx hb dX4_back_37 (by decide) ?_
      refine x_iadd E (v := (nI 1)) dX4_back_38 (nI_add _ _) ?_
      refine x_lald E hw 6 (a := xi) (v := (lN (gi 1))) rfl rfl (show 1 < 200 by omega) (by omega) rfl dX4_back_39 ?_
      refine lv_l2i (v := (nI (gi 1))) hx hb dX4_back_40 (lN_i _) ?_
      refine x_put E hw (C := RX4) (T := TX4) (N := 23) (ws1 := [(x, .inr (4, [.ref xt, .int (nI nb), .int (nI pa), .int (nI pt), .int (nI off), .int (nI ha), .int (nI (gi 1)), .ref xw, .ref xo, .ref xh, .int (nI nl), .ref xr, .int (nI ns), .ref xs, .ref xi, .long tr, .int u1, .int u2, .int u3, .long u4, .ref xd, .int u5, .ref xf])), (xr, .inl (cI G, 12, .inl (fI gl))), (xs, .inl (cI G, 8, .inl (fI gs))), (xw, .inl (cJ G, 23, .inr (.inl (fJ gw)))), (xo, .inl (cJ G, 23, .inr (.inl (fJ go)))), (xh, .inl (cJ G, 23, .inr (.inl (fJ gh)))), (xi, .inl (cJ G, 200, .inr (.inl (fJ gi))))]) hinX4 tyX4_ok nmX4 0 rfl rfl 6 (by decide) (List.mem_of_getElem? (i := 2) rfl) rfl rfl rfl (Nat.le_of_ble_eq_true rfl) rfl dX4_back_41 (fun H locs hw => ?_)
      refine lv_aload_n hx hb dX4_back_44 rfl (lv_at hl 1 rfl) ?_
      refine lv_aload_n hx hb dX4_back_45 rfl (lv_at hl 1 rfl) ?_
      refine x_get E hw (C := RX4) (T := TX4) (N := 23) hinX4 0 rfl rfl 14 (by decide) rfl (List.mem_of_getElem? (i := 1) rfl) dX4_back_46 ?_
      refine lv_iload_n hx hb dX4_back_49 rfl (lv_at hl 0 rfl) ?_
      refine lv_iconst (v := (nI 2)) hx hb dX4_back_50 (by decide) ?_
      refine x_iadd E (v := (nI 2)) dX4_back_51 (nI_add _ _) ?_
      refine x_lald E hw 6 (a := xi) (v := (lN (gi 2))) rfl rfl (show 2 < 200 by omega) (by omega) rfl dX4_back_52 ?_
      refine lv_l2i (v := (nI (gi 2))) hx hb dX4_back_53 (lN_i _) ?_
      refine x_put E hw (C := RX4) (T := TX4) (N := 23) (ws1 := [(x, .inr (4, [.ref xt, .int (nI nb), .int (nI pa), .int (nI pt), .int (nI off), .int (nI ha), .int (nI (gi 1)), .ref xw, .ref xo, .ref xh, .int (nI (gi 2)), .ref xr, .int (nI ns), .ref xs, .ref xi, .long tr, .int u1, .int u2, .int u3, .long u4, .ref xd, .int u5, .ref xf])), (xr, .inl (cI G, 12, .inl (fI gl))), (xs, .inl (cI G, 8, .inl (fI gs))), (xw, .inl (cJ G, 23, .inr (.inl (fJ gw)))), (xo, .inl (cJ G, 23, .inr (.inl (fJ go)))), (xh, .inl (cJ G, 23, .inr (.inl (fJ gh)))), (xi, .inl (cJ G, 200, .inr (.inl (fJ gi))))]) hinX4 tyX4_ok nmX4 0 rfl rfl 10 (by decide) (List.mem_of_getElem? (i := 3) rfl) rfl rfl rfl (Nat.le_of_ble_eq_true rfl) rfl dX4_back_54 (fun H locs hw => ?_)
      refine lv_aload_n hx hb dX4_back_57 rfl (lv_at hl 1 rfl) ?_
      refine lv_aload_n hx hb dX4_back_58 rfl (lv_at hl 1 rfl) ?_
      refine x_get E hw (C := RX4) (T := TX4) (N := 23) hinX4 0 rfl rfl 14 (by decide) rfl (List.mem_of_getElem? (i := 1) rfl) dX4_back_59 ?_
      refine lv_iload_n hx hb dX4_back_62 rfl (lv_at hl 0 rfl) ?_
      refine lv_iconst (v := (nI 3)) hx hb dX4_back_63 (by decide) ?_
      refine x_iadd E (v := (nI 3)) dX4_back_64 (nI_add _ _) ?_
      refine x_lald E hw 6 (a := xi) (v := (lN (gi 3))) rfl rfl (show 3 < 200 by omega) (by omega) rfl dX4_back_65 ?_
      refine lv_l2i (v := (nI (gi 3))) hx hb dX4_back_66 (lN_i _) ?_
      refine x_put E hw (C := RX4) (T := TX4) (N := 23) (ws1 := [(x, .inr (4, [.ref xt, .int (nI nb), .int (nI pa), .int (nI pt), .int (nI off), .int (nI ha), .int (nI (gi 1)), .ref xw, .ref xo, .ref xh, .int (nI (gi 2)), .ref xr, .int (nI (gi 3)), .ref xs, .ref xi, .long tr, .int u1, .int u2, .int u3, .long u4, .ref xd, .int u5, .ref xf])), (xr, .inl (cI G, 12, .inl (fI gl))), (xs, .inl (cI G, 8, .inl (fI gs))), (xw, .inl (cJ G, 23, .inr (.inl (fJ gw)))), (xo, .inl (cJ G, 23, .inr (.inl (fJ go)))), (xh, .inl (cJ G, 23, .inr (.inl (fJ gh)))), (xi, .inl (cJ G, 200, .inr (.inl (fJ gi))))]) hinX4 tyX4_ok nmX4 0 rfl rfl 12 (by decide) (List.mem_of_getElem? (i := 4) rfl) rfl rfl rfl (Nat.le_of_ble_eq_true rfl) rfl dX4_back_67 (fun H locs hw => ?_)
      refine lv_iconst (v := (nI 0)) hx hb dX4_back_70 (by decide) ?_
      refine lv_istore_n (lv' := [(3, .int (nI 0)), (2, .int (nI 0)), (0, .ref x), (1, .int (nI 0))]) hx hb dX4_back_71 rfl hl (by decide) rfl (fun ls hl => ?_)
      have loop_72 : ∀ (fu : Nat) (e1 : Nat), e1 ≤ 12 → 12 - e1 < fu → ∀ (H : Heap) (locs : List Loc) (ls : Array Slot), Wd G s A [(x, .inr (4, [.ref xt, .int (nI nb), .int (nI pa), .int (nI pt), .int (nI off), .int (nI ha), .int (nI (gi 1)), .ref xw, .ref xo, .ref xh, .int (nI (gi 2)), .ref xr, .int (nI (gi 3)), .ref xs, .ref xi, .long tr, .int u1, .int u2, .int u3, .long u4, .ref xd, .int u5, .ref xf])), (xr, .inl (cI G, 12, .inl (fI (cpN (fun j => gi (4 + j)) gl e1)))), (xs, .inl (cI G, 8, .inl (fI (cpN (fun j => gi (16 + j)) gs 0)))), (xw, .inl (cJ G, 23, .inr (.inl (fJ (cpN (fun j => gi (24 + 3 * j)) gw 0))))), (xo, .inl (cJ G, 23, .inr (.inl (fJ (cpN (fun j => gi (25 + 3 * j)) go 0))))), (xh, .inl (cJ G, 23, .inr (.inl (fJ (cpN (fun j => gi (26 + 3 * j)) gh 0))))), (xi, .inl (cJ G, 200, .inr (.inl (fJ gi))))] H locs → lv_has ls 4 [(0, .ref x), (2, .int (nI 0)), (3, .int (nI e1))] → W p l e rm_X4_back_ok_0 s m args below meth c H locs 0 0 Q (F0 m 72 ls []) := by
        intro fu
        induction fu with
        | zero =>
          intro e1 he1 hmu
          exact absurd hmu (Nat.not_lt_zero _)
        | succ fu ih_72 =>
          intro e1 he1 hmu_72 H locs ls hw hl
          refine lv_iload_n hx hb dX4_back_72 rfl (lv_at hl 2 rfl) ?_
          refine lv_bipush (v := (nI 12)) hx hb dX4_back_73 (by decide) ?_
          refine x_icmp_ge E (nI_toI (show e1 < 2147483648 by omega)) (nI_toI (by decide)) (tgt := 101) dX4_back_75 (by decide) (fun c_3 => ?_) (fun c_3 => ?_)
          · obtain rfl : e1 = 12 := by omega
            refine lv_iconst (v := (nI 0)) hx hb dX4_back_101 (by decide) ?_
            refine lv_istore_n (lv' := [(3, .int (nI 0)), (0, .ref x), (2, .int (nI 0))]) hx hb dX4_back_102 rfl hl (by decide) rfl (fun ls hl => ?_)
            have loop_103 : ∀ (fu : Nat) (e2 : Nat), e2 ≤ 8 → 8 - e2 < fu → ∀ (H : Heap) (locs : List Loc) (ls : Array Slot), Wd G s A [(x, .inr (4, [.ref xt, .int (nI nb), .int (nI pa), .int (nI pt), .int (nI off), .int (nI ha), .int (nI (gi 1)), .ref xw, .ref xo, .ref xh, .int (nI (gi 2)), .ref xr, .int (nI (gi 3)), .ref xs, .ref xi, .long tr, .int u1, .int u2, .int u3, .long u4, .ref xd, .int u5, .ref xf])), (xr, .inl (cI G, 12, .inl (fI (cpN (fun j => gi (4 + j)) gl 12)))), (xs, .inl (cI G, 8, .inl (fI (cpN (fun j => gi (16 + j)) gs e2)))), (xw, .inl (cJ G, 23, .inr (.inl (fJ (cpN (fun j => gi (24 + 3 * j)) gw 0))))), (xo, .inl (cJ G, 23, .inr (.inl (fJ (cpN (fun j => gi (25 + 3 * j)) go 0))))), (xh, .inl (cJ G, 23, .inr (.inl (fJ (cpN (fun j => gi (26 + 3 * j)) gh 0))))), (xi, .inl (cJ G, 200, .inr (.inl (fJ gi))))] H locs → lv_has ls 4 [(0, .ref x), (2, .int (nI 0)), (3, .int (nI e2))] → W p l e rm_X4_back_ok_0 s m args below meth c H locs 0 0 Q (F0 m 103 ls []) := by
              intro fu
              induction fu with
              | zero =>
                intro e2 he2 hmu
                exact absurd hmu (Nat.not_lt_zero _)
              | succ fu ih_103 =>
                intro e2 he2 hmu_103 H locs ls hw hl
                refine lv_iload_n hx hb dX4_back_103 rfl (lv_at hl 2 rfl) ?_
                refine lv_bipush (v := (nI 8)) hx hb dX4_back_104 (by decide) ?_
                refine x_icmp_ge E (nI_toI (show e2 < 2147483648 by omega)) (nI_toI (by decide)) (tgt := 133) dX4_back_106 (by decide) (fun c_4 => ?_) (fun c_4 => ?_)
                · obtain rfl : e2 = 8 := by omega
                  refine lv_iconst (v := (nI 0)) hx hb dX4_back_133 (by decide) ?_
                  refine lv_istore_n (lv' := [(3, .int (nI 0)), (0, .ref x), (2, .int (nI 0))]) hx hb dX4_back_134 rfl hl (by decide) rfl (fun ls hl => ?_)
                  have loop_135 : ∀ (fu : Nat) (e3 : Nat), e3 ≤ 23 → 23 - e3 < fu → ∀ (H : Heap) (locs : List Loc) (ls : Array Slot), Wd G s A [(x, .inr (4, [.ref xt, .int (nI nb), .int (nI pa), .int (nI pt), .int (nI off), .int (nI ha), .int (nI (gi 1)), .ref xw, .ref xo, .ref xh, .int (nI (gi 2)), .ref xr, .int (nI (gi 3)), .ref xs, .ref xi, .long tr, .int u1, .int u2, .int u3, .long u4, .ref xd, .int u5, .ref xf])), (xr, .inl (cI G, 12, .inl (fI (cpN (fun j => gi (4 + j)) gl 12)))), (xs, .inl (cI G, 8, .inl (fI (cpN (fun j => gi (16 + j)) gs 8)))), (xw, .inl (cJ G, 23, .inr (.inl (fJ (cpN (fun j => gi (24 + 3 * j)) gw e3))))), (xo, .inl (cJ G, 23, .inr (.inl (fJ (cpN (fun j => gi (25 + 3 * j)) go e3))))), (xh, .inl (cJ G, 23, .inr (.inl (fJ (cpN (fun j => gi (26 + 3 * j)) gh e3))))), (xi, .inl (cJ G, 200, .inr (.inl (fJ gi))))] H locs → lv_has ls 4 [(0, .ref x), (2, .int (nI 0)), (3, .int (nI e3))] → W p l e rm_X4_back_ok_0 s m args below meth c H locs 0 0 Q (F0 m 135 ls []) := by
                    intro fu
                    induction fu with
                    | zero =>
                      intro e3 he3 hmu
                      exact absurd hmu (Nat.not_lt_zero _)
                    | succ fu ih_135 =>
                      intro e3 he3 hmu_135 H locs ls hw hl
                      refine lv_iload_n hx hb dX4_back_135 rfl (lv_at hl 2 rfl) ?_
                      refine lv_bipush (v := (nI 23)) hx hb dX4_back_136 (by decide) ?_
                      refine x_icmp_ge E (nI_toI (show e3 < 2147483648 by omega)) (nI_toI (by decide)) (tgt := 204) dX4_back_138 (by decide) (fun c_5 => ?_) (fun c_5 => ?_)
                      · obtain rfl : e3 = 23 := by omega
                        refine lv_aload_n hx hb dX4_back_204 rfl (lv_at hl 0 rfl) ?_
                        refine x_get E hw (C := RX4) (T := TX4) (N := 23) hinX4 0 rfl rfl 6 (by decide) rfl (List.mem_of_getElem? (i := 2) rfl) dX4_back_205 ?_
                        exact hret (nI (gi 1)) () _ _ _ _ dX4_back_208 rfl rfl hw
                      · refine lv_aload_n hx hb dX4_back_141 rfl (lv_at hl 0 rfl) ?_
                        refine x_get E hw (C := RX4) (T := TX4) (N := 23) hinX4 0 rfl rfl 7 (by decide) rfl (List.mem_of_getElem? (i := 7) rfl) dX4_back_142 ?_
                        refine lv_iload_n hx hb dX4_back_145 rfl (lv_at hl 2 rfl) ?_
                        refine lv_aload_n hx hb dX4_back_146 rfl (lv_at hl 0 rfl) ?_
                        refine x_get E hw (C := RX4) (T := TX4) (N := 23) hinX4 0 rfl rfl 14 (by decide) rfl (List.mem_of_getElem? (i := 1) rfl) dX4_back_147 ?_
                        refine lv_iload_n hx hb dX4_back_150 rfl (lv_at hl 1 rfl) ?_
                        refine lv_bipush (v := (nI 24)) hx hb dX4_back_151 (by decide) ?_
                        refine x_iadd E (v := (nI 24)) dX4_back_153 (nI_add _ _) ?_
                        refine lv_iconst (v := (nI 3)) hx hb dX4_back_154 (by decide) ?_
                        refine lv_iload_n hx hb dX4_back_155 rfl (lv_at hl 2 rfl) ?_
                        refine x_imul E (v := (nI (3 * e3))) dX4_back_156 (pk_mul _ _) ?_
                        refine x_iadd E (v := (nI (24 + (3 * e3)))) dX4_back_157 (nI_add _ _) ?_
                        refine x_lald E hw 6 (a := xi) (v := (lN (gi (24 + (3 * e3))))) rfl rfl (show 24 + (3 * e3) < 200 by omega) (by omega) rfl dX4_back_158 ?_
                        refine x_last E hw 3 (a := xw) (ws1 := [(x, .inr (4, [.ref xt, .int (nI nb), .int (nI pa), .int (nI pt), .int (nI off), .int (nI ha), .int (nI (gi 1)), .ref xw, .ref xo, .ref xh, .int (nI (gi 2)), .ref xr, .int (nI (gi 3)), .ref xs, .ref xi, .long tr, .int u1, .int u2, .int u3, .long u4, .ref xd, .int u5, .ref xf])), (xr, .inl (cI G, 12, .inl (fI (cpN (fun j => gi (4 + j)) gl 12)))), (xs, .inl (cI G, 8, .inl (fI (cpN (fun j => gi (16 + j)) gs 8)))), (xw, .inl (cJ G, 23, .inr (.inl (fJ (va_up (cpN (fun j => gi (24 + 3 * j)) gw e3) e3 (gi (24 + (3 * e3)))))))), (xo, .inl (cJ G, 23, .inr (.inl (fJ (cpN (fun j => gi (25 + 3 * j)) go e3))))), (xh, .inl (cJ G, 23, .inr (.inl (fJ (cpN (fun j => gi (26 + 3 * j)) gh e3))))), (xi, .inl (cJ G, 200, .inr (.inl (fJ gi))))]) rfl rfl (show e3 < 23 by omega) (by omega) (fJ_up _ _ _) rfl dX4_back_159 (fun H locs hw => ?_)
                        refine lv_aload_n hx hb dX4_back_160 rfl (lv_at hl 0 rfl) ?_
                        refine x_get E hw (C := RX4) (T := TX4) (N := 23) hinX4 0 rfl rfl 8 (by decide) rfl (List.mem_of_getElem? (i := 8) rfl) dX4_back_161 ?_
                        refine lv_iload_n hx hb dX4_back_164 rfl (lv_at hl 2 rfl) ?_
                        refine lv_aload_n hx hb dX4_back_165 rfl (lv_at hl 0 rfl) ?_
                        refine x_get E hw (C := RX4) (T := TX4) (N := 23) hinX4 0 rfl rfl 14 (by decide) rfl (List.mem_of_getElem? (i := 1) rfl) dX4_back_166 ?_
                        refine lv_iload_n hx hb dX4_back_169 rfl (lv_at hl 1 rfl) ?_
                        refine lv_bipush (v := (nI 25)) hx hb dX4_back_170 (by decide) ?_
                        refine x_iadd E (v := (nI 25)) dX4_back_172 (nI_add _ _) ?_
                        refine lv_iconst (v := (nI 3)) hx hb dX4_back_173 (by decide) ?_
                        refine lv_iload_n hx hb dX4_back_174 rfl (lv_at hl 2 rfl) ?_
                        refine x_imul E (v := (nI (3 * e3))) dX4_back_175 (pk_mul _ _) ?_
                        refine x_iadd E (v := (nI (25 + (3 * e3)))) dX4_back_176 (nI_add _ _) ?_
                        refine x_lald E hw 6 (a := xi) (v := (lN (gi (25 + (3 * e3))))) rfl rfl (show 25 + (3 * e3) < 200 by omega) (by omega) rfl dX4_back_177 ?_
                        refine x_last E hw 4 (a := xo) (ws1 := [(x, .inr (4, [.ref xt, .int (nI nb), .int (nI pa), .int (nI pt), .int (nI off), .int (nI ha), .int (nI (gi 1)), .ref xw, .ref xo, .ref xh, .int (nI (gi 2)), .ref xr, .int (nI (gi 3)), .ref xs, .ref xi, .long tr, .int u1, .int u2, .int u3, .long u4, .ref xd, .int u5, .ref xf])), (xr, .inl (cI G, 12, .inl (fI (cpN (fun j => gi (4 + j)) gl 12)))), (xs, .inl (cI G, 8, .inl (fI (cpN (fun j => gi (16 + j)) gs 8)))), (xw, .inl (cJ G, 23, .inr (.inl (fJ (va_up (cpN (fun j => gi (24 + 3 * j)) gw e3) e3 (gi (24 + (3 * e3)))))))), (xo, .inl (cJ G, 23, .inr (.inl (fJ (va_up (cpN (fun j => gi (25 + 3 * j)) go e3) e3 (gi (25 + (3 * e3)))))))), (xh, .inl (cJ G, 23, .inr (.inl (fJ (cpN (fun j => gi (26 + 3 * j)) gh e3))))), (xi, .inl (cJ G, 200, .inr (.inl (fJ gi))))]) rfl rfl (show e3 < 23 by omega) (by omega) (fJ_up _ _ _) rfl dX4_back_178 (fun H locs hw => ?_)
                        refine lv_aload_n hx hb dX4_back_179 rfl (lv_at hl 0 rfl) ?_
                        refine x_get E hw (C := RX4) (T := TX4) (N := 23) hinX4 0 rfl rfl 9 (by decide) rfl (List.mem_of_getElem? (i := 9) rfl) dX4_back_180 ?_
                        refine lv_iload_n hx hb dX4_back_183 rfl (lv_at hl 2 rfl) ?_
                        refine lv_aload_n hx hb dX4_back_184 rfl (lv_at hl 0 rfl) ?_
                        refine x_get E hw (C := RX4) (T := TX4) (N := 23) hinX4 0 rfl rfl 14 (by decide) rfl (List.mem_of_getElem? (i := 1) rfl) dX4_back_185 ?_
                        refine lv_iload_n hx hb dX4_back_188 rfl (lv_at hl 1 rfl) ?_
                        refine lv_bipush (v := (nI 26)) hx hb dX4_back_189 (by decide) ?_
                        refine x_iadd E (v := (nI 26)) dX4_back_191 (nI_add _ _) ?_
                        refine lv_iconst (v := (nI 3)) hx hb dX4_back_192 (by decide) ?_
                        refine lv_iload_n hx hb dX4_back_193 rfl (lv_at hl 2 rfl) ?_
                        refine x_imul E (v := (nI (3 * e3))) dX4_back_194 (pk_mul _ _) ?_
                        refine x_iadd E (v := (nI (26 + (3 * e3)))) dX4_back_195 (nI_add _ _) ?_
                        refine x_lald E hw 6 (a := xi) (v := (lN (gi (26 + (3 * e3))))) rfl rfl (show 26 + (3 * e3) < 200 by omega) (by omega) rfl dX4_back_196 ?_
                        refine x_last E hw 5 (a := xh) (ws1 := [(x, .inr (4, [.ref xt, .int (nI nb), .int (nI pa), .int (nI pt), .int (nI off), .int (nI ha), .int (nI (gi 1)), .ref xw, .ref xo, .ref xh, .int (nI (gi 2)), .ref xr, .int (nI (gi 3)), .ref xs, .ref xi, .long tr, .int u1, .int u2, .int u3, .long u4, .ref xd, .int u5, .ref xf])), (xr, .inl (cI G, 12, .inl (fI (cpN (fun j => gi (4 + j)) gl 12)))), (xs, .inl (cI G, 8, .inl (fI (cpN (fun j => gi (16 + j)) gs 8)))), (xw, .inl (cJ G, 23, .inr (.inl (fJ (va_up (cpN (fun j => gi (24 + 3 * j)) gw e3) e3 (gi (24 + (3 * e3)))))))), (xo, .inl (cJ G, 23, .inr (.inl (fJ (va_up (cpN (fun j => gi (25 + 3 * j)) go e3) e3 (gi (25 + (3 * e3)))))))), (xh, .inl (cJ G, 23, .inr (.inl (fJ (va_up (cpN (fun j => gi (26 + 3 * j)) gh e3) e3 (gi (26 + (3 * e3)))))))), (xi, .inl (cJ G, 200, .inr (.inl (fJ gi))))]) rfl rfl (show e3 < 23 by omega) (by omega) (fJ_up _ _ _) rfl dX4_back_197 (fun H locs hw => ?_)
                        refine lv_iinc (v := (nI (e3 + 1))) (lv' := [(3, .int (nI (e3 + 1))), (0, .ref x), (2, .int (nI 0))]) hx hb dX4_back_198 hl (k := 2) rfl (x_inc1 _) (by decide) rfl (fun ls hl => ?_)
                        refine lv_goto (tgt := 135) hx hb dX4_back_201 (by decide) ?_
                        exact ih_135 (e3 + 1) (by omega) (by omega) _ _ _ (hw.cast (by have h9 := cpN_succ (fun j => gi (24 + 3 * j)) gw e3; rw [h9]; have h8 := cpN_succ (fun j => gi (25 + 3 * j)) go e3; rw [h8]; have h7 := cpN_succ (fun j => gi (26 + 3 * j)) gh e3; rw [h7])) (lv_sub hl [1, 2, 0] rfl)
                  exact loop_135 (23 - 0 + 1) 0 (by omega) (Nat.lt_succ_self _) _ _ _ hw (lv_sub hl [1, 2, 0] rfl)
                · refine lv_aload_n hx hb dX4_back_109 rfl (lv_at hl 0 rfl) ?_
                  refine x_get E hw (C := RX4) (T := TX4) (N := 23) hinX4 0 rfl rfl 13 (by decide) rfl (List.mem_of_getElem? (i := 6) rfl) dX4_back_110 ?_
                  refine lv_iload_n hx hb dX4_back_113 rfl (lv_at hl 2 rfl) ?_
                  refine lv_aload_n hx hb dX4_back_114 rfl (lv_at hl 0 rfl) ?_
                  refine x_get E hw (C := RX4) (T := TX4) (N := 23) hinX4 0 rfl rfl 14 (by decide) rfl (List.mem_of_getElem? (i := 1) rfl) dX4_back_115 ?_
                  refine lv_iload_n hx hb dX4_back_118 rfl (lv_at hl 1 rfl) ?_
                  refine lv_bipush (v := (nI 16)) hx hb dX4_back_119 (by decide) ?_
                  refine x_iadd E (v := (nI 16)) dX4_back_121 (nI_add _ _) ?_
                  refine lv_iload_n hx hb dX4_back_122 rfl (lv_at hl 2 rfl) ?_
                  refine x_iadd E (v := (nI (16 + e2))) dX4_back_123 (nI_add _ _) ?_
                  refine x_lald E hw 6 (a := xi) (v := (lN (gi (16 + e2)))) rfl rfl (show 16 + e2 < 200 by omega) (by omega) rfl dX4_back_124 ?_
                  refine lv_l2i (v := (nI (gi (16 + e2)))) hx hb dX4_back_125 (lN_i _) ?_
                  refine x_iast E hw 2 (a := xs) (ws1 := [(x, .inr (4, [.ref xt, .int (nI nb), .int (nI pa), .int (nI pt), .int (nI off), .int (nI ha), .int (nI (gi 1)), .ref xw, .ref xo, .ref xh, .int (nI (gi 2)), .ref xr, .int (nI (gi 3)), .ref xs, .ref xi, .long tr, .int u1, .int u2, .int u3, .long u4, .ref xd, .int u5, .ref xf])), (xr, .inl (cI G, 12, .inl (fI (cpN (fun j => gi (4 + j)) gl 12)))), (xs, .inl (cI G, 8, .inl (fI (va_up (cpN (fun j => gi (16 + j)) gs e2) e2 (gi (16 + e2)))))), (xw, .inl (cJ G, 23, .inr (.inl (fJ (cpN (fun j => gi (24 + 3 * j)) gw 0))))), (xo, .inl (cJ G, 23, .inr (.inl (fJ (cpN (fun j => gi (25 + 3 * j)) go 0))))), (xh, .inl (cJ G, 23, .inr (.inl (fJ (cpN (fun j => gi (26 + 3 * j)) gh 0))))), (xi, .inl (cJ G, 200, .inr (.inl (fJ gi))))]) rfl rfl (show e2 < 8 by omega) (by omega) (fI_up _ _ _) rfl dX4_back_126 (fun H locs hw => ?_)
                  refine lv_iinc (v := (nI (e2 + 1))) (lv' := [(3, .int (nI (e2 + 1))), (0, .ref x), (2, .int (nI 0))]) hx hb dX4_back_127 hl (k := 2) rfl (x_inc1 _) (by decide) rfl (fun ls hl => ?_)
                  refine lv_goto (tgt := 103) hx hb dX4_back_130 (by decide) ?_
                  exact ih_103 (e2 + 1) (by omega) (by omega) _ _ _ (hw.cast (by have h9 := cpN_succ (fun j => gi (16 + j)) gs e2; rw [h9])) (lv_sub hl [1, 2, 0] rfl)
            exact loop_103 (8 - 0 + 1) 0 (by omega) (Nat.lt_succ_self _) _ _ _ hw (lv_sub hl [1, 2, 0] rfl)
          · refine lv_aload_n hx hb dX4_back_78 rfl (lv_at hl 0 rfl) ?_
            refine x_get E hw (C := RX4) (T := TX4) (N := 23) hinX4 0 rfl rfl 11 (by decide) rfl (List.mem_of_getElem? (i := 5) rfl) dX4_back_79 ?_
            refine lv_iload_n hx hb dX4_back_82 rfl (lv_at hl 2 rfl) ?_
            refine lv_aload_n hx hb dX4_back_83 rfl (lv_at hl 0 rfl) ?_
            refine x_get E hw (C := RX4) (T := TX4) (N := 23) hinX4 0 rfl rfl 14 (by decide) rfl (List.mem_of_getElem? (i := 1) rfl) dX4_back_84 ?_
            refine lv_iload_n hx hb dX4_back_87 rfl (lv_at hl 1 rfl) ?_
            refine lv_iconst (v := (nI 4)) hx hb dX4_back_88 (by decide) ?_
            refine x_iadd E (v := (nI 4)) dX4_back_89 (nI_add _ _) ?_
            refine lv_iload_n hx hb dX4_back_90 rfl (lv_at hl 2 rfl) ?_
            refine x_iadd E (v := (nI (4 + e1))) dX4_back_91 (nI_add _ _) ?_
            refine x_lald E hw 6 (a := xi) (v := (lN (gi (4 + e1)))) rfl rfl (show 4 + e1 < 200 by omega) (by omega) rfl dX4_back_92 ?_
            refine lv_l2i (v := (nI (gi (4 + e1)))) hx hb dX4_back_93 (lN_i _) ?_
            refine x_iast E hw 1 (a := xr) (ws1 := [(x, .inr (4, [.ref xt, .int (nI nb), .int (nI pa), .int (nI pt), .int (nI off), .int (nI ha), .int (nI (gi 1)), .ref xw, .ref xo, .ref xh, .int (nI (gi 2)), .ref xr, .int (nI (gi 3)), .ref xs, .ref xi, .long tr, .int u1, .int u2, .int u3, .long u4, .ref xd, .int u5, .ref xf])), (xr, .inl (cI G, 12, .inl (fI (va_up (cpN (fun j => gi (4 + j)) gl e1) e1 (gi (4 + e1)))))), (xs, .inl (cI G, 8, .inl (fI (cpN (fun j => gi (16 + j)) gs 0)))), (xw, .inl (cJ G, 23, .inr (.inl (fJ (cpN (fun j => gi (24 + 3 * j)) gw 0))))), (xo, .inl (cJ G, 23, .inr (.inl (fJ (cpN (fun j => gi (25 + 3 * j)) go 0))))), (xh, .inl (cJ G, 23, .inr (.inl (fJ (cpN (fun j => gi (26 + 3 * j)) gh 0))))), (xi, .inl (cJ G, 200, .inr (.inl (fJ gi))))]) rfl rfl (show e1 < 12 by omega) (by omega) (fI_up _ _ _) rfl dX4_back_94 (fun H locs hw => ?_)
            refine lv_iinc (v := (nI (e1 + 1))) (lv' := [(3, .int (nI (e1 + 1))), (0, .ref x), (2, .int (nI 0))]) hx hb dX4_back_95 hl (k := 2) rfl (x_inc1 _) (by decide) rfl (fun ls hl => ?_)
            refine lv_goto (tgt := 72) hx hb dX4_back_98 (by decide) ?_
            exact ih_72 (e1 + 1) (by omega) (by omega) _ _ _ (hw.cast (by have h9 := cpN_succ (fun j => gi (4 + j)) gl e1; rw [h9])) (lv_sub hl [1, 2, 0] rfl)
      exact loop_72 (12 - 0 + 1) 0 (by omega) (Nat.lt_succ_self _) _ _ _ (hw.cast (by simp only [cpN_0])) (lv_sub hl [2, 1, 0] rfl)
    · exact absurd c_2 (by decide)
  · exfalso; omega

abbrev rm_X4_keep_1 : Room := { frames := 1, cells := 0, slots := 0, locals := 25 }
set_option maxHeartbeats 4000000 in
set_option maxRecDepth 100000 in
theorem c_X4_keep_1 (l : Launch) (G : XG) (x : Nat) (xt : Nat) (xw : Nat) (xo : Nat) (xh : Nat) (xr : Nat) (xs : Nat) (xi : Nat) (xd : Nat) (xf : Nat) (nb : Nat) (pa : Nat) (pt : Nat) (off : Nat) (ha : Nat) (n : Nat) (nl : Nat) (ns : Nat) (tr : Int64) (u1 : Int32) (u2 : Int32) (u3 : Int32) (u4 : Int64) (u5 : Int32) (gl : Nat → Nat) (gs : Nat → Nat) (gw : Nat → Nat) (go : Nat → Nat) (gh : Nat → Nat) (gi : Nat → Nat) (hn : n ≤ 23) (hn3 : 3 ≤ n) (hnl : nl ≤ 12) (hns : ns ≤ 8) (hgl : ∀ q, gl q ≤ 1) (hgs : ∀ q, gs q < 63) : CfI l yX4_keep wsX4_keep rm_X4_keep_1 G [.ref x, .int (nI 1)] [(x, .inr (4, [.ref xt, .int (nI nb), .int (nI pa), .int (nI pt), .int (nI off), .int (nI ha), .int (nI n), .ref xw, .ref xo, .ref xh, .int (nI nl), .ref xr, .int (nI ns), .ref xs, .ref xi, .long tr, .int u1, .int u2, .int u3, .long u4, .ref xd, .int u5, .ref xf])), (xr, .inl (cI G, 12, .inl (fI gl))), (xs, .inl (cI G, 8, .inl (fI gs))), (xw, .inl (cJ G, 23, .inr (.inl (fJ gw)))), (xo, .inl (cJ G, 23, .inr (.inl (fJ go)))), (xh, .inl (cJ G, 23, .inr (.inl (fJ gh)))), (xi, .inl (cJ G, 200, .inr (.inl (fJ gi))))] (nI n) [(x, .inr (4, [.ref xt, .int (nI nb), .int (nI pa), .int (nI pt), .int (nI off), .int (nI ha), .int (nI n), .ref xw, .ref xo, .ref xh, .int (nI nl), .ref xr, .int (nI ns), .ref xs, .ref xi, .long tr, .int u1, .int u2, .int u3, .long u4, .ref xd, .int u5, .ref xf])), (xr, .inl (cI G, 12, .inl (fI gl))), (xs, .inl (cI G, 8, .inl (fI gs))), (xw, .inl (cJ G, 23, .inr (.inl (fJ gw)))), (xo, .inl (cJ G, 23, .inr (.inl (fJ go)))), (xh, .inl (cJ G, 23, .inr (.inl (fJ gh)))), (xi, .inl (cJ G, 200, .inr (.inl (fJ (keepF gi 100 n nl ns gl gs gw go gh)))))] := by
  refine CtI.go (cc := cX4_keep) (maxL := 4) RX4 rfl (by decide) rfl (Nat.le_of_ble_eq_true rfl) ?_
  intro p e s m args below meth c A Q ls E hw hl hret
  have hx := E.1
  have hb := E.2.1
  have hinX4 : ∀ w ∈ wsX40, w ∈ wsX4_keep := (fun w h => List.mem_cons_of_mem _ (List.mem_append_right _ h))
  have hl : lv_has ls 4 [(0, .ref x), (1, .int (nI 1))] := hl
  refine lv_iload_n hx hb dX4_keep_0 rfl (lv_at hl 1 rfl) ?_
  refine lv_i2l (v := (lN 1)) hx hb dX4_keep_1 (nI_l (by omega)) ?_
  refine lv_lconst (v := (lN 0)) hx hb dX4_keep_2 (by decide) ?_
  refine lv_lconst (v := (lN 1)) hx hb dX4_keep_3 (by decide) ?_
  refine x_cfSi E hw hl.1 (As := [.long (lN 1), .long (lN 0), .long (lN 1)]) (rest := []) (c_X4_in l G (lN 1) (lN 0) (lN 1) (1 : Int) (0 : Int) (1 : Int) (lN_toI (by decide)) (lN_toI (by decide)) (lN_toI (by decide))) 3 gX4_keep_X4_in rfl rfl rfl (by decide) ⟨Nat.le_of_ble_eq_true rfl, Nat.le_of_ble_eq_true rfl⟩ ⟨Nat.le_of_ble_eq_true rfl, Nat.le_of_ble_eq_true rfl⟩ rfl [] [0, 1, 2, 3, 4, 5, 6] rfl rfl rfl rfl rfl [0, 1, 2, 3, 4, 5, 6] [(x, .inr (4, [.ref xt, .int (nI nb), .int (nI pa), .int (nI pt), .int (nI off), .int (nI ha), .int (nI n), .ref xw, .ref xo, .ref xh, .int (nI nl), .ref xr, .int (nI ns), .ref xs, .ref xi, .long tr, .int u1, .int u2, .int u3, .long u4, .ref xd, .int u5, .ref xf])), (xr, .inl (cI G, 12, .inl (fI gl))), (xs, .inl (cI G, 8, .inl (fI gs))), (xw, .inl (cJ G, 23, .inr (.inl (fJ gw)))), (xo, .inl (cJ G, 23, .inr (.inl (fJ go)))), (xh, .inl (cJ G, 23, .inr (.inl (fJ gh)))), (xi, .inl (cJ G, 200, .inr (.inl (fJ gi))))] rfl rfl rfl (Nat.le_of_ble_eq_true rfl) dX4_keep_4 (fun H locs hw => ?_)
  refine x_ifb_ne E (P := (0 : Int) ≤ (1 : Int) ∧ (1 : Int) ≤ (1 : Int)) (tgt := 12) dX4_keep_7 (by decide) (fun c_1 => ?_) (fun c_1 => ?_)
  · refine lv_bipush (v := (nI 100)) hx hb dX4_keep_12 (by decide) ?_
    refine lv_iload_n hx hb dX4_keep_14 rfl (lv_at hl 1 rfl) ?_
    refine x_imul E (v := (nI 100)) dX4_keep_15 (pk_mul _ _) ?_
    refine lv_istore_n (lv' := [(2, .int (nI 100)), (0, .ref x), (1, .int (nI 1))]) hx hb dX4_keep_16 rfl hl (by decide) rfl (fun ls hl => ?_)
    refine lv_aload_n hx hb dX4_keep_17 rfl (lv_at hl 1 rfl) ?_
    refine x_get E hw (C := RX4) (T := TX4) (N := 23) hinX4 0 rfl rfl 14 (by decide) rfl (List.mem_of_getElem? (i := 1) rfl) dX4_keep_18 ?_
    refine lv_iload_n hx hb dX4_keep_21 rfl (lv_at hl 0 rfl) ?_
    refine lv_lconst (v := (lN 1)) hx hb dX4_keep_22 (by decide) ?_
    refine x_last E hw 6 (a := xi) (ws1 := [(x, .inr (4, [.ref xt, .int (nI nb), .int (nI pa), .int (nI pt), .int (nI off), .int (nI ha), .int (nI n), .ref xw, .ref xo, .ref xh, .int (nI nl), .ref xr, .int (nI ns), .ref xs, .ref xi, .long tr, .int u1, .int u2, .int u3, .long u4, .ref xd, .int u5, .ref xf])), (xr, .inl (cI G, 12, .inl (fI gl))), (xs, .inl (cI G, 8, .inl (fI gs))), (xw, .inl (cJ G, 23, .inr (.inl (fJ gw)))), (xo, .inl (cJ G, 23, .inr (.inl (fJ go)))), (xh, .inl (cJ G, 23, .inr (.inl (fJ gh)))), (xi, .inl (cJ G, 200, .inr (.inl (fJ (va_up gi 100 1)))))]) rfl rfl (show 100 < 200 by omega) (by omega) (fJ_up _ _ _) rfl dX4_keep_23 (fun H locs hw => ?_)
    refine lv_aload_n hx hb dX4_keep_24 rfl (lv_at hl 1 rfl) ?_
    refine x_get E hw (C := RX4) (T := TX4) (N := 23) hinX4 0 rfl rfl 14 (by decide) rfl (List.mem_of_getElem? (i := 1) rfl) dX4_keep_25 ?_
    refine lv_iload_n hx hb dX4_keep_28 rfl (lv_at hl 0 rfl) ?_
    refine lv_iconst (v := (nI 1)) hx hb dX4_keep_29 (by decide) ?_
    refine x_iadd E (v := (nI 101)) dX4_keep_30 (nI_add _ _) ?_
    refine lv_aload_n hx hb dX4_keep_31 rfl (lv_at hl 1 rfl) ?_
    refine x_get E hw (C := RX4) (T := TX4) (N := 23) hinX4 0 rfl rfl 6 (by decide) rfl (List.mem_of_getElem? (i := 2) rfl) dX4_keep_32 ?_
    refine lv_i2l (v := (lN n)) hx hb dX4_keep_35 (nI_l (by omega)) ?_
    refine x_last E hw 6 (a := xi) (ws1 := [(x, .inr (4, [.ref xt, .int (nI nb), .int (nI pa), .int (nI pt), .int (nI off), .int (nI ha), .int (nI n), .ref xw, .ref xo, .ref xh, .int (nI nl), .ref xr, .int (nI ns), .ref xs, .ref xi, .long tr, .int u1, .int u2, .int u3, .long u4, .ref xd, .int u5, .ref xf])), (xr, .inl (cI G, 12, .inl (fI gl))), (xs, .inl (cI G, 8, .inl (fI gs))), (xw, .inl (cJ G, 23, .inr (.inl (fJ gw)))), (xo, .inl (cJ G, 23, .inr (.inl (fJ go)))), (xh, .inl (cJ G, 23, .inr (.inl (fJ gh)))), (xi, .inl (cJ G, 200, .inr (.inl (fJ (va_up (va_up gi 100 1) 101 n)))))]) rfl rfl (show 101 < 200 by omega) (by omega) (fJ_up _ _ _) rfl dX4_keep_36 (fun H locs hw => ?_)
    refine lv_aload_n hx hb dX4_keep_37 rfl (lv_at hl 1 rfl) ?_
    refine x_get E hw (C := RX4) (T := TX4) (N := 23) hinX4 0 rfl rfl 14 (by decide) rfl (List.mem_of_getElem? (i := 1) rfl) dX4_keep_38 ?_
    refine lv_iload_n hx hb dX4_keep_41 rfl (lv_at hl 0 rfl) ?_
    refine lv_iconst (v := (nI 2)) hx hb dX4_keep_42 (by decide) ?_
    refine x_iadd E (v := (nI 102)) dX4_keep_43 (nI_add _ _) ?_
    refine lv_aload_n hx hb dX4_keep_44 rfl (lv_at hl 1 rfl) ?_
    refine x_get E hw (C := RX4) (T := TX4) (N := 23) hinX4 0 rfl rfl 10 (by decide) rfl (List.mem_of_getElem? (i := 3) rfl) dX4_keep_45 ?_
    refine lv_i2l (v := (lN nl)) hx hb dX4_keep_48 (nI_l (by omega)) ?_
    refine x_last E hw 6 (a := xi) (ws1 := [(x, .inr (4, [.ref xt, .int (nI nb), .int (nI pa), .int (nI pt), .int (nI off), .int (nI ha), .int (nI n), .ref xw, .ref xo, .ref xh, .int (nI nl), .ref xr, .int (nI ns), .ref xs, .ref xi, .long tr, .int u1, .int u2, .int u3, .long u4, .ref xd, .int u5, .ref xf])), (xr, .inl (cI G, 12, .inl (fI gl))), (xs, .inl (cI G, 8, .inl (fI gs))), (xw, .inl (cJ G, 23, .inr (.inl (fJ gw)))), (xo, .inl (cJ G, 23, .inr (.inl (fJ go)))), (xh, .inl (cJ G, 23, .inr (.inl (fJ gh)))), (xi, .inl (cJ G, 200, .inr (.inl (fJ (va_up (va_up (va_up gi 100 1) 101 n) 102 nl)))))]) rfl rfl (show 102 < 200 by omega) (by omega) (fJ_up _ _ _) rfl dX4_keep_49 (fun H locs hw => ?_)
    refine lv_aload_n hx hb dX4_keep_50 rfl (lv_at hl 1 rfl) ?_
    refine x_get E hw (C := RX4) (T := TX4) (N := 23) hinX4 0 rfl rfl 14 (by decide) rfl (List.mem_of_getElem? (i := 1) rfl) dX4_keep_51 ?_
    refine lv_iload_n hx hb dX4_keep_54 rfl (lv_at hl 0 rfl) ?_
    refine lv_iconst (v := (nI 3)) hx hb dX4_keep_55 (by decide) ?_
    refine x_iadd E (v := (nI 103)) dX4_keep_56 (nI_add _ _) ?_
    refine lv_aload_n hx hb dX4_keep_57 rfl (lv_at hl 1 rfl) ?_
    refine x_get E hw (C := RX4) (T := TX4) (N := 23) hinX4 0 rfl rfl 12 (by decide) rfl (List.mem_of_getElem? (i := 4) rfl) dX4_keep_58 ?_
    refine lv_i2l (v := (lN ns)) hx hb dX4_keep_61 (nI_l (by omega)) ?_
    refine x_last E hw 6 (a := xi) (ws1 := [(x, .inr (4, [.ref xt, .int (nI nb), .int (nI pa), .int (nI pt), .int (nI off), .int (nI ha), .int (nI n), .ref xw, .ref xo, .ref xh, .int (nI nl), .ref xr, .int (nI ns), .ref xs, .ref xi, .long tr, .int u1, .int u2, .int u3, .long u4, .ref xd, .int u5, .ref xf])), (xr, .inl (cI G, 12, .inl (fI gl))), (xs, .inl (cI G, 8, .inl (fI gs))), (xw, .inl (cJ G, 23, .inr (.inl (fJ gw)))), (xo, .inl (cJ G, 23, .inr (.inl (fJ go)))), (xh, .inl (cJ G, 23, .inr (.inl (fJ gh)))), (xi, .inl (cJ G, 200, .inr (.inl (fJ (va_up (va_up (va_up (va_up gi 100 1) 101 n) 102 nl) 103 ns)))))]) rfl rfl (show 103 < 200 by omega) (by omega) (fJ_up _ _ _) rfl dX4_keep_62 (fun H locs hw => ?_)
    refine lv_iconst (v := (nI 0)) hx hb dX4_keep_63 (by decide) ?_
    refine lv_istore_n (lv' := [(3, .int (nI 0)), (2, .int (nI 100)), (0, .ref x), (1, .int (nI 1))]) hx hb dX4_keep_64 rfl hl (by decide) rfl (fun ls hl => ?_)
    have loop_65 : ∀ (fu : Nat) (e1 : Nat), e1 ≤ 12 → 12 - e1 < fu → ∀ (H : Heap) (locs : List Loc) (ls : Array Slot), Wd G s A [(x, .inr (4, [.ref xt, .int (nI nb), .int (nI pa), .int (nI pt), .int (nI off), .int (nI ha), .int (nI n), .ref xw, .ref xo, .ref xh, .int (nI nl), .ref xr, .int (nI ns), .ref xs, .ref xi, .long tr, .int u1, .int u2, .int u3, .long u4, .ref xd, .int u5, .ref xf])), (xr, .inl (cI G, 12, .inl (fI gl))), (xs, .inl (cI G, 8, .inl (fI gs))), (xw, .inl (cJ G, 23, .inr (.inl (fJ gw)))), (xo, .inl (cJ G, 23, .inr (.inl (fJ go)))), (xh, .inl (cJ G, 23, .inr (.inl (fJ gh)))), (xi, .inl (cJ G, 200, .inr (.inl (fJ (kpR (kpA gi 100 n nl ns) gl 100 e1)))))] H locs → lv_has ls 4 [(0, .ref x), (1, .int (nI 1)), (2, .int (nI 100)), (3, .int (nI e1))] → W p l e rm_X4_keep_1 s m args below meth c H locs 0 0 Q (F0 m 65 ls []) := by
      intro fu
      induction fu with
      | zero =>
        intro e1 he1 hmu
        exact absurd hmu (Nat.not_lt_zero _)
      | succ fu ih_65 =>
        intro e1 he1 hmu_65 H locs ls hw hl
        refine lv_iload_n hx hb dX4_keep_65 rfl (lv_at hl 3 rfl) ?_
        refine lv_bipush (v := (nI 12)) hx hb dX4_keep_66 (by decide) ?_
        refine x_icmp_ge E (nI_toI (show e1 < 2147483648 by omega)) (nI_toI (by decide)) (tgt := 94) dX4_keep_68 (by decide) (fun c_2 => ?_) (fun c_2 => ?_)
        · obtain rfl : e1 = 12 := by omega
          refine lv_iconst (v := (nI 0)) hx hb dX4_keep_94 (by decide) ?_
          refine lv_istore_n (lv' := [(3, .int (nI 0)), (0, .ref x), (1, .int (nI 1)), (2, .int (nI 100))]) hx hb dX4_keep_95 rfl hl (by decide) rfl (fun ls hl => ?_)
          have loop_96 : ∀ (fu : Nat) (e2 : Nat), e2 ≤ 8 → 8 - e2 < fu → ∀ (H : Heap) (locs : List Loc) (ls : Array Slot), Wd G s A [(x, .inr (4, [.ref xt, .int (nI nb), .int (nI pa), .int (nI pt), .int (nI off), .int (nI ha), .int (nI n), .ref xw, .ref xo, .ref xh, .int (nI nl), .ref xr, .int (nI ns), .ref xs, .ref xi, .long tr, .int u1, .int u2, .int u3, .long u4, .ref xd, .int u5, .ref xf])), (xr, .inl (cI G, 12, .inl (fI gl))), (xs, .inl (cI G, 8, .inl (fI gs))), (xw, .inl (cJ G, 23, .inr (.inl (fJ gw)))), (xo, .inl (cJ G, 23, .inr (.inl (fJ go)))), (xh, .inl (cJ G, 23, .inr (.inl (fJ gh)))), (xi, .inl (cJ G, 200, .inr (.inl (fJ (kpS (kpR (kpA gi 100 n nl ns) gl 100 12) gs 100 e2)))))] H locs → lv_has ls 4 [(0, .ref x), (1, .int (nI 1)), (2, .int (nI 100)), (3, .int (nI e2))] → W p l e rm_X4_keep_1 s m args below meth c H locs 0 0 Q (F0 m 96 ls []) := by
            intro fu
            induction fu with
            | zero =>
              intro e2 he2 hmu
              exact absurd hmu (Nat.not_lt_zero _)
            | succ fu ih_96 =>
              intro e2 he2 hmu_96 H locs ls hw hl
              refine lv_iload_n hx hb dX4_keep_96 rfl (lv_at hl 3 rfl) ?_
              refine lv_bipush (v := (nI 8)) hx hb dX4_keep_97 (by decide) ?_
              refine x_icmp_ge E (nI_toI (show e2 < 2147483648 by omega)) (nI_toI (by decide)) (tgt := 126) dX4_keep_99 (by decide) (fun c_3 => ?_) (fun c_3 => ?_)
              · obtain rfl : e2 = 8 := by omega
                refine lv_iconst (v := (nI 0)) hx hb dX4_keep_126 (by decide) ?_
                refine lv_istore_n (lv' := [(3, .int (nI 0)), (0, .ref x), (1, .int (nI 1)), (2, .int (nI 100))]) hx hb dX4_keep_127 rfl hl (by decide) rfl (fun ls hl => ?_)
                have loop_128 : ∀ (fu : Nat) (e3 : Nat), e3 ≤ 23 → 23 - e3 < fu → ∀ (H : Heap) (locs : List Loc) (ls : Array Slot), Wd G s A [(x, .inr (4, [.ref xt, .int (nI nb), .int (nI pa), .int (nI pt), .int (nI off), .int (nI ha), .int (nI n), .ref xw, .ref xo, .ref xh, .int (nI nl), .ref xr, .int (nI ns), .ref xs, .ref xi, .long tr, .int u1, .int u2, .int u3, .long u4, .ref xd, .int u5, .ref xf])), (xr, .inl (cI G, 12, .inl (fI gl))), (xs, .inl (cI G, 8, .inl (fI gs))), (xw, .inl (cJ G, 23, .inr (.inl (fJ gw)))), (xo, .inl (cJ G, 23, .inr (.inl (fJ go)))), (xh, .inl (cJ G, 23, .inr (.inl (fJ gh)))), (xi, .inl (cJ G, 200, .inr (.inl (fJ (kpC (kpS (kpR (kpA gi 100 n nl ns) gl 100 12) gs 100 8) gw go gh 100 e3)))))] H locs → lv_has ls 4 [(0, .ref x), (1, .int (nI 1)), (2, .int (nI 100)), (3, .int (nI e3))] → W p l e rm_X4_keep_1 s m args below meth c H locs 0 0 Q (F0 m 128 ls []) := by
                  intro fu
                  induction fu with
                  | zero =>
                    intro e3 he3 hmu
                    exact absurd hmu (Nat.not_lt_zero _)
                  | succ fu ih_128 =>
                    intro e3 he3 hmu_128 H locs ls hw hl
                    refine lv_iload_n hx hb dX4_keep_128 rfl (lv_at hl 3 rfl) ?_
                    refine lv_bipush (v := (nI 23)) hx hb dX4_keep_129 (by decide) ?_
                    refine x_icmp_ge E (nI_toI (show e3 < 2147483648 by omega)) (nI_toI (by decide)) (tgt := 197) dX4_keep_131 (by decide) (fun c_4 => ?_) (fun c_4 => ?_)
                    · obtain rfl : e3 = 23 := by omega
                      refine lv_aload_n hx hb dX4_keep_197 rfl (lv_at hl 0 rfl) ?_
                      refine x_get E hw (C := RX4) (T := TX4) (N := 23) hinX4 0 rfl rfl 6 (by decide) rfl (List.mem_of_getElem? (i := 2) rfl) dX4_keep_198 ?_
                      exact hret (nI n) () _ _ _ _ dX4_keep_201 rfl rfl hw
                    · refine lv_aload_n hx hb dX4_keep_134 rfl (lv_at hl 0 rfl) ?_
                      refine x_get E hw (C := RX4) (T := TX4) (N := 23) hinX4 0 rfl rfl 14 (by decide) rfl (List.mem_of_getElem? (i := 1) rfl) dX4_keep_135 ?_
                      refine lv_iload_n hx hb dX4_keep_138 rfl (lv_at hl 2 rfl) ?_
                      refine lv_bipush (v := (nI 24)) hx hb dX4_keep_139 (by decide) ?_
                      refine x_iadd E (v := (nI 124)) dX4_keep_141 (nI_add _ _) ?_
                      refine lv_iconst (v := (nI 3)) hx hb dX4_keep_142 (by decide) ?_
                      refine lv_iload_n hx hb dX4_keep_143 rfl (lv_at hl 3 rfl) ?_
                      refine x_imul E (v := (nI (3 * e3))) dX4_keep_144 (pk_mul _ _) ?_
                      refine x_iadd E (v := (nI (124 + (3 * e3)))) dX4_keep_145 (nI_add _ _) ?_
                      refine lv_aload_n hx hb dX4_keep_146 rfl (lv_at hl 0 rfl) ?_
                      refine x_get E hw (C := RX4) (T := TX4) (N := 23) hinX4 0 rfl rfl 7 (by decide) rfl (List.mem_of_getElem? (i := 7) rfl) dX4_keep_147 ?_
                      refine lv_iload_n hx hb dX4_keep_150 rfl (lv_at hl 3 rfl) ?_
                      refine x_lald E hw 3 (a := xw) (v := (lN (gw e3))) rfl rfl (show e3 < 23 by omega) (by omega) rfl dX4_keep_151 ?_
                      refine x_last E hw 6 (a := xi) (ws1 := [(x, .inr (4, [.ref xt, .int (nI nb), .int (nI pa), .int (nI pt), .int (nI off), .int (nI ha), .int (nI n), .ref xw, .ref xo, .ref xh, .int (nI nl), .ref xr, .int (nI ns), .ref xs, .ref xi, .long tr, .int u1, .int u2, .int u3, .long u4, .ref xd, .int u5, .ref xf])), (xr, .inl (cI G, 12, .inl (fI gl))), (xs, .inl (cI G, 8, .inl (fI gs))), (xw, .inl (cJ G, 23, .inr (.inl (fJ gw)))), (xo, .inl (cJ G, 23, .inr (.inl (fJ go)))), (xh, .inl (cJ G, 23, .inr (.inl (fJ gh)))), (xi, .inl (cJ G, 200, .inr (.inl (fJ (va_up (kpC (kpS (kpR (kpA gi 100 n nl ns) gl 100 12) gs 100 8) gw go gh 100 e3) (124 + (3 * e3)) (gw e3))))))]) rfl rfl (show 124 + (3 * e3) < 200 by omega) (by omega) (fJ_up _ _ _) rfl dX4_keep_152 (fun H locs hw => ?_)
                      refine lv_aload_n hx hb dX4_keep_153 rfl (lv_at hl 0 rfl) ?_
                      refine x_get E hw (C := RX4) (T := TX4) (N := 23) hinX4 0 rfl rfl 14 (by decide) rfl (List.mem_of_getElem? (i := 1) rfl) dX4_keep_154 ?_
                      refine lv_iload_n hx hb dX4_keep_157 rfl (lv_at hl 2 rfl) ?_
                      refine lv_bipush (v := (nI 25)) hx hb dX4_keep_158 (by decide) ?_
                      refine x_iadd E (v := (nI 125)) dX4_keep_160 (nI_add _ _) ?_
                      refine lv_iconst (v := (nI 3)) hx hb dX4_keep_161 (by decide) ?_
                      refine lv_iload_n hx hb dX4_keep_162 rfl (lv_at hl 3 rfl) ?_
                      refine x_imul E (v := (nI (3 * e3))) dX4_keep_163 (pk_mul _ _) ?_
                      refine x_iadd E (v := (nI (125 + (3 * e3)))) dX4_keep_164 (nI_add _ _) ?_
                      refine lv_aload_n hx hb dX4_keep_165 rfl (lv_at hl 0 rfl) ?_
                      refine x_get E hw (C := RX4) (T := TX4) (N := 23) hinX4 0 rfl rfl 8 (by decide) rfl (List.mem_of_getElem? (i := 8) rfl) dX4_keep_166 ?_
                      refine lv_iload_n hx hb dX4_keep_169 rfl (lv_at hl 3 rfl) ?_
                      refine x_lald E hw 4 (a := xo) (v := (lN (go e3))) rfl rfl (show e3 < 23 by omega) (by omega) rfl dX4_keep_170 ?_
                      refine x_last E hw 6 (a := xi) (ws1 := [(x, .inr (4, [.ref xt, .int (nI nb), .int (nI pa), .int (nI pt), .int (nI off), .int (nI ha), .int (nI n), .ref xw, .ref xo, .ref xh, .int (nI nl), .ref xr, .int (nI ns), .ref xs, .ref xi, .long tr, .int u1, .int u2, .int u3, .long u4, .ref xd, .int u5, .ref xf])), (xr, .inl (cI G, 12, .inl (fI gl))), (xs, .inl (cI G, 8, .inl (fI gs))), (xw, .inl (cJ G, 23, .inr (.inl (fJ gw)))), (xo, .inl (cJ G, 23, .inr (.inl (fJ go)))), (xh, .inl (cJ G, 23, .inr (.inl (fJ gh)))), (xi, .inl (cJ G, 200, .inr (.inl (fJ (va_up (va_up (kpC (kpS (kpR (kpA gi 100 n nl ns) gl 100 12) gs 100 8) gw go gh 100 e3) (124 + (3 * e3)) (gw e3)) (125 + (3 * e3)) (go e3))))))]) rfl rfl (show 125 + (3 * e3) < 200 by omega) (by omega) (fJ_up _ _ _) rfl dX4_keep_171 (fun H locs hw => ?_)
                      refine lv_aload_n hx hb dX4_keep_172 rfl (lv_at hl 0 rfl) ?_
                      refine x_get E hw (C := RX4) (T := TX4) (N := 23) hinX4 0 rfl rfl 14 (by decide) rfl (List.mem_of_getElem? (i := 1) rfl) dX4_keep_173 ?_
                      refine lv_iload_n hx hb dX4_keep_176 rfl (lv_at hl 2 rfl) ?_
                      refine lv_bipush (v := (nI 26)) hx hb dX4_keep_177 (by decide) ?_
                      refine x_iadd E (v := (nI 126)) dX4_keep_179 (nI_add _ _) ?_
                      refine lv_iconst (v := (nI 3)) hx hb dX4_keep_180 (by decide) ?_
                      refine lv_iload_n hx hb dX4_keep_181 rfl (lv_at hl 3 rfl) ?_
                      refine x_imul E (v := (nI (3 * e3))) dX4_keep_182 (pk_mul _ _) ?_
                      refine x_iadd E (v := (nI (126 + (3 * e3)))) dX4_keep_183 (nI_add _ _) ?_
                      refine lv_aload_n hx hb dX4_keep_184 rfl (lv_at hl 0 rfl) ?_
                      refine x_get E hw (C := RX4) (T := TX4) (N := 23) hinX4 0 rfl rfl 9 (by decide) rfl (List.mem_of_getElem? (i := 9) rfl) dX4_keep_185 ?_
                      refine lv_iload_n hx hb dX4_keep_188 rfl (lv_at hl 3 rfl) ?_
                      refine x_lald E hw 5 (a := xh) (v := (lN (gh e3))) rfl rfl (show e3 < 23 by omega) (by omega) rfl dX4_keep_189 ?_
                      refine x_last E hw 6 (a := xi) (ws1 := [(x, .inr (4, [.ref xt, .int (nI nb), .int (nI pa), .int (nI pt), .int (nI off), .int (nI ha), .int (nI n), .ref xw, .ref xo, .ref xh, .int (nI nl), .ref xr, .int (nI ns), .ref xs, .ref xi, .long tr, .int u1, .int u2, .int u3, .long u4, .ref xd, .int u5, .ref xf])), (xr, .inl (cI G, 12, .inl (fI gl))), (xs, .inl (cI G, 8, .inl (fI gs))), (xw, .inl (cJ G, 23, .inr (.inl (fJ gw)))), (xo, .inl (cJ G, 23, .inr (.inl (fJ go)))), (xh, .inl (cJ G, 23, .inr (.inl (fJ gh)))), (xi, .inl (cJ G, 200, .inr (.inl (fJ (va_up (va_up (va_up (kpC (kpS (kpR (kpA gi 100 n nl ns) gl 100 12) gs 100 8) gw go gh 100 e3) (124 + (3 * e3)) (gw e3)) (125 + (3 * e3)) (go e3)) (126 + (3 * e3)) (gh e3))))))]) rfl rfl (show 126 + (3 * e3) < 200 by omega) (by omega) (fJ_up _ _ _) rfl dX4_keep_190 (fun H locs hw => ?_)
                      refine lv_iinc (v := (nI (e3 + 1))) (lv' := [(3, .int (nI (e3 + 1))), (0, .ref x), (1, .int (nI 1)), (2, .int (nI 100))]) hx hb dX4_keep_191 hl (k := 3) rfl (x_inc1 _) (by decide) rfl (fun ls hl => ?_)
                      refine lv_goto (tgt := 128) hx hb dX4_keep_194 (by decide) ?_
                      exact ih_128 (e3 + 1) (by omega) (by omega) _ _ _ hw (lv_sub hl [1, 2, 3, 0] rfl)
                exact loop_128 (23 - 0 + 1) 0 (by omega) (Nat.lt_succ_self _) _ _ _ hw (lv_sub hl [1, 2, 3, 0] rfl)
              · have hgse := hgs e2
                refine lv_aload_n hx hb dX4_keep_102 rfl (lv_at hl 0 rfl) ?_
                refine x_get E hw (C := RX4) (T := TX4) (N := 23) hinX4 0 rfl rfl 14 (by decide) rfl (List.mem_of_getElem? (i := 1) rfl) dX4_keep_103 ?_
                refine lv_iload_n hx hb dX4_keep_106 rfl (lv_at hl 2 rfl) ?_
                refine lv_bipush (v := (nI 16)) hx hb dX4_keep_107 (by decide) ?_
                refine x_iadd E (v := (nI 116)) dX4_keep_109 (nI_add _ _) ?_
                refine lv_iload_n hx hb dX4_keep_110 rfl (lv_at hl 3 rfl) ?_
                refine x_iadd E (v := (nI (116 + e2))) dX4_keep_111 (nI_add _ _) ?_
                refine lv_aload_n hx hb dX4_keep_112 rfl (lv_at hl 0 rfl) ?_
                refine x_get E hw (C := RX4) (T := TX4) (N := 23) hinX4 0 rfl rfl 13 (by decide) rfl (List.mem_of_getElem? (i := 6) rfl) dX4_keep_113 ?_
                refine lv_iload_n hx hb dX4_keep_116 rfl (lv_at hl 3 rfl) ?_
                refine x_iald E hw 2 (a := xs) (v := (nI (gs e2))) rfl rfl (show e2 < 8 by omega) (by omega) rfl dX4_keep_117 ?_
                refine lv_i2l (v := (lN (gs e2))) hx hb dX4_keep_118 (nI_l (by omega)) ?_
                refine x_last E hw 6 (a := xi) (ws1 := [(x, .inr (4, [.ref xt, .int (nI nb), .int (nI pa), .int (nI pt), .int (nI off), .int (nI ha), .int (nI n), .ref xw, .ref xo, .ref xh, .int (nI nl), .ref xr, .int (nI ns), .ref xs, .ref xi, .long tr, .int u1, .int u2, .int u3, .long u4, .ref xd, .int u5, .ref xf])), (xr, .inl (cI G, 12, .inl (fI gl))), (xs, .inl (cI G, 8, .inl (fI gs))), (xw, .inl (cJ G, 23, .inr (.inl (fJ gw)))), (xo, .inl (cJ G, 23, .inr (.inl (fJ go)))), (xh, .inl (cJ G, 23, .inr (.inl (fJ gh)))), (xi, .inl (cJ G, 200, .inr (.inl (fJ (va_up (kpS (kpR (kpA gi 100 n nl ns) gl 100 12) gs 100 e2) (116 + e2) (gs e2))))))]) rfl rfl (show 116 + e2 < 200 by omega) (by omega) (fJ_up _ _ _) rfl dX4_keep_119 (fun H locs hw => ?_)
                refine lv_iinc (v := (nI (e2 + 1))) (lv' := [(3, .int (nI (e2 + 1))), (0, .ref x), (1, .int (nI 1)), (2, .int (nI 100))]) hx hb dX4_keep_120 hl (k := 3) rfl (x_inc1 _) (by decide) rfl (fun ls hl => ?_)
                refine lv_goto (tgt := 96) hx hb dX4_keep_123 (by decide) ?_
                exact ih_96 (e2 + 1) (by omega) (by omega) _ _ _ hw (lv_sub hl [1, 2, 3, 0] rfl)
          exact loop_96 (8 - 0 + 1) 0 (by omega) (Nat.lt_succ_self _) _ _ _ hw (lv_sub hl [1, 2, 3, 0] rfl)
        · have hgle := hgl e1
          refine lv_aload_n hx hb dX4_keep_71 rfl (lv_at hl 0 rfl) ?_
          refine x_get E hw (C := RX4) (T := TX4) (N := 23) hinX4 0 rfl rfl 14 (by decide) rfl (List.mem_of_getElem? (i := 1) rfl) dX4_keep_72 ?_
          refine lv_iload_n hx hb dX4_keep_75 rfl (lv_at hl 2 rfl) ?_
          refine lv_iconst (v := (nI 4)) hx hb dX4_keep_76 (by decide) ?_
          refine x_iadd E (v := (nI 104)) dX4_keep_77 (nI_add _ _) ?_
          refine lv_iload_n hx hb dX4_keep_78 rfl (lv_at hl 3 rfl) ?_
          refine x_iadd E (v := (nI (104 + e1))) dX4_keep_79 (nI_add _ _) ?_
          refine lv_aload_n hx hb dX4_keep_80 rfl (lv_at hl 0 rfl) ?_
          refine x_get E hw (C := RX4) (T := TX4) (N := 23) hinX4 0 rfl rfl 11 (by decide) rfl (List.mem_of_getElem? (i := 5) rfl) dX4_keep_81 ?_
          refine lv_iload_n hx hb dX4_keep_84 rfl (lv_at hl 3 rfl) ?_
          refine x_iald E hw 1 (a := xr) (v := (nI (gl e1))) rfl rfl (show e1 < 12 by omega) (by omega) rfl dX4_keep_85 ?_
          refine lv_i2l (v := (lN (gl e1))) hx hb dX4_keep_86 (nI_l (by omega)) ?_
          refine x_last E hw 6 (a := xi) (ws1 := [(x, .inr (4, [.ref xt, .int (nI nb), .int (nI pa), .int (nI pt), .int (nI off), .int (nI ha), .int (nI n), .ref xw, .ref xo, .ref xh, .int (nI nl), .ref xr, .int (nI ns), .ref xs, .ref xi, .long tr, .int u1, .int u2, .int u3, .long u4, .ref xd, .int u5, .ref xf])), (xr, .inl (cI G, 12, .inl (fI gl))), (xs, .inl (cI G, 8, .inl (fI gs))), (xw, .inl (cJ G, 23, .inr (.inl (fJ gw)))), (xo, .inl (cJ G, 23, .inr (.inl (fJ go)))), (xh, .inl (cJ G, 23, .inr (.inl (fJ gh)))), (xi, .inl (cJ G, 200, .inr (.inl (fJ (va_up (kpR (kpA gi 100 n nl ns) gl 100 e1) (104 + e1) (gl e1))))))]) rfl rfl (show 104 + e1 < 200 by omega) (by omega) (fJ_up _ _ _) rfl dX4_keep_87 (fun H locs hw => ?_)
          refine lv_iinc (v := (nI (e1 + 1))) (lv' := [(3, .int (nI (e1 + 1))), (0, .ref x), (1, .int (nI 1)), (2, .int (nI 100))]) hx hb dX4_keep_88 hl (k := 3) rfl (x_inc1 _) (by decide) rfl (fun ls hl => ?_)
          refine lv_goto (tgt := 65) hx hb dX4_keep_91 (by decide) ?_
          exact ih_65 (e1 + 1) (by omega) (by omega) _ _ _ hw (lv_sub hl [1, 2, 3, 0] rfl)
    exact loop_65 (12 - 0 + 1) 0 (by omega) (Nat.lt_succ_self _) _ _ _ hw (lv_sub hl [2, 3, 1, 0] rfl)
  · exfalso; omega

abbrev rm_X4_back_state_1 : Room := { frames := 1, cells := 0, slots := 0, locals := 25 }
set_option maxHeartbeats 4000000 in
set_option maxRecDepth 100000 in
theorem c_X4_back_state_1 (l : Launch) (G : XG) (x : Nat) (xt : Nat) (xw : Nat) (xo : Nat) (xh : Nat) (xr : Nat) (xs : Nat) (xi : Nat) (xd : Nat) (xf : Nat) (nb : Nat) (pa : Nat) (pt : Nat) (off : Nat) (ha : Nat) (n : Nat) (nl : Nat) (ns : Nat) (tr : Int64) (u1 : Int32) (u2 : Int32) (u3 : Int32) (u4 : Int64) (u5 : Int32) (gi : Nat → Nat) (h0 : gi 100 = 0) : CfI l yX4_back wsX4_back rm_X4_back_state_1 G [.ref x, .int (nI 1)] [(x, .inr (4, [.ref xt, .int (nI nb), .int (nI pa), .int (nI pt), .int (nI off), .int (nI ha), .int (nI n), .ref xw, .ref xo, .ref xh, .int (nI nl), .ref xr, .int (nI ns), .ref xs, .ref xi, .long tr, .int u1, .int u2, .int u3, .long u4, .ref xd, .int u5, .ref xf])), (xi, .inl (cJ G, 200, .inr (.inl (fJ gi))))] (-2 : Int32) [(x, .inr (4, [.ref xt, .int (nI nb), .int (nI pa), .int (nI pt), .int (nI off), .int (nI ha), .int (nI n), .ref xw, .ref xo, .ref xh, .int (nI nl), .ref xr, .int (nI ns), .ref xs, .ref xi, .long tr, .int u1, .int u2, .int u3, .long u4, .ref xd, .int u5, .ref xf])), (xi, .inl (cJ G, 200, .inr (.inl (fJ gi))))] := by
  refine CtI.go (cc := cX4_back) (maxL := 4) RX4 rfl (by decide) rfl (Nat.le_of_ble_eq_true rfl) ?_
  intro p e s m args below meth c A Q ls E hw hl hret
  have hx := E.1
  have hb := E.2.1
  have hinX4 : ∀ w ∈ wsX40, w ∈ wsX4_back := (fun w h => List.mem_cons_of_mem _ (List.mem_append_right _ h))
  have hl : lv_has ls 4 [(0, .ref x), (1, .int (nI 1))] := hl
  refine lv_iload_n hx hb dX4_back_0 rfl (lv_at hl 1 rfl) ?_
  refine lv_i2l (v := (lN 1)) hx hb dX4_back_1 (nI_l (by omega)) ?_
  refine lv_lconst (v := (lN 0)) hx hb dX4_back_2 (by decide) ?_
  refine lv_lconst (v := (lN 1)) hx hb dX4_back_3 (by decide) ?_
  refine x_cfSi E hw hl.1 (As := [.long (lN 1), .long (lN 0), .long (lN 1)]) (rest := []) (c_X4_in l G (lN 1) (lN 0) (lN 1) (1 : Int) (0 : Int) (1 : Int) (lN_toI (by decide)) (lN_toI (by decide)) (lN_toI (by decide))) 3 gX4_back_X4_in rfl rfl rfl (by decide) ⟨Nat.le_of_ble_eq_true rfl, Nat.le_of_ble_eq_true rfl⟩ ⟨Nat.le_of_ble_eq_true rfl, Nat.le_of_ble_eq_true rfl⟩ rfl [] [0, 1] rfl rfl rfl rfl rfl [0, 1] [(x, .inr (4, [.ref xt, .int (nI nb), .int (nI pa), .int (nI pt), .int (nI off), .int (nI ha), .int (nI n), .ref xw, .ref xo, .ref xh, .int (nI nl), .ref xr, .int (nI ns), .ref xs, .ref xi, .long tr, .int u1, .int u2, .int u3, .long u4, .ref xd, .int u5, .ref xf])), (xi, .inl (cJ G, 200, .inr (.inl (fJ gi))))] rfl rfl rfl (Nat.le_of_ble_eq_true rfl) dX4_back_4 (fun H locs hw => ?_)
  refine x_ifb_ne E (P := (0 : Int) ≤ (1 : Int) ∧ (1 : Int) ≤ (1 : Int)) (tgt := 12) dX4_back_7 (by decide) (fun c_1 => ?_) (fun c_1 => ?_)
  · refine lv_bipush (v := (nI 100)) hx hb dX4_back_12 (by decide) ?_
    refine lv_iload_n hx hb dX4_back_14 rfl (lv_at hl 1 rfl) ?_
    refine x_imul E (v := (nI 100)) dX4_back_15 (pk_mul _ _) ?_
    refine lv_istore_n (lv' := [(2, .int (nI 100)), (0, .ref x), (1, .int (nI 1))]) hx hb dX4_back_16 rfl hl (by decide) rfl (fun ls hl => ?_)
    refine lv_aload_n hx hb dX4_back_17 rfl (lv_at hl 1 rfl) ?_
    refine x_get E hw (C := RX4) (T := TX4) (N := 23) hinX4 0 rfl rfl 14 (by decide) rfl (List.mem_of_getElem? (i := 1) rfl) dX4_back_18 ?_
    refine lv_iload_n hx hb dX4_back_21 rfl (lv_at hl 0 rfl) ?_
    refine x_lald E hw 1 (a := xi) (v := (lN 0)) rfl rfl (show 100 < 200 by omega) (by omega) (by show lN (gi 100) = lN 0; rw [h0]) dX4_back_22 ?_
    refine lv_lconst (v := (lN 0)) hx hb dX4_back_23 (by decide) ?_
    refine x_lc_ne E (lN_toI (by decide)) (lN_toI (by decide)) (tgt := 31) dX4_back_24 dX4_back_25 (by decide) (fun c_2 => ?_) (fun c_2 => ?_)
    · exact absurd c_2 (by decide)
    · refine lv_bipush (v := (-2 : Int32)) hx hb dX4_back_28 (by decide) ?_
      exact hret (-2 : Int32) () _ _ _ _ dX4_back_30 rfl rfl hw
  · exfalso; omega

abbrev rm_X4_back_ok_1 : Room := { frames := 1, cells := 0, slots := 0, locals := 25 }
set_option maxHeartbeats 4000000 in
set_option maxRecDepth 100000 in
theorem c_X4_back_ok_1 (l : Launch) (G : XG) (x : Nat) (xt : Nat) (xw : Nat) (xo : Nat) (xh : Nat) (xr : Nat) (xs : Nat) (xi : Nat) (xd : Nat) (xf : Nat) (nb : Nat) (pa : Nat) (pt : Nat) (off : Nat) (ha : Nat) (n : Nat) (nl : Nat) (ns : Nat) (tr : Int64) (u1 : Int32) (u2 : Int32) (u3 : Int32) (u4 : Int64) (u5 : Int32) (gl : Nat → Nat) (gs : Nat → Nat) (gw : Nat → Nat) (go : Nat → Nat) (gh : Nat → Nat) (gi : Nat → Nat) (h1 : gi 100 = 1) : CfI l yX4_back wsX4_back rm_X4_back_ok_1 G [.ref x, .int (nI 1)] [(x, .inr (4, [.ref xt, .int (nI nb), .int (nI pa), .int (nI pt), .int (nI off), .int (nI ha), .int (nI n), .ref xw, .ref xo, .ref xh, .int (nI nl), .ref xr, .int (nI ns), .ref xs, .ref xi, .long tr, .int u1, .int u2, .int u3, .long u4, .ref xd, .int u5, .ref xf])), (xr, .inl (cI G, 12, .inl (fI gl))), (xs, .inl (cI G, 8, .inl (fI gs))), (xw, .inl (cJ G, 23, .inr (.inl (fJ gw)))), (xo, .inl (cJ G, 23, .inr (.inl (fJ go)))), (xh, .inl (cJ G, 23, .inr (.inl (fJ gh)))), (xi, .inl (cJ G, 200, .inr (.inl (fJ gi))))] (nI (gi 101)) [(x, .inr (4, [.ref xt, .int (nI nb), .int (nI pa), .int (nI pt), .int (nI off), .int (nI ha), .int (nI (gi 101)), .ref xw, .ref xo, .ref xh, .int (nI (gi 102)), .ref xr, .int (nI (gi 103)), .ref xs, .ref xi, .long tr, .int u1, .int u2, .int u3, .long u4, .ref xd, .int u5, .ref xf])), (xr, .inl (cI G, 12, .inl (fI (cpN (fun j => gi (104 + j)) gl 12)))), (xs, .inl (cI G, 8, .inl (fI (cpN (fun j => gi (116 + j)) gs 8)))), (xw, .inl (cJ G, 23, .inr (.inl (fJ (cpN (fun j => gi (124 + 3 * j)) gw 23))))), (xo, .inl (cJ G, 23, .inr (.inl (fJ (cpN (fun j => gi (125 + 3 * j)) go 23))))), (xh, .inl (cJ G, 23, .inr (.inl (fJ (cpN (fun j => gi (126 + 3 * j)) gh 23))))), (xi, .inl (cJ G, 200, .inr (.inl (fJ gi))))] := by
  refine CtI.go (cc := cX4_back) (maxL := 4) RX4 rfl (by decide) rfl (Nat.le_of_ble_eq_true rfl) ?_
  intro p e s m args below meth c A Q ls E hw hl hret
  have hx := E.1
  have hb := E.2.1
  have hinX4 : ∀ w ∈ wsX40, w ∈ wsX4_back := (fun w h => List.mem_cons_of_mem _ (List.mem_append_right _ h))
  have hl : lv_has ls 4 [(0, .ref x), (1, .int (nI 1))] := hl
  refine lv_iload_n hx hb dX4_back_0 rfl (lv_at hl 1 rfl) ?_
  refine lv_i2l (v := (lN 1)) hx hb dX4_back_1 (nI_l (by omega)) ?_
  refine lv_lconst (v := (lN 0)) hx hb dX4_back_2 (by decide) ?_
  refine lv_lconst (v := (lN 1)) hx hb dX4_back_3 (by decide) ?_
  refine x_cfSi E hw hl.1 (As := [.long (lN 1), .long (lN 0), .long (lN 1)]) (rest := []) (c_X4_in l G (lN 1) (lN 0) (lN 1) (1 : Int) (0 : Int) (1 : Int) (lN_toI (by decide)) (lN_toI (by decide)) (lN_toI (by decide))) 3 gX4_back_X4_in rfl rfl rfl (by decide) ⟨Nat.le_of_ble_eq_true rfl, Nat.le_of_ble_eq_true rfl⟩ ⟨Nat.le_of_ble_eq_true rfl, Nat.le_of_ble_eq_true rfl⟩ rfl [] [0, 1, 2, 3, 4, 5, 6] rfl rfl rfl rfl rfl [0, 1, 2, 3, 4, 5, 6] [(x, .inr (4, [.ref xt, .int (nI nb), .int (nI pa), .int (nI pt), .int (nI off), .int (nI ha), .int (nI n), .ref xw, .ref xo, .ref xh, .int (nI nl), .ref xr, .int (nI ns), .ref xs, .ref xi, .long tr, .int u1, .int u2, .int u3, .long u4, .ref xd, .int u5, .ref xf])), (xr, .inl (cI G, 12, .inl (fI gl))), (xs, .inl (cI G, 8, .inl (fI gs))), (xw, .inl (cJ G, 23, .inr (.inl (fJ gw)))), (xo, .inl (cJ G, 23, .inr (.inl (fJ go)))), (xh, .inl (cJ G, 23, .inr (.inl (fJ gh)))), (xi, .inl (cJ G, 200, .inr (.inl (fJ gi))))] rfl rfl rfl (Nat.le_of_ble_eq_true rfl) dX4_back_4 (fun H locs hw => ?_)
  refine x_ifb_ne E (P := (0 : Int) ≤ (1 : Int) ∧ (1 : Int) ≤ (1 : Int)) (tgt := 12) dX4_back_7 (by decide) (fun c_1 => ?_) (fun c_1 => ?_)
  · refine lv_bipush (v := (nI 100)) hx hb dX4_back_12 (by decide) ?_
    refine lv_iload_n hx hb dX4_back_14 rfl (lv_at hl 1 rfl) ?_
    refine x_imul E (v := (nI 100)) dX4_back_15 (pk_mul _ _) ?_
    refine lv_istore_n (lv' := [(2, .int (nI 100)), (0, .ref x), (1, .int (nI 1))]) hx hb dX4_back_16 rfl hl (by decide) rfl (fun ls hl => ?_)
    refine lv_aload_n hx hb dX4_back_17 rfl (lv_at hl 1 rfl) ?_
    refine x_get E hw (C := RX4) (T := TX4) (N := 23) hinX4 0 rfl rfl 14 (by decide) rfl (List.mem_of_getElem? (i := 1) rfl) dX4_back_18 ?_
    refine lv_iload_n hx hb dX4_back_21 rfl (lv_at hl 0 rfl) ?_
    refine x_lald E hw 6 (a := xi) (v := (lN 1)) rfl rfl (show 100 < 200 by omega) (by omega) (by show lN (gi 100) = lN 1; rw [h1]) dX4_back_22 ?_
    refine lv_lconst (v := (lN 0)) hx hb dX4_back_23 (by decide) ?_
    refine x_lc_ne E (lN_toI (by decide)) (lN_toI (by decide)) (tgt := 31) dX4_back_24 dX4_back_25 (by decide) (fun c_2 => ?_) (fun c_2 => ?_)
    · refine lv_aload_n hx hb dX4_back_31 rfl (lv_at hl 1 rfl) ?_
      refine lv_aload_n hx hb dX4_back_32 rfl (lv_at hl 1 rfl) ?_
      refine x_get E hw (C := RX4) (T := TX4) (N := 23) hinX4 0 rfl rfl 14 (by decide) rfl (List.mem_of_getElem? (i := 1) rfl) dX4_back_33 ?_
      refine lv_iload_n hx hb dX4_back_36 rfl (lv_at hl 0 rfl) ?_
      refine lv_iconst (v := (nI 1)) hx hb dX4_back_37 (by decide) ?_
      refine x_iadd E (v := (nI 101)) dX4_back_38 (nI_add _ _) ?_
      refine x_lald E hw 6 (a := xi) (v := (lN (gi 101))) rfl rfl (show 101 < 200 by omega) (by omega) rfl dX4_back_39 ?_
      refine lv_l2i (v := (nI (gi 101))) hx hb dX4_back_40 (lN_i _) ?_
      refine x_put E hw (C := RX4) (T := TX4) (N := 23) (ws1 := [(x, .inr (4, [.ref xt, .int (nI nb), .int (nI pa), .int (nI pt), .int (nI off), .int (nI ha), .int (nI (gi 101)), .ref xw, .ref xo, .ref xh, .int (nI nl), .ref xr, .int (nI ns), .ref xs, .ref xi, .long tr, .int u1, .int u2, .int u3, .long u4, .ref xd, .int u5, .ref xf])), (xr, .inl (cI G, 12, .inl (fI gl))), (xs, .inl (cI G, 8, .inl (fI gs))), (xw, .inl (cJ G, 23, .inr (.inl (fJ gw)))), (xo, .inl (cJ G, 23, .inr (.inl (fJ go)))), (xh, .inl (cJ G, 23, .inr (.inl (fJ gh)))), (xi, .inl (cJ G, 200, .inr (.inl (fJ gi))))]) hinX4 tyX4_ok nmX4 0 rfl rfl 6 (by decide) (List.mem_of_getElem? (i := 2) rfl) rfl rfl rfl (Nat.le_of_ble_eq_true rfl) rfl dX4_back_41 (fun H locs hw => ?_)
      refine lv_aload_n hx hb dX4_back_44 rfl (lv_at hl 1 rfl) ?_
      refine lv_aload_n hx hb dX4_back_45 rfl (lv_at hl 1 rfl) ?_
      refine x_get E hw (C := RX4) (T := TX4) (N := 23) hinX4 0 rfl rfl 14 (by decide) rfl (List.mem_of_getElem? (i := 1) rfl) dX4_back_46 ?_
      refine lv_iload_n hx hb dX4_back_49 rfl (lv_at hl 0 rfl) ?_
      refine lv_iconst (v := (nI 2)) hx hb dX4_back_50 (by decide) ?_
      refine x_iadd E (v := (nI 102)) dX4_back_51 (nI_add _ _) ?_
      refine x_lald E hw 6 (a := xi) (v := (lN (gi 102))) rfl rfl (show 102 < 200 by omega) (by omega) rfl dX4_back_52 ?_
      refine lv_l2i (v := (nI (gi 102))) hx hb dX4_back_53 (lN_i _) ?_
      refine x_put E hw (C := RX4) (T := TX4) (N := 23) (ws1 := [(x, .inr (4, [.ref xt, .int (nI nb), .int (nI pa), .int (nI pt), .int (nI off), .int (nI ha), .int (nI (gi 101)), .ref xw, .ref xo, .ref xh, .int (nI (gi 102)), .ref xr, .int (nI ns), .ref xs, .ref xi, .long tr, .int u1, .int u2, .int u3, .long u4, .ref xd, .int u5, .ref xf])), (xr, .inl (cI G, 12, .inl (fI gl))), (xs, .inl (cI G, 8, .inl (fI gs))), (xw, .inl (cJ G, 23, .inr (.inl (fJ gw)))), (xo, .inl (cJ G, 23, .inr (.inl (fJ go)))), (xh, .inl (cJ G, 23, .inr (.inl (fJ gh)))), (xi, .inl (cJ G, 200, .inr (.inl (fJ gi))))]) hinX4 tyX4_ok nmX4 0 rfl rfl 10 (by decide) (List.mem_of_getElem? (i := 3) rfl) rfl rfl rfl (Nat.le_of_ble_eq_true rfl) rfl dX4_back_54 (fun H locs hw => ?_)
      refine lv_aload_n hx hb dX4_back_57 rfl (lv_at hl 1 rfl) ?_
      refine lv_aload_n hx hb dX4_back_58 rfl (lv_at hl 1 rfl) ?_
      refine x_get E hw (C := RX4) (T := TX4) (N := 23) hinX4 0 rfl rfl 14 (by decide) rfl (List.mem_of_getElem? (i := 1) rfl) dX4_back_59 ?_
      refine lv_iload_n hx hb dX4_back_62 rfl (lv_at hl 0 rfl) ?_
      refine lv_iconst (v := (nI 3)) hx hb dX4_back_63 (by decide) ?_
      refine x_iadd E (v := (nI 103)) dX4_back_64 (nI_add _ _) ?_
      refine x_lald E hw 6 (a := xi) (v := (lN (gi 103))) rfl rfl (show 103 < 200 by omega) (by omega) rfl dX4_back_65 ?_
      refine lv_l2i (v := (nI (gi 103))) hx hb dX4_back_66 (lN_i _) ?_
      refine x_put E hw (C := RX4) (T := TX4) (N := 23) (ws1 := [(x, .inr (4, [.ref xt, .int (nI nb), .int (nI pa), .int (nI pt), .int (nI off), .int (nI ha), .int (nI (gi 101)), .ref xw, .ref xo, .ref xh, .int (nI (gi 102)), .ref xr, .int (nI (gi 103)), .ref xs, .ref xi, .long tr, .int u1, .int u2, .int u3, .long u4, .ref xd, .int u5, .ref xf])), (xr, .inl (cI G, 12, .inl (fI gl))), (xs, .inl (cI G, 8, .inl (fI gs))), (xw, .inl (cJ G, 23, .inr (.inl (fJ gw)))), (xo, .inl (cJ G, 23, .inr (.inl (fJ go)))), (xh, .inl (cJ G, 23, .inr (.inl (fJ gh)))), (xi, .inl (cJ G, 200, .inr (.inl (fJ gi))))]) hinX4 tyX4_ok nmX4 0 rfl rfl 12 (by decide) (List.mem_of_getElem? (i := 4) rfl) rfl rfl rfl (Nat.le_of_ble_eq_true rfl) rfl dX4_back_67 (fun H locs hw => ?_)
      refine lv_iconst (v := (nI 0)) hx hb dX4_back_70 (by decide) ?_
      refine lv_istore_n (lv' := [(3, .int (nI 0)), (2, .int (nI 100)), (0, .ref x), (1, .int (nI 1))]) hx hb dX4_back_71 rfl hl (by decide) rfl (fun ls hl => ?_)
      have loop_72 : ∀ (fu : Nat) (e1 : Nat), e1 ≤ 12 → 12 - e1 < fu → ∀ (H : Heap) (locs : List Loc) (ls : Array Slot), Wd G s A [(x, .inr (4, [.ref xt, .int (nI nb), .int (nI pa), .int (nI pt), .int (nI off), .int (nI ha), .int (nI (gi 101)), .ref xw, .ref xo, .ref xh, .int (nI (gi 102)), .ref xr, .int (nI (gi 103)), .ref xs, .ref xi, .long tr, .int u1, .int u2, .int u3, .long u4, .ref xd, .int u5, .ref xf])), (xr, .inl (cI G, 12, .inl (fI (cpN (fun j => gi (104 + j)) gl e1)))), (xs, .inl (cI G, 8, .inl (fI (cpN (fun j => gi (116 + j)) gs 0)))), (xw, .inl (cJ G, 23, .inr (.inl (fJ (cpN (fun j => gi (124 + 3 * j)) gw 0))))), (xo, .inl (cJ G, 23, .inr (.inl (fJ (cpN (fun j => gi (125 + 3 * j)) go 0))))), (xh, .inl (cJ G, 23, .inr (.inl (fJ (cpN (fun j => gi (126 + 3 * j)) gh 0))))), (xi, .inl (cJ G, 200, .inr (.inl (fJ gi))))] H locs → lv_has ls 4 [(0, .ref x), (2, .int (nI 100)), (3, .int (nI e1))] → W p l e rm_X4_back_ok_1 s m args below meth c H locs 0 0 Q (F0 m 72 ls []) := by
        intro fu
        induction fu with
        | zero =>
          intro e1 he1 hmu
          exact absurd hmu (Nat.not_lt_zero _)
        | succ fu ih_72 =>
          intro e1 he1 hmu_72 H locs ls hw hl
          refine lv_iload_n hx hb dX4_back_72 rfl (lv_at hl 2 rfl) ?_
          refine lv_bipush (v := (nI 12)) hx hb dX4_back_73 (by decide) ?_
          refine x_icmp_ge E (nI_toI (show e1 < 2147483648 by omega)) (nI_toI (by decide)) (tgt := 101) dX4_back_75 (by decide) (fun c_3 => ?_) (fun c_3 => ?_)
          · obtain rfl : e1 = 12 := by omega
            refine lv_iconst (v := (nI 0)) hx hb dX4_back_101 (by decide) ?_
            refine lv_istore_n (lv' := [(3, .int (nI 0)), (0, .ref x), (2, .int (nI 100))]) hx hb dX4_back_102 rfl hl (by decide) rfl (fun ls hl => ?_)
            have loop_103 : ∀ (fu : Nat) (e2 : Nat), e2 ≤ 8 → 8 - e2 < fu → ∀ (H : Heap) (locs : List Loc) (ls : Array Slot), Wd G s A [(x, .inr (4, [.ref xt, .int (nI nb), .int (nI pa), .int (nI pt), .int (nI off), .int (nI ha), .int (nI (gi 101)), .ref xw, .ref xo, .ref xh, .int (nI (gi 102)), .ref xr, .int (nI (gi 103)), .ref xs, .ref xi, .long tr, .int u1, .int u2, .int u3, .long u4, .ref xd, .int u5, .ref xf])), (xr, .inl (cI G, 12, .inl (fI (cpN (fun j => gi (104 + j)) gl 12)))), (xs, .inl (cI G, 8, .inl (fI (cpN (fun j => gi (116 + j)) gs e2)))), (xw, .inl (cJ G, 23, .inr (.inl (fJ (cpN (fun j => gi (124 + 3 * j)) gw 0))))), (xo, .inl (cJ G, 23, .inr (.inl (fJ (cpN (fun j => gi (125 + 3 * j)) go 0))))), (xh, .inl (cJ G, 23, .inr (.inl (fJ (cpN (fun j => gi (126 + 3 * j)) gh 0))))), (xi, .inl (cJ G, 200, .inr (.inl (fJ gi))))] H locs → lv_has ls 4 [(0, .ref x), (2, .int (nI 100)), (3, .int (nI e2))] → W p l e rm_X4_back_ok_1 s m args below meth c H locs 0 0 Q (F0 m 103 ls []) := by
              intro fu
              induction fu with
              | zero =>
                intro e2 he2 hmu
                exact absurd hmu (Nat.not_lt_zero _)
              | succ fu ih_103 =>
                intro e2 he2 hmu_103 H locs ls hw hl
                refine lv_iload_n hx hb dX4_back_103 rfl (lv_at hl 2 rfl) ?_
                refine lv_bipush (v := (nI 8)) hx hb dX4_back_104 (by decide) ?_
                refine x_icmp_ge E (nI_toI (show e2 < 2147483648 by omega)) (nI_toI (by decide)) (tgt := 133) dX4_back_106 (by decide) (fun c_4 => ?_) (fun c_4 => ?_)
                · obtain rfl : e2 = 8 := by omega
                  refine lv_iconst (v := (nI 0)) hx hb dX4_back_133 (by decide) ?_
                  refine lv_istore_n (lv' := [(3, .int (nI 0)), (0, .ref x), (2, .int (nI 100))]) hx hb dX4_back_134 rfl hl (by decide) rfl (fun ls hl => ?_)
                  have loop_135 : ∀ (fu : Nat) (e3 : Nat), e3 ≤ 23 → 23 - e3 < fu → ∀ (H : Heap) (locs : List Loc) (ls : Array Slot), Wd G s A [(x, .inr (4, [.ref xt, .int (nI nb), .int (nI pa), .int (nI pt), .int (nI off), .int (nI ha), .int (nI (gi 101)), .ref xw, .ref xo, .ref xh, .int (nI (gi 102)), .ref xr, .int (nI (gi 103)), .ref xs, .ref xi, .long tr, .int u1, .int u2, .int u3, .long u4, .ref xd, .int u5, .ref xf])), (xr, .inl (cI G, 12, .inl (fI (cpN (fun j => gi (104 + j)) gl 12)))), (xs, .inl (cI G, 8, .inl (fI (cpN (fun j => gi (116 + j)) gs 8)))), (xw, .inl (cJ G, 23, .inr (.inl (fJ (cpN (fun j => gi (124 + 3 * j)) gw e3))))), (xo, .inl (cJ G, 23, .inr (.inl (fJ (cpN (fun j => gi (125 + 3 * j)) go e3))))), (xh, .inl (cJ G, 23, .inr (.inl (fJ (cpN (fun j => gi (126 + 3 * j)) gh e3))))), (xi, .inl (cJ G, 200, .inr (.inl (fJ gi))))] H locs → lv_has ls 4 [(0, .ref x), (2, .int (nI 100)), (3, .int (nI e3))] → W p l e rm_X4_back_ok_1 s m args below meth c H locs 0 0 Q (F0 m 135 ls []) := by
                    intro fu
                    induction fu with
                    | zero =>
                      intro e3 he3 hmu
                      exact absurd hmu (Nat.not_lt_zero _)
                    | succ fu ih_135 =>
                      intro e3 he3 hmu_135 H locs ls hw hl
                      refine lv_iload_n hx hb dX4_back_135 rfl (lv_at hl 2 rfl) ?_
                      refine lv_bipush (v := (nI 23)) hx hb dX4_back_136 (by decide) ?_
                      refine x_icmp_ge E (nI_toI (show e3 < 2147483648 by omega)) (nI_toI (by decide)) (tgt := 204) dX4_back_138 (by decide) (fun c_5 => ?_) (fun c_5 => ?_)
                      · obtain rfl : e3 = 23 := by omega
                        refine lv_aload_n hx hb dX4_back_204 rfl (lv_at hl 0 rfl) ?_
                        refine x_get E hw (C := RX4) (T := TX4) (N := 23) hinX4 0 rfl rfl 6 (by decide) rfl (List.mem_of_getElem? (i := 2) rfl) dX4_back_205 ?_
                        exact hret (nI (gi 101)) () _ _ _ _ dX4_back_208 rfl rfl hw
                      · refine lv_aload_n hx hb dX4_back_141 rfl (lv_at hl 0 rfl) ?_
                        refine x_get E hw (C := RX4) (T := TX4) (N := 23) hinX4 0 rfl rfl 7 (by decide) rfl (List.mem_of_getElem? (i := 7) rfl) dX4_back_142 ?_
                        refine lv_iload_n hx hb dX4_back_145 rfl (lv_at hl 2 rfl) ?_
                        refine lv_aload_n hx hb dX4_back_146 rfl (lv_at hl 0 rfl) ?_
                        refine x_get E hw (C := RX4) (T := TX4) (N := 23) hinX4 0 rfl rfl 14 (by decide) rfl (List.mem_of_getElem? (i := 1) rfl) dX4_back_147 ?_
                        refine lv_iload_n hx hb dX4_back_150 rfl (lv_at hl 1 rfl) ?_
                        refine lv_bipush (v := (nI 24)) hx hb dX4_back_151 (by decide) ?_
                        refine x_iadd E (v := (nI 124)) dX4_back_153 (nI_add _ _) ?_
                        refine lv_iconst (v := (nI 3)) hx hb dX4_back_154 (by decide) ?_
                        refine lv_iload_n hx hb dX4_back_155 rfl (lv_at hl 2 rfl) ?_
                        refine x_imul E (v := (nI (3 * e3))) dX4_back_156 (pk_mul _ _) ?_
                        refine x_iadd E (v := (nI (124 + (3 * e3)))) dX4_back_157 (nI_add _ _) ?_
                        refine x_lald E hw 6 (a := xi) (v := (lN (gi (124 + (3 * e3))))) rfl rfl (show 124 + (3 * e3) < 200 by omega) (by omega) rfl dX4_back_158 ?_
                        refine x_last E hw 3 (a := xw) (ws1 := [(x, .inr (4, [.ref xt, .int (nI nb), .int (nI pa), .int (nI pt), .int (nI off), .int (nI ha), .int (nI (gi 101)), .ref xw, .ref xo, .ref xh, .int (nI (gi 102)), .ref xr, .int (nI (gi 103)), .ref xs, .ref xi, .long tr, .int u1, .int u2, .int u3, .long u4, .ref xd, .int u5, .ref xf])), (xr, .inl (cI G, 12, .inl (fI (cpN (fun j => gi (104 + j)) gl 12)))), (xs, .inl (cI G, 8, .inl (fI (cpN (fun j => gi (116 + j)) gs 8)))), (xw, .inl (cJ G, 23, .inr (.inl (fJ (va_up (cpN (fun j => gi (124 + 3 * j)) gw e3) e3 (gi (124 + (3 * e3)))))))), (xo, .inl (cJ G, 23, .inr (.inl (fJ (cpN (fun j => gi (125 + 3 * j)) go e3))))), (xh, .inl (cJ G, 23, .inr (.inl (fJ (cpN (fun j => gi (126 + 3 * j)) gh e3))))), (xi, .inl (cJ G, 200, .inr (.inl (fJ gi))))]) rfl rfl (show e3 < 23 by omega) (by omega) (fJ_up _ _ _) rfl dX4_back_159 (fun H locs hw => ?_)
                        refine lv_aload_n hx hb dX4_back_160 rfl (lv_at hl 0 rfl) ?_
                        refine x_get E hw (C := RX4) (T := TX4) (N := 23) hinX4 0 rfl rfl 8 (by decide) rfl (List.mem_of_getElem? (i := 8) rfl) dX4_back_161 ?_
                        refine lv_iload_n hx hb dX4_back_164 rfl (lv_at hl 2 rfl) ?_
                        refine lv_aload_n hx hb dX4_back_165 rfl (lv_at hl 0 rfl) ?_
                        refine x_get E hw (C := RX4) (T := TX4) (N := 23) hinX4 0 rfl rfl 14 (by decide) rfl (List.mem_of_getElem? (i := 1) rfl) dX4_back_166 ?_
                        refine lv_iload_n hx hb dX4_back_169 rfl (lv_at hl 1 rfl) ?_
                        refine lv_bipush (v := (nI 25)) hx hb dX4_back_170 (by decide) ?_
                        refine x_iadd E (v := (nI 125)) dX4_back_172 (nI_add _ _) ?_
                        refine lv_iconst (v := (nI 3)) hx hb dX4_back_173 (by decide) ?_
                        refine lv_iload_n hx hb dX4_back_174 rfl (lv_at hl 2 rfl) ?_
                        refine x_imul E (v := (nI (3 * e3))) dX4_back_175 (pk_mul _ _) ?_
                        refine x_iadd E (v := (nI (125 + (3 * e3)))) dX4_back_176 (nI_add _ _) ?_
                        refine x_lald E hw 6 (a := xi) (v := (lN (gi (125 + (3 * e3))))) rfl rfl (show 125 + (3 * e3) < 200 by omega) (by omega) rfl dX4_back_177 ?_
                        refine x_last E hw 4 (a := xo) (ws1 := [(x, .inr (4, [.ref xt, .int (nI nb), .int (nI pa), .int (nI pt), .int (nI off), .int (nI ha), .int (nI (gi 101)), .ref xw, .ref xo, .ref xh, .int (nI (gi 102)), .ref xr, .int (nI (gi 103)), .ref xs, .ref xi, .long tr, .int u1, .int u2, .int u3, .long u4, .ref xd, .int u5, .ref xf])), (xr, .inl (cI G, 12, .inl (fI (cpN (fun j => gi (104 + j)) gl 12)))), (xs, .inl (cI G, 8, .inl (fI (cpN (fun j => gi (116 + j)) gs 8)))), (xw, .inl (cJ G, 23, .inr (.inl (fJ (va_up (cpN (fun j => gi (124 + 3 * j)) gw e3) e3 (gi (124 + (3 * e3)))))))), (xo, .inl (cJ G, 23, .inr (.inl (fJ (va_up (cpN (fun j => gi (125 + 3 * j)) go e3) e3 (gi (125 + (3 * e3)))))))), (xh, .inl (cJ G, 23, .inr (.inl (fJ (cpN (fun j => gi (126 + 3 * j)) gh e3))))), (xi, .inl (cJ G, 200, .inr (.inl (fJ gi))))]) rfl rfl (show e3 < 23 by omega) (by omega) (fJ_up _ _ _) rfl dX4_back_178 (fun H locs hw => ?_)
                        refine lv_aload_n hx hb dX4_back_179 rfl (lv_at hl 0 rfl) ?_
                        refine x_get E hw (C := RX4) (T := TX4) (N := 23) hinX4 0 rfl rfl 9 (by decide) rfl (List.mem_of_getElem? (i := 9) rfl) dX4_back_180 ?_
                        refine lv_iload_n hx hb dX4_back_183 rfl (lv_at hl 2 rfl) ?_
                        refine lv_aload_n hx hb dX4_back_184 rfl (lv_at hl 0 rfl) ?_
                        refine x_get E hw (C := RX4) (T := TX4) (N := 23) hinX4 0 rfl rfl 14 (by decide) rfl (List.mem_of_getElem? (i := 1) rfl) dX4_back_185 ?_
                        refine lv_iload_n hx hb dX4_back_188 rfl (lv_at hl 1 rfl) ?_
                        refine lv_bipush (v := (nI 26)) hx hb dX4_back_189 (by decide) ?_
                        refine x_iadd E (v := (nI 126)) dX4_back_191 (nI_add _ _) ?_
                        refine lv_iconst (v := (nI 3)) hx hb dX4_back_192 (by decide) ?_
                        refine lv_iload_n hx hb dX4_back_193 rfl (lv_at hl 2 rfl) ?_
                        refine x_imul E (v := (nI (3 * e3))) dX4_back_194 (pk_mul _ _) ?_
                        refine x_iadd E (v := (nI (126 + (3 * e3)))) dX4_back_195 (nI_add _ _) ?_
                        refine x_lald E hw 6 (a := xi) (v := (lN (gi (126 + (3 * e3))))) rfl rfl (show 126 + (3 * e3) < 200 by omega) (by omega) rfl dX4_back_196 ?_
                        refine x_last E hw 5 (a := xh) (ws1 := [(x, .inr (4, [.ref xt, .int (nI nb), .int (nI pa), .int (nI pt), .int (nI off), .int (nI ha), .int (nI (gi 101)), .ref xw, .ref xo, .ref xh, .int (nI (gi 102)), .ref xr, .int (nI (gi 103)), .ref xs, .ref xi, .long tr, .int u1, .int u2, .int u3, .long u4, .ref xd, .int u5, .ref xf])), (xr, .inl (cI G, 12, .inl (fI (cpN (fun j => gi (104 + j)) gl 12)))), (xs, .inl (cI G, 8, .inl (fI (cpN (fun j => gi (116 + j)) gs 8)))), (xw, .inl (cJ G, 23, .inr (.inl (fJ (va_up (cpN (fun j => gi (124 + 3 * j)) gw e3) e3 (gi (124 + (3 * e3)))))))), (xo, .inl (cJ G, 23, .inr (.inl (fJ (va_up (cpN (fun j => gi (125 + 3 * j)) go e3) e3 (gi (125 + (3 * e3)))))))), (xh, .inl (cJ G, 23, .inr (.inl (fJ (va_up (cpN (fun j => gi (126 + 3 * j)) gh e3) e3 (gi (126 + (3 * e3)))))))), (xi, .inl (cJ G, 200, .inr (.inl (fJ gi))))]) rfl rfl (show e3 < 23 by omega) (by omega) (fJ_up _ _ _) rfl dX4_back_197 (fun H locs hw => ?_)
                        refine lv_iinc (v := (nI (e3 + 1))) (lv' := [(3, .int (nI (e3 + 1))), (0, .ref x), (2, .int (nI 100))]) hx hb dX4_back_198 hl (k := 2) rfl (x_inc1 _) (by decide) rfl (fun ls hl => ?_)
                        refine lv_goto (tgt := 135) hx hb dX4_back_201 (by decide) ?_
                        exact ih_135 (e3 + 1) (by omega) (by omega) _ _ _ (hw.cast (by have h9 := cpN_succ (fun j => gi (124 + 3 * j)) gw e3; rw [h9]; have h8 := cpN_succ (fun j => gi (125 + 3 * j)) go e3; rw [h8]; have h7 := cpN_succ (fun j => gi (126 + 3 * j)) gh e3; rw [h7])) (lv_sub hl [1, 2, 0] rfl)
                  exact loop_135 (23 - 0 + 1) 0 (by omega) (Nat.lt_succ_self _) _ _ _ hw (lv_sub hl [1, 2, 0] rfl)
                · refine lv_aload_n hx hb dX4_back_109 rfl (lv_at hl 0 rfl) ?_
                  refine x_get E hw (C := RX4) (T := TX4) (N := 23) hinX4 0 rfl rfl 13 (by decide) rfl (List.mem_of_getElem? (i := 6) rfl) dX4_back_110 ?_
                  refine lv_iload_n hx hb dX4_back_113 rfl (lv_at hl 2 rfl) ?_
                  refine lv_aload_n hx hb dX4_back_114 rfl (lv_at hl 0 rfl) ?_
                  refine x_get E hw (C := RX4) (T := TX4) (N := 23) hinX4 0 rfl rfl 14 (by decide) rfl (List.mem_of_getElem? (i := 1) rfl) dX4_back_115 ?_
                  refine lv_iload_n hx hb dX4_back_118 rfl (lv_at hl 1 rfl) ?_
                  refine lv_bipush (v := (nI 16)) hx hb dX4_back_119 (by decide) ?_
                  refine x_iadd E (v := (nI 116)) dX4_back_121 (nI_add _ _) ?_
                  refine lv_iload_n hx hb dX4_back_122 rfl (lv_at hl 2 rfl) ?_
                  refine x_iadd E (v := (nI (116 + e2))) dX4_back_123 (nI_add _ _) ?_
                  refine x_lald E hw 6 (a := xi) (v := (lN (gi (116 + e2)))) rfl rfl (show 116 + e2 < 200 by omega) (by omega) rfl dX4_back_124 ?_
                  refine lv_l2i (v := (nI (gi (116 + e2)))) hx hb dX4_back_125 (lN_i _) ?_
                  refine x_iast E hw 2 (a := xs) (ws1 := [(x, .inr (4, [.ref xt, .int (nI nb), .int (nI pa), .int (nI pt), .int (nI off), .int (nI ha), .int (nI (gi 101)), .ref xw, .ref xo, .ref xh, .int (nI (gi 102)), .ref xr, .int (nI (gi 103)), .ref xs, .ref xi, .long tr, .int u1, .int u2, .int u3, .long u4, .ref xd, .int u5, .ref xf])), (xr, .inl (cI G, 12, .inl (fI (cpN (fun j => gi (104 + j)) gl 12)))), (xs, .inl (cI G, 8, .inl (fI (va_up (cpN (fun j => gi (116 + j)) gs e2) e2 (gi (116 + e2)))))), (xw, .inl (cJ G, 23, .inr (.inl (fJ (cpN (fun j => gi (124 + 3 * j)) gw 0))))), (xo, .inl (cJ G, 23, .inr (.inl (fJ (cpN (fun j => gi (125 + 3 * j)) go 0))))), (xh, .inl (cJ G, 23, .inr (.inl (fJ (cpN (fun j => gi (126 + 3 * j)) gh 0))))), (xi, .inl (cJ G, 200, .inr (.inl (fJ gi))))]) rfl rfl (show e2 < 8 by omega) (by omega) (fI_up _ _ _) rfl dX4_back_126 (fun H locs hw => ?_)
                  refine lv_iinc (v := (nI (e2 + 1))) (lv' := [(3, .int (nI (e2 + 1))), (0, .ref x), (2, .int (nI 100))]) hx hb dX4_back_127 hl (k := 2) rfl (x_inc1 _) (by decide) rfl (fun ls hl => ?_)
                  refine lv_goto (tgt := 103) hx hb dX4_back_130 (by decide) ?_
                  exact ih_103 (e2 + 1) (by omega) (by omega) _ _ _ (hw.cast (by have h9 := cpN_succ (fun j => gi (116 + j)) gs e2; rw [h9])) (lv_sub hl [1, 2, 0] rfl)
            exact loop_103 (8 - 0 + 1) 0 (by omega) (Nat.lt_succ_self _) _ _ _ hw (lv_sub hl [1, 2, 0] rfl)
          · refine lv_aload_n hx hb dX4_back_78 rfl (lv_at hl 0 rfl) ?_
            refine x_get E hw (C := RX4) (T := TX4) (N := 23) hinX4 0 rfl rfl 11 (by decide) rfl (List.mem_of_getElem? (i := 5) rfl) dX4_back_79 ?_
            refine lv_iload_n hx hb dX4_back_82 rfl (lv_at hl 2 rfl) ?_
            refine lv_aload_n hx hb dX4_back_83 rfl (lv_at hl 0 rfl) ?_
            refine x_get E hw (C := RX4) (T := TX4) (N := 23) hinX4 0 rfl rfl 14 (by decide) rfl (List.mem_of_getElem? (i := 1) rfl) dX4_back_84 ?_
            refine lv_iload_n hx hb dX4_back_87 rfl (lv_at hl 1 rfl) ?_
            refine lv_iconst (v := (nI 4)) hx hb dX4_back_88 (by decide) ?_
            refine x_iadd E (v := (nI 104)) dX4_back_89 (nI_add _ _) ?_
            refine lv_iload_n hx hb dX4_back_90 rfl (lv_at hl 2 rfl) ?_
            refine x_iadd E (v := (nI (104 + e1))) dX4_back_91 (nI_add _ _) ?_
            refine x_lald E hw 6 (a := xi) (v := (lN (gi (104 + e1)))) rfl rfl (show 104 + e1 < 200 by omega) (by omega) rfl dX4_back_92 ?_
            refine lv_l2i (v := (nI (gi (104 + e1)))) hx hb dX4_back_93 (lN_i _) ?_
            refine x_iast E hw 1 (a := xr) (ws1 := [(x, .inr (4, [.ref xt, .int (nI nb), .int (nI pa), .int (nI pt), .int (nI off), .int (nI ha), .int (nI (gi 101)), .ref xw, .ref xo, .ref xh, .int (nI (gi 102)), .ref xr, .int (nI (gi 103)), .ref xs, .ref xi, .long tr, .int u1, .int u2, .int u3, .long u4, .ref xd, .int u5, .ref xf])), (xr, .inl (cI G, 12, .inl (fI (va_up (cpN (fun j => gi (104 + j)) gl e1) e1 (gi (104 + e1)))))), (xs, .inl (cI G, 8, .inl (fI (cpN (fun j => gi (116 + j)) gs 0)))), (xw, .inl (cJ G, 23, .inr (.inl (fJ (cpN (fun j => gi (124 + 3 * j)) gw 0))))), (xo, .inl (cJ G, 23, .inr (.inl (fJ (cpN (fun j => gi (125 + 3 * j)) go 0))))), (xh, .inl (cJ G, 23, .inr (.inl (fJ (cpN (fun j => gi (126 + 3 * j)) gh 0))))), (xi, .inl (cJ G, 200, .inr (.inl (fJ gi))))]) rfl rfl (show e1 < 12 by omega) (by omega) (fI_up _ _ _) rfl dX4_back_94 (fun H locs hw => ?_)
            refine lv_iinc (v := (nI (e1 + 1))) (lv' := [(3, .int (nI (e1 + 1))), (0, .ref x), (2, .int (nI 100))]) hx hb dX4_back_95 hl (k := 2) rfl (x_inc1 _) (by decide) rfl (fun ls hl => ?_)
            refine lv_goto (tgt := 72) hx hb dX4_back_98 (by decide) ?_
            exact ih_72 (e1 + 1) (by omega) (by omega) _ _ _ (hw.cast (by have h9 := cpN_succ (fun j => gi (104 + j)) gl e1; rw [h9])) (lv_sub hl [1, 2, 0] rfl)
      exact loop_72 (12 - 0 + 1) 0 (by omega) (Nat.lt_succ_self _) _ _ _ (hw.cast (by simp only [cpN_0])) (lv_sub hl [2, 1, 0] rfl)
    · exact absurd c_2 (by decide)
  · exfalso; omega

abbrev rm_X4_keep_bad : Room := { frames := 1, cells := 0, slots := 0, locals := 25 }
set_option maxHeartbeats 4000000 in
set_option maxRecDepth 100000 in
theorem c_X4_keep_bad (l : Launch) (G : XG) (x : Nat) (xt : Nat) (xw : Nat) (xo : Nat) (xh : Nat) (xr : Nat) (xs : Nat) (xi : Nat) (xd : Nat) (xf : Nat) (nb : Nat) (pa : Nat) (pt : Nat) (off : Nat) (ha : Nat) (n : Nat) (nl : Nat) (ns : Nat) (tr : Int64) (u1 : Int32) (u2 : Int32) (u3 : Int32) (u4 : Int64) (u5 : Int32) (a : Int32) (hbad : ¬ (0 ≤ a.toInt ∧ a.toInt ≤ 1)) : CfI l yX4_keep wsX4_keep rm_X4_keep_bad G [.ref x, .int a] [(x, .inr (4, [.ref xt, .int (nI nb), .int (nI pa), .int (nI pt), .int (nI off), .int (nI ha), .int (nI n), .ref xw, .ref xo, .ref xh, .int (nI nl), .ref xr, .int (nI ns), .ref xs, .ref xi, .long tr, .int u1, .int u2, .int u3, .long u4, .ref xd, .int u5, .ref xf]))] (-1 : Int32) [(x, .inr (4, [.ref xt, .int (nI nb), .int (nI pa), .int (nI pt), .int (nI off), .int (nI ha), .int (nI n), .ref xw, .ref xo, .ref xh, .int (nI nl), .ref xr, .int (nI ns), .ref xs, .ref xi, .long tr, .int u1, .int u2, .int u3, .long u4, .ref xd, .int u5, .ref xf]))] := by
  refine CtI.go (cc := cX4_keep) (maxL := 4) RX4 rfl (by decide) rfl (Nat.le_of_ble_eq_true rfl) ?_
  intro p e s m args below meth c A Q ls E hw hl hret
  have hx := E.1
  have hb := E.2.1
  have hl : lv_has ls 4 [(0, .ref x), (1, .int a)] := hl
  refine lv_iload_n hx hb dX4_keep_0 rfl (lv_at hl 1 rfl) ?_
  refine lv_i2l (v := a.toInt64) hx hb dX4_keep_1 rfl ?_
  refine lv_lconst (v := (lN 0)) hx hb dX4_keep_2 (by decide) ?_
  refine lv_lconst (v := (lN 1)) hx hb dX4_keep_3 (by decide) ?_
  refine x_cfSi E hw hl.1 (As := [.long a.toInt64, .long (lN 0), .long (lN 1)]) (rest := []) (c_X4_in l G a.toInt64 (lN 0) (lN 1) a.toInt (0 : Int) (1 : Int) ((Int32.toInt_toInt64 _).trans rfl) (lN_toI (by decide)) (lN_toI (by decide))) 3 gX4_keep_X4_in rfl rfl rfl (by decide) ⟨Nat.le_of_ble_eq_true rfl, Nat.le_of_ble_eq_true rfl⟩ ⟨Nat.le_of_ble_eq_true rfl, Nat.le_of_ble_eq_true rfl⟩ rfl [] [0] rfl rfl rfl rfl rfl [0] [(x, .inr (4, [.ref xt, .int (nI nb), .int (nI pa), .int (nI pt), .int (nI off), .int (nI ha), .int (nI n), .ref xw, .ref xo, .ref xh, .int (nI nl), .ref xr, .int (nI ns), .ref xs, .ref xi, .long tr, .int u1, .int u2, .int u3, .long u4, .ref xd, .int u5, .ref xf]))] rfl rfl rfl (Nat.le_of_ble_eq_true rfl) dX4_keep_4 (fun H locs hw => ?_)
  refine x_ifb_ne E (P := (0 : Int) ≤ a.toInt ∧ a.toInt ≤ (1 : Int)) (tgt := 12) dX4_keep_7 (by decide) (fun c_1 => ?_) (fun c_1 => ?_)
  · exfalso; omega
  · refine lv_iconst (v := (-1 : Int32)) hx hb dX4_keep_10 (by decide) ?_
    exact hret (-1 : Int32) () _ _ _ _ dX4_keep_11 rfl rfl hw

abbrev rm_X4_back_bad : Room := { frames := 1, cells := 0, slots := 0, locals := 25 }
set_option maxHeartbeats 4000000 in
set_option maxRecDepth 100000 in
theorem c_X4_back_bad (l : Launch) (G : XG) (x : Nat) (xt : Nat) (xw : Nat) (xo : Nat) (xh : Nat) (xr : Nat) (xs : Nat) (xi : Nat) (xd : Nat) (xf : Nat) (nb : Nat) (pa : Nat) (pt : Nat) (off : Nat) (ha : Nat) (n : Nat) (nl : Nat) (ns : Nat) (tr : Int64) (u1 : Int32) (u2 : Int32) (u3 : Int32) (u4 : Int64) (u5 : Int32) (a : Int32) (hbad : ¬ (0 ≤ a.toInt ∧ a.toInt ≤ 1)) : CfI l yX4_back wsX4_back rm_X4_back_bad G [.ref x, .int a] [(x, .inr (4, [.ref xt, .int (nI nb), .int (nI pa), .int (nI pt), .int (nI off), .int (nI ha), .int (nI n), .ref xw, .ref xo, .ref xh, .int (nI nl), .ref xr, .int (nI ns), .ref xs, .ref xi, .long tr, .int u1, .int u2, .int u3, .long u4, .ref xd, .int u5, .ref xf]))] (-1 : Int32) [(x, .inr (4, [.ref xt, .int (nI nb), .int (nI pa), .int (nI pt), .int (nI off), .int (nI ha), .int (nI n), .ref xw, .ref xo, .ref xh, .int (nI nl), .ref xr, .int (nI ns), .ref xs, .ref xi, .long tr, .int u1, .int u2, .int u3, .long u4, .ref xd, .int u5, .ref xf]))] := by
  refine CtI.go (cc := cX4_back) (maxL := 4) RX4 rfl (by decide) rfl (Nat.le_of_ble_eq_true rfl) ?_
  intro p e s m args below meth c A Q ls E hw hl hret
  have hx := E.1
  have hb := E.2.1
  have hl : lv_has ls 4 [(0, .ref x), (1, .int a)] := hl
  refine lv_iload_n hx hb dX4_back_0 rfl (lv_at hl 1 rfl) ?_
  refine lv_i2l (v := a.toInt64) hx hb dX4_back_1 rfl ?_
  refine lv_lconst (v := (lN 0)) hx hb dX4_back_2 (by decide) ?_
  refine lv_lconst (v := (lN 1)) hx hb dX4_back_3 (by decide) ?_
  refine x_cfSi E hw hl.1 (As := [.long a.toInt64, .long (lN 0), .long (lN 1)]) (rest := []) (c_X4_in l G a.toInt64 (lN 0) (lN 1) a.toInt (0 : Int) (1 : Int) ((Int32.toInt_toInt64 _).trans rfl) (lN_toI (by decide)) (lN_toI (by decide))) 3 gX4_back_X4_in rfl rfl rfl (by decide) ⟨Nat.le_of_ble_eq_true rfl, Nat.le_of_ble_eq_true rfl⟩ ⟨Nat.le_of_ble_eq_true rfl, Nat.le_of_ble_eq_true rfl⟩ rfl [] [0] rfl rfl rfl rfl rfl [0] [(x, .inr (4, [.ref xt, .int (nI nb), .int (nI pa), .int (nI pt), .int (nI off), .int (nI ha), .int (nI n), .ref xw, .ref xo, .ref xh, .int (nI nl), .ref xr, .int (nI ns), .ref xs, .ref xi, .long tr, .int u1, .int u2, .int u3, .long u4, .ref xd, .int u5, .ref xf]))] rfl rfl rfl (Nat.le_of_ble_eq_true rfl) dX4_back_4 (fun H locs hw => ?_)
  refine x_ifb_ne E (P := (0 : Int) ≤ a.toInt ∧ a.toInt ≤ (1 : Int)) (tgt := 12) dX4_back_7 (by decide) (fun c_1 => ?_) (fun c_1 => ?_)
  · exfalso; omega
  · refine lv_iconst (v := (-1 : Int32)) hx hb dX4_back_10 (by decide) ?_
    exact hret (-1 : Int32) () _ _ _ _ dX4_back_11 rfl rfl hw
