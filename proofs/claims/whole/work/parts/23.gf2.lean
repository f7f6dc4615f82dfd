abbrev rm_X3_crease : Room := { frames := 3, cells := 0, slots := 0, locals := 61 }
set_option maxHeartbeats 4000000 in
set_option maxRecDepth 100000 in
theorem c_X3_crease (l : Launch) (G : XG) (x : Nat) (tx : Nat) (o : Nat) (o1 : Nat) (o2 : Nat) (pa : Nat) (pt : Nat) (off : Nat) (ha : Nat) (tr : Int64) (r0 : Nat) (r1 : Nat) (r2 : Nat) (r3 : Nat) (r4 : Nat) (q0 : Nat) (q1 : Nat) (q2 : Nat) (n : Nat) (k : Int32) (a : Int32) (gw : Nat → Nat) (go : Nat → Nat) (gh : Nat → Nat) (hn : n ≤ 23) (hpa : pa ≤ 63) (hpa3 : 3 ≤ pa) (hgw : ∀ q, gw q < 1073741824) (hgo : ∀ q, go q < 1073741824) (hgh : ∀ q, gh q < 1073741824) : CfL l yX3_crease wsX3_crease rm_X3_crease G [.ref x, .int k, .int a] [(x, .inr (3, [.ref tx, .ref o, .ref o1, .ref o2, .int (nI pa), .int (nI pt), .int (nI off), .int (nI ha), .long tr])), (o, .inr (0, [.ref r0, .ref r1, .ref r2, .ref r3, .ref r4])), (r0, .inr (1, [.ref q0, .int (nI n)])), (q0, .inl (cJ G, 23, .inr (.inl (fJ gw)))), (r1, .inr (1, [.ref q1, .int (nI n)])), (q1, .inl (cJ G, 23, .inr (.inl (fJ go)))), (r2, .inr (1, [.ref q2, .int (nI n)])), (q2, .inl (cJ G, 23, .inr (.inl (fJ gh))))] (creaseF n pa gw go gh k.toInt a.toInt) [(x, .inr (3, [.ref tx, .ref o, .ref o1, .ref o2, .int (nI pa), .int (nI pt), .int (nI off), .int (nI ha), .long tr])), (o, .inr (0, [.ref r0, .ref r1, .ref r2, .ref r3, .ref r4])), (r0, .inr (1, [.ref q0, .int (nI n)])), (q0, .inl (cJ G, 23, .inr (.inl (fJ gw)))), (r1, .inr (1, [.ref q1, .int (nI n)])), (q1, .inl (cJ G, 23, .inr (.inl (fJ go)))), (r2, .inr (1, [.ref q2, .int (nI n)])), (q2, .inl (cJ G, 23, .inr (.inl (fJ gh))))] := by
  refine CtL.go (cc := cX3_crease) (maxL := 3) RX3 rfl (by decide) rfl (Nat.le_of_ble_eq_true rfl) ?_
  intro p e s m args below meth c A Q ls E hw hl hret
  have hx := E.1
  have hb := E.2.1
  have hinX0 : ∀ w ∈ wsX00, w ∈ wsX3_crease := (fun w h => List.mem_cons_of_mem _ (List.mem_append_left _ (List.mem_append_right _ h)))
  have hinX3 : ∀ w ∈ wsX30, w ∈ wsX3_crease := (fun w h => List.mem_cons_of_mem _ (List.mem_append_left _ (List.mem_append_left _ (List.mem_append_right _ h))))
  have hl : lv_has ls 3 [(0, .ref x), (1, .int k), (2, .int a)] := hl
  refine lv_aload_n hx hb dX3_crease_0 rfl (lv_at hl 0 rfl) ?_
  refine lv_iload_n hx hb dX3_crease_1 rfl (lv_at hl 1 rfl) ?_
  refine x_cfVi E hw hl.1 (As := [.int k]) (rest := []) (c_X3_isCrease l G x tx o o1 o2 pa pt off ha tr r0 r1 r2 r3 r4 q0 n k (by omega)) 1 gX3_crease_X3_isCrease rfl rfl rfl (by decide) ⟨Nat.le_of_ble_eq_true rfl, Nat.le_of_ble_eq_true rfl⟩ ⟨Nat.le_of_ble_eq_true rfl, Nat.le_of_ble_eq_true rfl⟩ rfl 0 (ci := 3) (C := RX3) (T := TX3) (N := 9) rfl rfl [0, 1, 2] [3, 4, 5, 6, 7] rfl rfl rfl rfl rfl [5, 6, 7, 0, 1, 2, 3, 4] [(x, .inr (3, [.ref tx, .ref o, .ref o1, .ref o2, .int (nI pa), .int (nI pt), .int (nI off), .int (nI ha), .long tr])), (o, .inr (0, [.ref r0, .ref r1, .ref r2, .ref r3, .ref r4])), (r0, .inr (1, [.ref q0, .int (nI n)])), (q0, .inl (cJ G, 23, .inr (.inl (fJ gw)))), (r1, .inr (1, [.ref q1, .int (nI n)])), (q1, .inl (cJ G, 23, .inr (.inl (fJ go)))), (r2, .inr (1, [.ref q2, .int (nI n)])), (q2, .inl (cJ G, 23, .inr (.inl (fJ gh))))] rfl rfl rfl (Nat.le_of_ble_eq_true rfl) dX3_crease_2 (fun H locs hw => ?_)
  refine x_ifb_eq E (P := 0 ≤ k.toInt ∧ k.toInt < (n : Int)) (tgt := 18) dX3_crease_5 (by decide) (fun c_1 => ?_) (fun c_1 => ?_)
  · refine lv_ldc2 (v := (-1)) hx hb E.2.2.2.1 (E.2.2.2.2 _ (List.mem_of_getElem? (i := 1) rfl)) dX3_crease_18 ?_
    exact hret (-1 : Int64) () _ _ _ _ dX3_crease_21 (ifF (by omega) rfl) hw
  · refine lv_iload_n hx hb dX3_crease_8 rfl (lv_at hl 2 rfl) ?_
    refine x_if_lt E rfl (tgt := 18) dX3_crease_9 (by decide) (fun c_2 => ?_) (fun c_2 => ?_)
    · refine lv_ldc2 (v := (-1)) hx hb E.2.2.2.1 (E.2.2.2.2 _ (List.mem_of_getElem? (i := 1) rfl)) dX3_crease_18 ?_
      exact hret (-1 : Int64) () _ _ _ _ dX3_crease_21 (ifF (by omega) rfl) hw
    · refine lv_iload_n hx hb dX3_crease_12 rfl (lv_at hl 2 rfl) ?_
      refine lv_bipush (v := (nI 6)) hx hb dX3_crease_13 (by decide) ?_
      refine x_icmp_le E rfl (nI_toI (by decide)) (tgt := 22) dX3_crease_15 (by decide) (fun c_3 => ?_) (fun c_3 => ?_)
      · obtain ⟨kn, hkn1, hkn2, rfl⟩ := i_nI k (by omega)
        refine lv_iload_n hx hb dX3_crease_22 rfl (lv_at hl 2 rfl) ?_
        rcases (show a.toInt = 0 ∨ a.toInt = 1 ∨ a.toInt = 2 ∨ a.toInt = 3 ∨ a.toInt = 4 ∨ a.toInt = 5 ∨ (a.toInt < 0 ∨ 5 < a.toInt) by omega) with c_4 | c_4 | c_4 | c_4 | c_4 | c_4 | c_4
        · refine x_tsw E (rfl.trans c_4) (tgt := 60) dX3_crease_23 (by decide) (by decide) rfl (by decide) ?_
          refine lv_aload_n hx hb dX3_crease_60 rfl (lv_at hl 0 rfl) ?_
          refine x_get E hw (C := RX3) (T := TX3) (N := 9) hinX3 0 rfl rfl 1 (by decide) rfl (List.mem_of_getElem? (i := 2) rfl) dX3_crease_61 ?_
          refine x_getN E hw (C := RX0) (T := TX0) (N := 5) hinX0 1 rfl rfl 0 (by decide) rfl (List.mem_of_getElem? (i := 8) rfl) dX3_crease_64 ?_
          refine lv_iload_n hx hb dX3_crease_67 rfl (lv_at hl 1 rfl) ?_
          refine x_cfVl E hw hl.1 (As := [.int (nI kn)]) (rest := []) (c_X1_at l G r0 q0 n 23 kn gw (by omega) (by omega)) 1 gX3_crease_X1_at rfl rfl rfl (by decide) ⟨Nat.le_of_ble_eq_true rfl, Nat.le_of_ble_eq_true rfl⟩ ⟨Nat.le_of_ble_eq_true rfl, Nat.le_of_ble_eq_true rfl⟩ rfl 2 (ci := 1) (C := RX1) (T := TX1) (N := 2) rfl rfl [2, 3] [0, 1, 4, 5, 6, 7] rfl rfl rfl rfl rfl [0, 1, 6, 7, 2, 3, 4, 5] [(x, .inr (3, [.ref tx, .ref o, .ref o1, .ref o2, .int (nI pa), .int (nI pt), .int (nI off), .int (nI ha), .long tr])), (o, .inr (0, [.ref r0, .ref r1, .ref r2, .ref r3, .ref r4])), (r0, .inr (1, [.ref q0, .int (nI n)])), (q0, .inl (cJ G, 23, .inr (.inl (fJ gw)))), (r1, .inr (1, [.ref q1, .int (nI n)])), (q1, .inl (cJ G, 23, .inr (.inl (fJ go)))), (r2, .inr (1, [.ref q2, .int (nI n)])), (q2, .inl (cJ G, 23, .inr (.inl (fJ gh))))] rfl rfl rfl (Nat.le_of_ble_eq_true rfl) dX3_crease_68 (fun H locs hw => ?_)
          refine lv_aload_n hx hb dX3_crease_71 rfl (lv_at hl 0 rfl) ?_
          refine x_get E hw (C := RX3) (T := TX3) (N := 9) hinX3 0 rfl rfl 4 (by decide) rfl (List.mem_of_getElem? (i := 3) rfl) dX3_crease_72 ?_
          refine lv_i2l (v := (lN pa)) hx hb dX3_crease_75 (nI_l (by omega)) ?_
          refine lv_ldc2 (v := (1048576)) hx hb E.2.2.2.1 (E.2.2.2.2 _ (List.mem_of_getElem? (i := 4) rfl)) dX3_crease_76 ?_
          refine x_topl (v := lN 1048576) (by decide) ?_
          refine x_lmul E (v := (lN (pa * 1048576))) dX3_crease_79 (lN_mul _ _) ?_
          refine x_cfSl E hw hl.1 (As := [.long (lN (gw kn)), .long (lN (pa * 1048576))]) (rest := []) (c_X3_leastUpper l G (gw kn) (pa * 1048576) (Nat.lt_trans (hgw _) (by decide)) (by omega) (by omega)) 2 gX3_crease_X3_leastUpper rfl rfl rfl (by decide) ⟨Nat.le_of_ble_eq_true rfl, Nat.le_of_ble_eq_true rfl⟩ ⟨Nat.le_of_ble_eq_true rfl, Nat.le_of_ble_eq_true rfl⟩ rfl [] [0, 1, 2, 3, 4, 5, 6, 7] rfl rfl rfl rfl rfl [0, 1, 2, 3, 4, 5, 6, 7] [(x, .inr (3, [.ref tx, .ref o, .ref o1, .ref o2, .int (nI pa), .int (nI pt), .int (nI off), .int (nI ha), .long tr])), (o, .inr (0, [.ref r0, .ref r1, .ref r2, .ref r3, .ref r4])), (r0, .inr (1, [.ref q0, .int (nI n)])), (q0, .inl (cJ G, 23, .inr (.inl (fJ gw)))), (r1, .inr (1, [.ref q1, .int (nI n)])), (q1, .inl (cJ G, 23, .inr (.inl (fJ go)))), (r2, .inr (1, [.ref q2, .int (nI n)])), (q2, .inl (cJ G, 23, .inr (.inl (fJ gh))))] rfl rfl rfl (Nat.le_of_ble_eq_true rfl) dX3_crease_80 (fun H locs hw => ?_)
          exact hret (lN ((gw kn) / Nat.gcd (gw kn) (pa * 1048576))) () _ _ _ _ dX3_crease_83 (by unfold creaseF; rw [hkn2, tNat, if_pos (by omega), if_pos (by omega)]) hw
        · refine x_tsw E (rfl.trans c_4) (tgt := 84) dX3_crease_23 (by decide) (by decide) rfl (by decide) ?_
          refine lv_aload_n hx hb dX3_crease_84 rfl (lv_at hl 0 rfl) ?_
          refine x_get E hw (C := RX3) (T := TX3) (N := 9) hinX3 0 rfl rfl 1 (by decide) rfl (List.mem_of_getElem? (i := 2) rfl) dX3_crease_85 ?_
          refine x_getN E hw (C := RX0) (T := TX0) (N := 5) hinX0 1 rfl rfl 0 (by decide) rfl (List.mem_of_getElem? (i := 8) rfl) dX3_crease_88 ?_
          refine lv_iload_n hx hb dX3_crease_91 rfl (lv_at hl 1 rfl) ?_
          refine x_cfVl E hw hl.1 (As := [.int (nI kn)]) (rest := []) (c_X1_at l G r0 q0 n 23 kn gw (by omega) (by omega)) 1 gX3_crease_X1_at rfl rfl rfl (by decide) ⟨Nat.le_of_ble_eq_true rfl, Nat.le_of_ble_eq_true rfl⟩ ⟨Nat.le_of_ble_eq_true rfl, Nat.le_of_ble_eq_true rfl⟩ rfl 2 (ci := 1) (C := RX1) (T := TX1) (N := 2) rfl rfl [2, 3] [0, 1, 4, 5, 6, 7] rfl rfl rfl rfl rfl [0, 1, 6, 7, 2, 3, 4, 5] [(x, .inr (3, [.ref tx, .ref o, .ref o1, .ref o2, .int (nI pa), .int (nI pt), .int (nI off), .int (nI ha), .long tr])), (o, .inr (0, [.ref r0, .ref r1, .ref r2, .ref r3, .ref r4])), (r0, .inr (1, [.ref q0, .int (nI n)])), (q0, .inl (cJ G, 23, .inr (.inl (fJ gw)))), (r1, .inr (1, [.ref q1, .int (nI n)])), (q1, .inl (cJ G, 23, .inr (.inl (fJ go)))), (r2, .inr (1, [.ref q2, .int (nI n)])), (q2, .inl (cJ G, 23, .inr (.inl (fJ gh))))] rfl rfl rfl (Nat.le_of_ble_eq_true rfl) dX3_crease_92 (fun H locs hw => ?_)
          refine lv_aload_n hx hb dX3_crease_95 rfl (lv_at hl 0 rfl) ?_
          refine x_get E hw (C := RX3) (T := TX3) (N := 9) hinX3 0 rfl rfl 4 (by decide) rfl (List.mem_of_getElem? (i := 3) rfl) dX3_crease_96 ?_
          refine lv_i2l (v := (lN pa)) hx hb dX3_crease_99 (nI_l (by omega)) ?_
          refine lv_ldc2 (v := (1048576)) hx hb E.2.2.2.1 (E.2.2.2.2 _ (List.mem_of_getElem? (i := 4) rfl)) dX3_crease_100 ?_
          refine x_topl (v := lN 1048576) (by decide) ?_
          refine x_lmul E (v := (lN (pa * 1048576))) dX3_crease_103 (lN_mul _ _) ?_
          refine x_cfSl E hw hl.1 (As := [.long (lN (gw kn)), .long (lN (pa * 1048576))]) (rest := []) (c_X3_leastLower l G (gw kn) (pa * 1048576) (Nat.lt_trans (hgw _) (by decide)) (by omega) (by omega)) 2 gX3_crease_X3_leastLower rfl rfl rfl (by decide) ⟨Nat.le_of_ble_eq_true rfl, Nat.le_of_ble_eq_true rfl⟩ ⟨Nat.le_of_ble_eq_true rfl, Nat.le_of_ble_eq_true rfl⟩ rfl [] [0, 1, 2, 3, 4, 5, 6, 7] rfl rfl rfl rfl rfl [0, 1, 2, 3, 4, 5, 6, 7] [(x, .inr (3, [.ref tx, .ref o, .ref o1, .ref o2, .int (nI pa), .int (nI pt), .int (nI off), .int (nI ha), .long tr])), (o, .inr (0, [.ref r0, .ref r1, .ref r2, .ref r3, .ref r4])), (r0, .inr (1, [.ref q0, .int (nI n)])), (q0, .inl (cJ G, 23, .inr (.inl (fJ gw)))), (r1, .inr (1, [.ref q1, .int (nI n)])), (q1, .inl (cJ G, 23, .inr (.inl (fJ go)))), (r2, .inr (1, [.ref q2, .int (nI n)])), (q2, .inl (cJ G, 23, .inr (.inl (fJ gh))))] rfl rfl rfl (Nat.le_of_ble_eq_true rfl) dX3_crease_104 (fun H locs hw => ?_)
          exact hret (lN ((pa * 1048576) / Nat.gcd (gw kn) (pa * 1048576))) () _ _ _ _ dX3_crease_107 (by unfold creaseF; rw [hkn2, tNat, if_pos (by omega), if_neg (by omega), if_pos (by omega)]) hw
        · refine x_tsw E (rfl.trans c_4) (tgt := 108) dX3_crease_23 (by decide) (by decide) rfl (by decide) ?_
          refine lv_aload_n hx hb dX3_crease_108 rfl (lv_at hl 0 rfl) ?_
          refine x_get E hw (C := RX3) (T := TX3) (N := 9) hinX3 0 rfl rfl 1 (by decide) rfl (List.mem_of_getElem? (i := 2) rfl) dX3_crease_109 ?_
          refine x_getN E hw (C := RX0) (T := TX0) (N := 5) hinX0 1 rfl rfl 1 (by decide) rfl (List.mem_of_getElem? (i := 9) rfl) dX3_crease_112 ?_
          refine lv_iload_n hx hb dX3_crease_115 rfl (lv_at hl 1 rfl) ?_
          refine x_cfVl E hw hl.1 (As := [.int (nI kn)]) (rest := []) (c_X1_at l G r1 q1 n 23 kn go (by omega) (by omega)) 1 gX3_crease_X1_at rfl rfl rfl (by decide) ⟨Nat.le_of_ble_eq_true rfl, Nat.le_of_ble_eq_true rfl⟩ ⟨Nat.le_of_ble_eq_true rfl, Nat.le_of_ble_eq_true rfl⟩ rfl 4 (ci := 1) (C := RX1) (T := TX1) (N := 2) rfl rfl [4, 5] [0, 1, 2, 3, 6, 7] rfl rfl rfl rfl rfl [0, 1, 2, 3, 6, 7, 4, 5] [(x, .inr (3, [.ref tx, .ref o, .ref o1, .ref o2, .int (nI pa), .int (nI pt), .int (nI off), .int (nI ha), .long tr])), (o, .inr (0, [.ref r0, .ref r1, .ref r2, .ref r3, .ref r4])), (r0, .inr (1, [.ref q0, .int (nI n)])), (q0, .inl (cJ G, 23, .inr (.inl (fJ gw)))), (r1, .inr (1, [.ref q1, .int (nI n)])), (q1, .inl (cJ G, 23, .inr (.inl (fJ go)))), (r2, .inr (1, [.ref q2, .int (nI n)])), (q2, .inl (cJ G, 23, .inr (.inl (fJ gh))))] rfl rfl rfl (Nat.le_of_ble_eq_true rfl) dX3_crease_116 (fun H locs hw => ?_)
          refine lv_ldc2 (v := (1048576)) hx hb E.2.2.2.1 (E.2.2.2.2 _ (List.mem_of_getElem? (i := 4) rfl)) dX3_crease_119 ?_
          refine x_topl (v := lN 1048576) (by decide) ?_
          refine x_cfSl E hw hl.1 (As := [.long (lN (go kn)), .long (lN 1048576)]) (rest := []) (c_X3_leastUpper l G (go kn) 1048576 (Nat.lt_trans (hgo _) (by decide)) (by omega) (by omega)) 2 gX3_crease_X3_leastUpper rfl rfl rfl (by decide) ⟨Nat.le_of_ble_eq_true rfl, Nat.le_of_ble_eq_true rfl⟩ ⟨Nat.le_of_ble_eq_true rfl, Nat.le_of_ble_eq_true rfl⟩ rfl [] [0, 1, 2, 3, 4, 5, 6, 7] rfl rfl rfl rfl rfl [0, 1, 2, 3, 4, 5, 6, 7] [(x, .inr (3, [.ref tx, .ref o, .ref o1, .ref o2, .int (nI pa), .int (nI pt), .int (nI off), .int (nI ha), .long tr])), (o, .inr (0, [.ref r0, .ref r1, .ref r2, .ref r3, .ref r4])), (r0, .inr (1, [.ref q0, .int (nI n)])), (q0, .inl (cJ G, 23, .inr (.inl (fJ gw)))), (r1, .inr (1, [.ref q1, .int (nI n)])), (q1, .inl (cJ G, 23, .inr (.inl (fJ go)))), (r2, .inr (1, [.ref q2, .int (nI n)])), (q2, .inl (cJ G, 23, .inr (.inl (fJ gh))))] rfl rfl rfl (Nat.le_of_ble_eq_true rfl) dX3_crease_122 (fun H locs hw => ?_)
          exact hret (lN ((go kn) / Nat.gcd (go kn) 1048576)) () _ _ _ _ dX3_crease_125 (by unfold creaseF; rw [hkn2, tNat, if_pos (by omega), if_neg (by omega), if_neg (by omega), if_pos (by omega)]) hw
        · refine x_tsw E (rfl.trans c_4) (tgt := 126) dX3_crease_23 (by decide) (by decide) rfl (by decide) ?_
          refine lv_aload_n hx hb dX3_crease_126 rfl (lv_at hl 0 rfl) ?_
          refine x_get E hw (C := RX3) (T := TX3) (N := 9) hinX3 0 rfl rfl 1 (by decide) rfl (List.mem_of_getElem? (i := 2) rfl) dX3_crease_127 ?_
          refine x_getN E hw (C := RX0) (T := TX0) (N := 5) hinX0 1 rfl rfl 1 (by decide) rfl (List.mem_of_getElem? (i := 9) rfl) dX3_crease_130 ?_
          refine lv_iload_n hx hb dX3_crease_133 rfl (lv_at hl 1 rfl) ?_
          refine x_cfVl E hw hl.1 (As := [.int (nI kn)]) (rest := []) (c_X1_at l G r1 q1 n 23 kn go (by omega) (by omega)) 1 gX3_crease_X1_at rfl rfl rfl (by decide) ⟨Nat.le_of_ble_eq_true rfl, Nat.le_of_ble_eq_true rfl⟩ ⟨Nat.le_of_ble_eq_true rfl, Nat.le_of_ble_eq_true rfl⟩ rfl 4 (ci := 1) (C := RX1) (T := TX1) (N := 2) rfl rfl [4, 5] [0, 1, 2, 3, 6, 7] rfl rfl rfl rfl rfl [0, 1, 2, 3, 6, 7, 4, 5] [(x, .inr (3, [.ref tx, .ref o, .ref o1, .ref o2, .int (nI pa), .int (nI pt), .int (nI off), .int (nI ha), .long tr])), (o, .inr (0, [.ref r0, .ref r1, .ref r2, .ref r3, .ref r4])), (r0, .inr (1, [.ref q0, .int (nI n)])), (q0, .inl (cJ G, 23, .inr (.inl (fJ gw)))), (r1, .inr (1, [.ref q1, .int (nI n)])), (q1, .inl (cJ G, 23, .inr (.inl (fJ go)))), (r2, .inr (1, [.ref q2, .int (nI n)])), (q2, .inl (cJ G, 23, .inr (.inl (fJ gh))))] rfl rfl rfl (Nat.le_of_ble_eq_true rfl) dX3_crease_134 (fun H locs hw => ?_)
          refine lv_ldc2 (v := (1048576)) hx hb E.2.2.2.1 (E.2.2.2.2 _ (List.mem_of_getElem? (i := 4) rfl)) dX3_crease_137 ?_
          refine x_topl (v := lN 1048576) (by decide) ?_
          refine x_cfSl E hw hl.1 (As := [.long (lN (go kn)), .long (lN 1048576)]) (rest := []) (c_X3_leastLower l G (go kn) 1048576 (Nat.lt_trans (hgo _) (by decide)) (by omega) (by omega)) 2 gX3_crease_X3_leastLower rfl rfl rfl (by decide) ⟨Nat.le_of_ble_eq_true rfl, Nat.le_of_ble_eq_true rfl⟩ ⟨Nat.le_of_ble_eq_true rfl, Nat.le_of_ble_eq_true rfl⟩ rfl [] [0, 1, 2, 3, 4, 5, 6, 7] rfl rfl rfl rfl rfl [0, 1, 2, 3, 4, 5, 6, 7] [(x, .inr (3, [.ref tx, .ref o, .ref o1, .ref o2, .int (nI pa), .int (nI pt), .int (nI off), .int (nI ha), .long tr])), (o, .inr (0, [.ref r0, .ref r1, .ref r2, .ref r3, .ref r4])), (r0, .inr (1, [.ref q0, .int (nI n)])), (q0, .inl (cJ G, 23, .inr (.inl (fJ gw)))), (r1, .inr (1, [.ref q1, .int (nI n)])), (q1, .inl (cJ G, 23, .inr (.inl (fJ go)))), (r2, .inr (1, [.ref q2, .int (nI n)])), (q2, .inl (cJ G, 23, .inr (.inl (fJ gh))))] rfl rfl rfl (Nat.le_of_ble_eq_true rfl) dX3_crease_140 (fun H locs hw => ?_)
          exact hret (lN (1048576 / Nat.gcd (go kn) 1048576)) () _ _ _ _ dX3_crease_143 (by unfold creaseF; rw [hkn2, tNat, if_pos (by omega), if_neg (by omega), if_neg (by omega), if_neg (by omega), if_pos (by omega)]) hw
        · refine x_tsw E (rfl.trans c_4) (tgt := 144) dX3_crease_23 (by decide) (by decide) rfl (by decide) ?_
          refine lv_aload_n hx hb dX3_crease_144 rfl (lv_at hl 0 rfl) ?_
          refine x_get E hw (C := RX3) (T := TX3) (N := 9) hinX3 0 rfl rfl 1 (by decide) rfl (List.mem_of_getElem? (i := 2) rfl) dX3_crease_145 ?_
          refine x_getN E hw (C := RX0) (T := TX0) (N := 5) hinX0 1 rfl rfl 2 (by decide) rfl (List.mem_of_getElem? (i := 10) rfl) dX3_crease_148 ?_
          refine lv_iload_n hx hb dX3_crease_151 rfl (lv_at hl 1 rfl) ?_
          refine x_cfVl E hw hl.1 (As := [.int (nI kn)]) (rest := []) (c_X1_at l G r2 q2 n 23 kn gh (by omega) (by omega)) 1 gX3_crease_X1_at rfl rfl rfl (by decide) ⟨Nat.le_of_ble_eq_true rfl, Nat.le_of_ble_eq_true rfl⟩ ⟨Nat.le_of_ble_eq_true rfl, Nat.le_of_ble_eq_true rfl⟩ rfl 6 (ci := 1) (C := RX1) (T := TX1) (N := 2) rfl rfl [6, 7] [0, 1, 2, 3, 4, 5] rfl rfl rfl rfl rfl [0, 1, 2, 3, 4, 5, 6, 7] [(x, .inr (3, [.ref tx, .ref o, .ref o1, .ref o2, .int (nI pa), .int (nI pt), .int (nI off), .int (nI ha), .long tr])), (o, .inr (0, [.ref r0, .ref r1, .ref r2, .ref r3, .ref r4])), (r0, .inr (1, [.ref q0, .int (nI n)])), (q0, .inl (cJ G, 23, .inr (.inl (fJ gw)))), (r1, .inr (1, [.ref q1, .int (nI n)])), (q1, .inl (cJ G, 23, .inr (.inl (fJ go)))), (r2, .inr (1, [.ref q2, .int (nI n)])), (q2, .inl (cJ G, 23, .inr (.inl (fJ gh))))] rfl rfl rfl (Nat.le_of_ble_eq_true rfl) dX3_crease_152 (fun H locs hw => ?_)
          refine lv_ldc2 (v := (1048576)) hx hb E.2.2.2.1 (E.2.2.2.2 _ (List.mem_of_getElem? (i := 4) rfl)) dX3_crease_155 ?_
          refine x_topl (v := lN 1048576) (by decide) ?_
          refine x_cfSl E hw hl.1 (As := [.long (lN (gh kn)), .long (lN 1048576)]) (rest := []) (c_X3_leastUpper l G (gh kn) 1048576 (Nat.lt_trans (hgh _) (by decide)) (by omega) (by omega)) 2 gX3_crease_X3_leastUpper rfl rfl rfl (by decide) ⟨Nat.le_of_ble_eq_true rfl, Nat.le_of_ble_eq_true rfl⟩ ⟨Nat.le_of_ble_eq_true rfl, Nat.le_of_ble_eq_true rfl⟩ rfl [] [0, 1, 2, 3, 4, 5, 6, 7] rfl rfl rfl rfl rfl [0, 1, 2, 3, 4, 5, 6, 7] [(x, .inr (3, [.ref tx, .ref o, .ref o1, .ref o2, .int (nI pa), .int (nI pt), .int (nI off), .int (nI ha), .long tr])), (o, .inr (0, [.ref r0, .ref r1, .ref r2, .ref r3, .ref r4])), (r0, .inr (1, [.ref q0, .int (nI n)])), (q0, .inl (cJ G, 23, .inr (.inl (fJ gw)))), (r1, .inr (1, [.ref q1, .int (nI n)])), (q1, .inl (cJ G, 23, .inr (.inl (fJ go)))), (r2, .inr (1, [.ref q2, .int (nI n)])), (q2, .inl (cJ G, 23, .inr (.inl (fJ gh))))] rfl rfl rfl (Nat.le_of_ble_eq_true rfl) dX3_crease_158 (fun H locs hw => ?_)
          exact hret (lN ((gh kn) / Nat.gcd (gh kn) 1048576)) () _ _ _ _ dX3_crease_161 (by unfold creaseF; rw [hkn2, tNat, if_pos (by omega), if_neg (by omega), if_neg (by omega), if_neg (by omega), if_neg (by omega), if_pos (by omega)]) hw
        · refine x_tsw E (rfl.trans c_4) (tgt := 162) dX3_crease_23 (by decide) (by decide) rfl (by decide) ?_
          refine lv_aload_n hx hb dX3_crease_162 rfl (lv_at hl 0 rfl) ?_
          refine x_get E hw (C := RX3) (T := TX3) (N := 9) hinX3 0 rfl rfl 1 (by decide) rfl (List.mem_of_getElem? (i := 2) rfl) dX3_crease_163 ?_
          refine x_getN E hw (C := RX0) (T := TX0) (N := 5) hinX0 1 rfl rfl 2 (by decide) rfl (List.mem_of_getElem? (i := 10) rfl) dX3_crease_166 ?_
          refine lv_iload_n hx hb dX3_crease_169 rfl (lv_at hl 1 rfl) ?_
          refine x_cfVl E hw hl.1 (As := [.int (nI kn)]) (rest := []) (c_X1_at l G r2 q2 n 23 kn gh (by omega) (by omega)) 1 gX3_crease_X1_at rfl rfl rfl (by decide) ⟨Nat.le_of_ble_eq_true rfl, Nat.le_of_ble_eq_true rfl⟩ ⟨Nat.le_of_ble_eq_true rfl, Nat.le_of_ble_eq_true rfl⟩ rfl 6 (ci := 1) (C := RX1) (T := TX1) (N := 2) rfl rfl [6, 7] [0, 1, 2, 3, 4, 5] rfl rfl rfl rfl rfl [0, 1, 2, 3, 4, 5, 6, 7] [(x, .inr (3, [.ref tx, .ref o, .ref o1, .ref o2, .int (nI pa), .int (nI pt), .int (nI off), .int (nI ha), .long tr])), (o, .inr (0, [.ref r0, .ref r1, .ref r2, .ref r3, .ref r4])), (r0, .inr (1, [.ref q0, .int (nI n)])), (q0, .inl (cJ G, 23, .inr (.inl (fJ gw)))), (r1, .inr (1, [.ref q1, .int (nI n)])), (q1, .inl (cJ G, 23, .inr (.inl (fJ go)))), (r2, .inr (1, [.ref q2, .int (nI n)])), (q2, .inl (cJ G, 23, .inr (.inl (fJ gh))))] rfl rfl rfl (Nat.le_of_ble_eq_true rfl) dX3_crease_170 (fun H locs hw => ?_)
          refine lv_ldc2 (v := (1048576)) hx hb E.2.2.2.1 (E.2.2.2.2 _ (List.mem_of_getElem? (i := 4) rfl)) dX3_crease_173 ?_
          refine x_topl (v := lN 1048576) (by decide) ?_
          refine x_cfSl E hw hl.1 (As := [.long (lN (gh kn)), .long (lN 1048576)]) (rest := []) (c_X3_leastLower l G (gh kn) 1048576 (Nat.lt_trans (hgh _) (by decide)) (by omega) (by omega)) 2 gX3_crease_X3_leastLower rfl rfl rfl (by decide) ⟨Nat.le_of_ble_eq_true rfl, Nat.le_of_ble_eq_true rfl⟩ ⟨Nat.le_of_ble_eq_true rfl, Nat.le_of_ble_eq_true rfl⟩ rfl [] [0, 1, 2, 3, 4, 5, 6, 7] rfl rfl rfl rfl rfl [0, 1, 2, 3, 4, 5, 6, 7] [(x, .inr (3, [.ref tx, .ref o, .ref o1, .ref o2, .int (nI pa), .int (nI pt), .int (nI off), .int (nI ha), .long tr])), (o, .inr (0, [.ref r0, .ref r1, .ref r2, .ref r3, .ref r4])), (r0, .inr (1, [.ref q0, .int (nI n)])), (q0, .inl (cJ G, 23, .inr (.inl (fJ gw)))), (r1, .inr (1, [.ref q1, .int (nI n)])), (q1, .inl (cJ G, 23, .inr (.inl (fJ go)))), (r2, .inr (1, [.ref q2, .int (nI n)])), (q2, .inl (cJ G, 23, .inr (.inl (fJ gh))))] rfl rfl rfl (Nat.le_of_ble_eq_true rfl) dX3_crease_176 (fun H locs hw => ?_)
          exact hret (lN (1048576 / Nat.gcd (gh kn) 1048576)) () _ _ _ _ dX3_crease_179 (by unfold creaseF; rw [hkn2, tNat, if_pos (by omega), if_neg (by omega), if_neg (by omega), if_neg (by omega), if_neg (by omega), if_neg (by omega), if_pos (by omega)]) hw
        · refine x_tswD E rfl dX3_crease_23 (tgt := 180) c_4 (by decide) ?_
          have hgk := hgw kn
          by_cases hm : gw kn % 1048576 = 0
          · have hgk := hgw kn
            refine lv_aload_n hx hb dX3_crease_180 rfl (lv_at hl 0 rfl) ?_
            refine lv_iload_n hx hb dX3_crease_181 rfl (lv_at hl 1 rfl) ?_
            refine x_cfVi E hw hl.1 (As := [.int (nI kn)]) (rest := []) (c_X3_partOfY l G x tx o o1 o2 pa pt off ha tr r0 r1 r2 r3 r4 q0 n kn gw (by omega) (hgw _) (by assumption)) 1 gX3_crease_X3_partOf rfl rfl rfl (by decide) ⟨Nat.le_of_ble_eq_true rfl, Nat.le_of_ble_eq_true rfl⟩ ⟨Nat.le_of_ble_eq_true rfl, Nat.le_of_ble_eq_true rfl⟩ rfl 0 (ci := 3) (C := RX3) (T := TX3) (N := 9) rfl rfl [0, 1, 2, 3] [4, 5, 6, 7] rfl rfl rfl rfl rfl [4, 5, 6, 7, 0, 1, 2, 3] [(x, .inr (3, [.ref tx, .ref o, .ref o1, .ref o2, .int (nI pa), .int (nI pt), .int (nI off), .int (nI ha), .long tr])), (o, .inr (0, [.ref r0, .ref r1, .ref r2, .ref r3, .ref r4])), (r0, .inr (1, [.ref q0, .int (nI n)])), (q0, .inl (cJ G, 23, .inr (.inl (fJ gw)))), (r1, .inr (1, [.ref q1, .int (nI n)])), (q1, .inl (cJ G, 23, .inr (.inl (fJ go)))), (r2, .inr (1, [.ref q2, .int (nI n)])), (q2, .inl (cJ G, 23, .inr (.inl (fJ gh))))] rfl rfl rfl (Nat.le_of_ble_eq_true rfl) dX3_crease_182 (fun H locs hw => ?_)
            refine lv_i2l (v := (lN (gw kn / 1048576))) hx hb dX3_crease_185 (nI_l (by omega)) ?_
            exact hret (lN (gw kn / 1048576)) () _ _ _ _ dX3_crease_186 (by unfold creaseF; rw [hkn2, tNat, if_pos (by omega), if_neg (by omega), if_neg (by omega), if_neg (by omega), if_neg (by omega), if_neg (by omega), if_neg (by omega)]; unfold ptJ; rw [if_pos hm]) hw
          · have hgk := hgw kn
            refine lv_aload_n hx hb dX3_crease_180 rfl (lv_at hl 0 rfl) ?_
            refine lv_iload_n hx hb dX3_crease_181 rfl (lv_at hl 1 rfl) ?_
            refine x_cfVi E hw hl.1 (As := [.int (nI kn)]) (rest := []) (c_X3_partOfN l G x tx o o1 o2 pa pt off ha tr r0 r1 r2 r3 r4 q0 n kn gw (by omega) (hgw _) (by assumption)) 1 gX3_crease_X3_partOf rfl rfl rfl (by decide) ⟨Nat.le_of_ble_eq_true rfl, Nat.le_of_ble_eq_true rfl⟩ ⟨Nat.le_of_ble_eq_true rfl, Nat.le_of_ble_eq_true rfl⟩ rfl 0 (ci := 3) (C := RX3) (T := TX3) (N := 9) rfl rfl [0, 1, 2, 3] [4, 5, 6, 7] rfl rfl rfl rfl rfl [4, 5, 6, 7, 0, 1, 2, 3] [(x, .inr (3, [.ref tx, .ref o, .ref o1, .ref o2, .int (nI pa), .int (nI pt), .int (nI off), .int (nI ha), .long tr])), (o, .inr (0, [.ref r0, .ref r1, .ref r2, .ref r3, .ref r4])), (r0, .inr (1, [.ref q0, .int (nI n)])), (q0, .inl (cJ G, 23, .inr (.inl (fJ gw)))), (r1, .inr (1, [.ref q1, .int (nI n)])), (q1, .inl (cJ G, 23, .inr (.inl (fJ go)))), (r2, .inr (1, [.ref q2, .int (nI n)])), (q2, .inl (cJ G, 23, .inr (.inl (fJ gh))))] rfl rfl rfl (Nat.le_of_ble_eq_true rfl) dX3_crease_182 (fun H locs hw => ?_)
            refine lv_i2l (v := (-9 : Int64)) hx hb dX3_crease_185 (by decide) ?_
            exact hret (-9 : Int64) () _ _ _ _ dX3_crease_186 (by unfold creaseF; rw [hkn2, tNat, if_pos (by omega), if_neg (by omega), if_neg (by omega), if_neg (by omega), if_neg (by omega), if_neg (by omega), if_neg (by omega)]; unfold ptJ; rw [if_neg hm]) hw
      · refine lv_ldc2 (v := (-1)) hx hb E.2.2.2.1 (E.2.2.2.2 _ (List.mem_of_getElem? (i := 1) rfl)) dX3_crease_18 ?_
        exact hret (-1 : Int64) () _ _ _ _ dX3_crease_21 (ifF (by omega) rfl) hw

abbrev rm_X3_fold_bad : Room := { frames := 3, cells := 0, slots := 0, locals := 61 }
set_option maxHeartbeats 4000000 in
set_option maxRecDepth 100000 in
theorem c_X3_fold_bad (l : Launch) (G : XG) (x : Nat) (tx : Nat) (o : Nat) (o1 : Nat) (o2 : Nat) (pa : Nat) (pt : Nat) (off : Nat) (ha : Nat) (tr : Int64) (r0 : Nat) (r1 : Nat) (r2 : Nat) (r3 : Nat) (r4 : Nat) (q0 : Nat) (q1 : Nat) (q2 : Nat) (n : Nat) (i : Int32) (j : Int32) (gw : Nat → Nat) (go : Nat → Nat) (gh : Nat → Nat) (hn : n ≤ 23) (hbad : ¬ ((0 ≤ i.toInt ∧ i.toInt < (n : Int)) ∧ (0 ≤ j.toInt ∧ j.toInt < (n : Int)) ∧ ¬ i.toInt = j.toInt)) : CfI l yX3_fold wsX3_fold rm_X3_fold_bad G [.ref x, .int i, .int j] [(x, .inr (3, [.ref tx, .ref o, .ref o1, .ref o2, .int (nI pa), .int (nI pt), .int (nI off), .int (nI ha), .long tr])), (o, .inr (0, [.ref r0, .ref r1, .ref r2, .ref r3, .ref r4])), (r0, .inr (1, [.ref q0, .int (nI n)])), (q0, .inl (cJ G, 23, .inr (.inl (fJ gw)))), (r1, .inr (1, [.ref q1, .int (nI n)])), (q1, .inl (cJ G, 23, .inr (.inl (fJ go)))), (r2, .inr (1, [.ref q2, .int (nI n)])), (q2, .inl (cJ G, 23, .inr (.inl (fJ gh))))] (-1 : Int32) [(x, .inr (3, [.ref tx, .ref o, .ref o1, .ref o2, .int (nI pa), .int (nI pt), .int (nI off), .int (nI ha), .long tr])), (o, .inr (0, [.ref r0, .ref r1, .ref r2, .ref r3, .ref r4])), (r0, .inr (1, [.ref q0, .int (nI n)])), (q0, .inl (cJ G, 23, .inr (.inl (fJ gw)))), (r1, .inr (1, [.ref q1, .int (nI n)])), (q1, .inl (cJ G, 23, .inr (.inl (fJ go)))), (r2, .inr (1, [.ref q2, .int (nI n)])), (q2, .inl (cJ G, 23, .inr (.inl (fJ gh))))] := by
  refine CtI.go (cc := cX3_fold) (maxL := 3) RX3 rfl (by decide) rfl (Nat.le_of_ble_eq_true rfl) ?_
  intro p e s m args below meth c A Q ls E hw hl hret
  have hx := E.1
  have hb := E.2.1
  have hl : lv_has ls 3 [(0, .ref x), (1, .int i), (2, .int j)] := hl
  refine lv_aload_n hx hb dX3_fold_0 rfl (lv_at hl 0 rfl) ?_
  refine lv_iload_n hx hb dX3_fold_1 rfl (lv_at hl 1 rfl) ?_
  refine x_cfVi E hw hl.1 (As := [.int i]) (rest := []) (c_X3_isCrease l G x tx o o1 o2 pa pt off ha tr r0 r1 r2 r3 r4 q0 n i (by omega)) 1 gX3_fold_X3_isCrease rfl rfl rfl (by decide) ⟨Nat.le_of_ble_eq_true rfl, Nat.le_of_ble_eq_true rfl⟩ ⟨Nat.le_of_ble_eq_true rfl, Nat.le_of_ble_eq_true rfl⟩ rfl 0 (ci := 3) (C := RX3) (T := TX3) (N := 9) rfl rfl [0, 1, 2] [3, 4, 5, 6, 7] rfl rfl rfl rfl rfl [5, 6, 7, 0, 1, 2, 3, 4] [(x, .inr (3, [.ref tx, .ref o, .ref o1, .ref o2, .int (nI pa), .int (nI pt), .int (nI off), .int (nI ha), .long tr])), (o, .inr (0, [.ref r0, .ref r1, .ref r2, .ref r3, .ref r4])), (r0, .inr (1, [.ref q0, .int (nI n)])), (q0, .inl (cJ G, 23, .inr (.inl (fJ gw)))), (r1, .inr (1, [.ref q1, .int (nI n)])), (q1, .inl (cJ G, 23, .inr (.inl (fJ go)))), (r2, .inr (1, [.ref q2, .int (nI n)])), (q2, .inl (cJ G, 23, .inr (.inl (fJ gh))))] rfl rfl rfl (Nat.le_of_ble_eq_true rfl) dX3_fold_2 (fun H locs hw => ?_)
  refine x_ifb_eq E (P := 0 ≤ i.toInt ∧ i.toInt < (n : Int)) (tgt := 21) dX3_fold_5 (by decide) (fun c_1 => ?_) (fun c_1 => ?_)
  · refine lv_iconst (v := (-1 : Int32)) hx hb dX3_fold_21 (by decide) ?_
    exact hret (-1 : Int32) () _ _ _ _ dX3_fold_22 rfl rfl hw
  · refine lv_aload_n hx hb dX3_fold_8 rfl (lv_at hl 0 rfl) ?_
    refine lv_iload_n hx hb dX3_fold_9 rfl (lv_at hl 2 rfl) ?_
    refine x_cfVi E hw hl.1 (As := [.int j]) (rest := []) (c_X3_isCrease l G x tx o o1 o2 pa pt off ha tr r0 r1 r2 r3 r4 q0 n j (by omega)) 1 gX3_fold_X3_isCrease rfl rfl rfl (by decide) ⟨Nat.le_of_ble_eq_true rfl, Nat.le_of_ble_eq_true rfl⟩ ⟨Nat.le_of_ble_eq_true rfl, Nat.le_of_ble_eq_true rfl⟩ rfl 0 (ci := 3) (C := RX3) (T := TX3) (N := 9) rfl rfl [0, 1, 2] [3, 4, 5, 6, 7] rfl rfl rfl rfl rfl [5, 6, 7, 0, 1, 2, 3, 4] [(x, .inr (3, [.ref tx, .ref o, .ref o1, .ref o2, .int (nI pa), .int (nI pt), .int (nI off), .int (nI ha), .long tr])), (o, .inr (0, [.ref r0, .ref r1, .ref r2, .ref r3, .ref r4])), (r0, .inr (1, [.ref q0, .int (nI n)])), (q0, .inl (cJ G, 23, .inr (.inl (fJ gw)))), (r1, .inr (1, [.ref q1, .int (nI n)])), (q1, .inl (cJ G, 23, .inr (.inl (fJ go)))), (r2, .inr (1, [.ref q2, .int (nI n)])), (q2, .inl (cJ G, 23, .inr (.inl (fJ gh))))] rfl rfl rfl (Nat.le_of_ble_eq_true rfl) dX3_fold_10 (fun H locs hw => ?_)
    refine x_ifb_eq E (P := 0 ≤ j.toInt ∧ j.toInt < (n : Int)) (tgt := 21) dX3_fold_13 (by decide) (fun c_2 => ?_) (fun c_2 => ?_)
    · refine lv_iconst (v := (-1 : Int32)) hx hb dX3_fold_21 (by decide) ?_
      exact hret (-1 : Int32) () _ _ _ _ dX3_fold_22 rfl rfl hw
    · refine lv_iload_n hx hb dX3_fold_16 rfl (lv_at hl 1 rfl) ?_
      refine lv_iload_n hx hb dX3_fold_17 rfl (lv_at hl 2 rfl) ?_
      refine x_icmp_ne E rfl rfl (tgt := 23) dX3_fold_18 (by decide) (fun c_3 => ?_) (fun c_3 => ?_)
      · exfalso; omega
      · refine lv_iconst (v := (-1 : Int32)) hx hb dX3_fold_21 (by decide) ?_
        exact hret (-1 : Int32) () _ _ _ _ dX3_fold_22 rfl rfl hw

abbrev rm_X3_isCreaseN : Room := { frames := 2, cells := 0, slots := 0, locals := 40 }
set_option maxHeartbeats 4000000 in
set_option maxRecDepth 100000 in
theorem c_X3_isCreaseN (l : Launch) (G : XG) (x : Nat) (tx : Nat) (o : Nat) (o1 : Nat) (o2 : Nat) (pa : Nat) (pt : Nat) (off : Nat) (ha : Nat) (tr : Int64) (r0 : Nat) (r1 : Nat) (r2 : Nat) (r3 : Nat) (r4 : Nat) (q0 : Nat) (n : Nat) (k : Nat) (hn : n ≤ 23) (hk : k < 2147483648) : CfI l yX3_isCrease wsX3_isCrease rm_X3_isCreaseN G [.ref x, .int (nI k)] [(x, .inr (3, [.ref tx, .ref o, .ref o1, .ref o2, .int (nI pa), .int (nI pt), .int (nI off), .int (nI ha), .long tr])), (o, .inr (0, [.ref r0, .ref r1, .ref r2, .ref r3, .ref r4])), (r0, .inr (1, [.ref q0, .int (nI n)]))] (if k < n then 1 else 0) [(x, .inr (3, [.ref tx, .ref o, .ref o1, .ref o2, .int (nI pa), .int (nI pt), .int (nI off), .int (nI ha), .long tr])), (o, .inr (0, [.ref r0, .ref r1, .ref r2, .ref r3, .ref r4])), (r0, .inr (1, [.ref q0, .int (nI n)]))] := by
  refine CtI.go (cc := cX3_isCrease) (maxL := 2) RX3 rfl (by decide) rfl (Nat.le_of_ble_eq_true rfl) ?_
  intro p e s m args below meth c A Q ls E hw hl hret
  have hx := E.1
  have hb := E.2.1
  have hinX3 : ∀ w ∈ wsX30, w ∈ wsX3_isCrease := (fun w h => List.mem_cons_of_mem _ (List.mem_append_left _ (List.mem_append_left _ (List.mem_append_right _ h))))
  have hl : lv_has ls 2 [(0, .ref x), (1, .int (nI k))] := hl
  refine lv_iload_n hx hb dX3_isCrease_0 rfl (lv_at hl 1 rfl) ?_
  refine x_if_lt E (nI_toI (show k < 2147483648 by omega)) (tgt := 19) dX3_isCrease_1 (by decide) (fun c_1 => ?_) (fun c_1 => ?_)
  · exfalso; omega
  · refine lv_iload_n hx hb dX3_isCrease_4 rfl (lv_at hl 1 rfl) ?_
    refine lv_aload_n hx hb dX3_isCrease_5 rfl (lv_at hl 0 rfl) ?_
    refine x_get E hw (C := RX3) (T := TX3) (N := 9) hinX3 0 rfl rfl 1 (by decide) rfl (List.mem_of_getElem? (i := 1) rfl) dX3_isCrease_6 ?_
    refine x_cfVi E hw hl.1 (As := []) (rest := [.int (nI k)]) (c_X0_creases l G o r0 r1 r2 r3 r4 q0 n) 0 gX3_isCrease_X0_creases rfl rfl rfl (by decide) ⟨Nat.le_of_ble_eq_true rfl, Nat.le_of_ble_eq_true rfl⟩ ⟨Nat.le_of_ble_eq_true rfl, Nat.le_of_ble_eq_true rfl⟩ rfl 1 (ci := 0) (C := RX0) (T := TX0) (N := 5) rfl rfl [1, 2] [0] rfl rfl rfl rfl rfl [0, 1, 2] [(x, .inr (3, [.ref tx, .ref o, .ref o1, .ref o2, .int (nI pa), .int (nI pt), .int (nI off), .int (nI ha), .long tr])), (o, .inr (0, [.ref r0, .ref r1, .ref r2, .ref r3, .ref r4])), (r0, .inr (1, [.ref q0, .int (nI n)]))] rfl rfl rfl (Nat.le_of_ble_eq_true rfl) dX3_isCrease_9 (fun H locs hw => ?_)
    refine x_icmp_ge E (nI_toI (show k < 2147483648 by omega)) (nI_toI (show n < 2147483648 by omega)) (tgt := 19) dX3_isCrease_12 (by decide) (fun c_2 => ?_) (fun c_2 => ?_)
    · refine lv_iconst (v := (nI 0)) hx hb dX3_isCrease_19 (by decide) ?_
      exact hret (nI 0) () _ _ _ _ dX3_isCrease_20 rfl ((if_neg (by omega)).symm) hw
    · refine lv_iconst (v := (nI 1)) hx hb dX3_isCrease_15 (by decide) ?_
      refine lv_goto (tgt := 20) hx hb dX3_isCrease_16 (by decide) ?_
      exact hret (nI 1) () _ _ _ _ dX3_isCrease_20 rfl ((if_pos (by omega)).symm) hw

abbrev rm_X3_fold_full : Room := { frames := 3, cells := 0, slots := 0, locals := 61 }
set_option maxHeartbeats 4000000 in
set_option maxRecDepth 100000 in
theorem c_X3_fold_full (l : Launch) (G : XG) (x : Nat) (tx : Nat) (o : Nat) (o1 : Nat) (o2 : Nat) (pa : Nat) (pt : Nat) (off : Nat) (ha : Nat) (tr : Int64) (r0 : Nat) (r1 : Nat) (r2 : Nat) (r3 : Nat) (r4 : Nat) (q0 : Nat) (q1 : Nat) (q2 : Nat) (n : Nat) (i : Nat) (j : Nat) (gw : Nat → Nat) (go : Nat → Nat) (gh : Nat → Nat) (hn : n ≤ 23) (hi : i < n) (hj : j < n) (hij : i ≠ j) (hf : 23 ≤ n) : CfI l yX3_fold wsX3_fold rm_X3_fold_full G [.ref x, .int (nI i), .int (nI j)] [(x, .inr (3, [.ref tx, .ref o, .ref o1, .ref o2, .int (nI pa), .int (nI pt), .int (nI off), .int (nI ha), .long tr])), (o, .inr (0, [.ref r0, .ref r1, .ref r2, .ref r3, .ref r4])), (r0, .inr (1, [.ref q0, .int (nI n)])), (q0, .inl (cJ G, 23, .inr (.inl (fJ gw)))), (r1, .inr (1, [.ref q1, .int (nI n)])), (q1, .inl (cJ G, 23, .inr (.inl (fJ go)))), (r2, .inr (1, [.ref q2, .int (nI n)])), (q2, .inl (cJ G, 23, .inr (.inl (fJ gh))))] (-3 : Int32) [(x, .inr (3, [.ref tx, .ref o, .ref o1, .ref o2, .int (nI pa), .int (nI pt), .int (nI off), .int (nI ha), .long tr])), (o, .inr (0, [.ref r0, .ref r1, .ref r2, .ref r3, .ref r4])), (r0, .inr (1, [.ref q0, .int (nI n)])), (q0, .inl (cJ G, 23, .inr (.inl (fJ gw)))), (r1, .inr (1, [.ref q1, .int (nI n)])), (q1, .inl (cJ G, 23, .inr (.inl (fJ go)))), (r2, .inr (1, [.ref q2, .int (nI n)])), (q2, .inl (cJ G, 23, .inr (.inl (fJ gh))))] := by
  refine CtI.go (cc := cX3_fold) (maxL := 3) RX3 rfl (by decide) rfl (Nat.le_of_ble_eq_true rfl) ?_
  intro p e s m args below meth c A Q ls E hw hl hret
  have hx := E.1
  have hb := E.2.1
  have hl : lv_has ls 3 [(0, .ref x), (1, .int (nI i)), (2, .int (nI j))] := hl
  refine lv_aload_n hx hb dX3_fold_0 rfl (lv_at hl 0 rfl) ?_
  refine lv_iload_n hx hb dX3_fold_1 rfl (lv_at hl 1 rfl) ?_
  refine x_cfVi E hw hl.1 (As := [.int (nI i)]) (rest := []) (c_X3_isCreaseN l G x tx o o1 o2 pa pt off ha tr r0 r1 r2 r3 r4 q0 n i (by omega) (by omega)) 1 gX3_fold_X3_isCrease rfl rfl rfl (by decide) ⟨Nat.le_of_ble_eq_true rfl, Nat.le_of_ble_eq_true rfl⟩ ⟨Nat.le_of_ble_eq_true rfl, Nat.le_of_ble_eq_true rfl⟩ rfl 0 (ci := 3) (C := RX3) (T := TX3) (N := 9) rfl rfl [0, 1, 2] [3, 4, 5, 6, 7] rfl rfl rfl rfl rfl [5, 6, 7, 0, 1, 2, 3, 4] [(x, .inr (3, [.ref tx, .ref o, .ref o1, .ref o2, .int (nI pa), .int (nI pt), .int (nI off), .int (nI ha), .long tr])), (o, .inr (0, [.ref r0, .ref r1, .ref r2, .ref r3, .ref r4])), (r0, .inr (1, [.ref q0, .int (nI n)])), (q0, .inl (cJ G, 23, .inr (.inl (fJ gw)))), (r1, .inr (1, [.ref q1, .int (nI n)])), (q1, .inl (cJ G, 23, .inr (.inl (fJ go)))), (r2, .inr (1, [.ref q2, .int (nI n)])), (q2, .inl (cJ G, 23, .inr (.inl (fJ gh))))] rfl rfl rfl (Nat.le_of_ble_eq_true rfl) dX3_fold_2 (fun H locs hw => ?_)
  refine x_ifb_eq E (P := i < n) (tgt := 21) dX3_fold_5 (by decide) (fun c_1 => ?_) (fun c_1 => ?_)
  · exfalso; omega
  · refine lv_aload_n hx hb dX3_fold_8 rfl (lv_at hl 0 rfl) ?_
    refine lv_iload_n hx hb dX3_fold_9 rfl (lv_at hl 2 rfl) ?_
    refine x_cfVi E hw hl.1 (As := [.int (nI j)]) (rest := []) (c_X3_isCreaseN l G x tx o o1 o2 pa pt off ha tr r0 r1 r2 r3 r4 q0 n j (by omega) (by omega)) 1 gX3_fold_X3_isCrease rfl rfl rfl (by decide) ⟨Nat.le_of_ble_eq_true rfl, Nat.le_of_ble_eq_true rfl⟩ ⟨Nat.le_of_ble_eq_true rfl, Nat.le_of_ble_eq_true rfl⟩ rfl 0 (ci := 3) (C := RX3) (T := TX3) (N := 9) rfl rfl [0, 1, 2] [3, 4, 5, 6, 7] rfl rfl rfl rfl rfl [5, 6, 7, 0, 1, 2, 3, 4] [(x, .inr (3, [.ref tx, .ref o, .ref o1, .ref o2, .int (nI pa), .int (nI pt), .int (nI off), .int (nI ha), .long tr])), (o, .inr (0, [.ref r0, .ref r1, .ref r2, .ref r3, .ref r4])), (r0, .inr (1, [.ref q0, .int (nI n)])), (q0, .inl (cJ G, 23, .inr (.inl (fJ gw)))), (r1, .inr (1, [.ref q1, .int (nI n)])), (q1, .inl (cJ G, 23, .inr (.inl (fJ go)))), (r2, .inr (1, [.ref q2, .int (nI n)])), (q2, .inl (cJ G, 23, .inr (.inl (fJ gh))))] rfl rfl rfl (Nat.le_of_ble_eq_true rfl) dX3_fold_10 (fun H locs hw => ?_)
    refine x_ifb_eq E (P := j < n) (tgt := 21) dX3_fold_13 (by decide) (fun c_2 => ?_) (fun c_2 => ?_)
    · exfalso; omega
    · refine lv_iload_n hx hb dX3_fold_16 rfl (lv_at hl 1 rfl) ?_
      refine lv_iload_n hx hb dX3_fold_17 rfl (lv_at hl 2 rfl) ?_
      refine x_icmp_ne E (nI_toI (show i < 2147483648 by omega)) (nI_toI (show j < 2147483648 by omega)) (tgt := 23) dX3_fold_18 (by decide) (fun c_3 => ?_) (fun c_3 => ?_)
      · refine lv_aload_n hx hb dX3_fold_23 rfl (lv_at hl 0 rfl) ?_
        refine x_cfVi E hw hl.1 (As := []) (rest := []) (c_X3_isFolded l G x tx o o1 o2 pa pt off ha tr r0 r1 r2 r3 r4 q0 n (by omega)) 0 gX3_fold_X3_isFolded rfl rfl rfl (by decide) ⟨Nat.le_of_ble_eq_true rfl, Nat.le_of_ble_eq_true rfl⟩ ⟨Nat.le_of_ble_eq_true rfl, Nat.le_of_ble_eq_true rfl⟩ rfl 0 (ci := 3) (C := RX3) (T := TX3) (N := 9) rfl rfl [0, 1, 2] [3, 4, 5, 6, 7] rfl rfl rfl rfl rfl [5, 6, 7, 0, 1, 2, 3, 4] [(x, .inr (3, [.ref tx, .ref o, .ref o1, .ref o2, .int (nI pa), .int (nI pt), .int (nI off), .int (nI ha), .long tr])), (o, .inr (0, [.ref r0, .ref r1, .ref r2, .ref r3, .ref r4])), (r0, .inr (1, [.ref q0, .int (nI n)])), (q0, .inl (cJ G, 23, .inr (.inl (fJ gw)))), (r1, .inr (1, [.ref q1, .int (nI n)])), (q1, .inl (cJ G, 23, .inr (.inl (fJ go)))), (r2, .inr (1, [.ref q2, .int (nI n)])), (q2, .inl (cJ G, 23, .inr (.inl (fJ gh))))] rfl rfl rfl (Nat.le_of_ble_eq_true rfl) dX3_fold_24 (fun H locs hw => ?_)
        refine x_ifb_eq E (P := 23 ≤ n) (tgt := 33) dX3_fold_27 (by decide) (fun c_4 => ?_) (fun c_4 => ?_)
        · exfalso; omega
        · refine lv_bipush (v := (-3 : Int32)) hx hb dX3_fold_30 (by decide) ?_
          exact hret (-3 : Int32) () _ _ _ _ dX3_fold_32 rfl rfl hw
      · exfalso; omega

abbrev rm_X3_fold_ok : Room := { frames := 3, cells := 0, slots := 0, locals := 70 }
set_option maxHeartbeats 4000000 in
set_option maxRecDepth 100000 in
theorem c_X3_fold_ok (l : Launch) (G : XG) (x : Nat) (tx : Nat) (o : Nat) (o1 : Nat) (o2 : Nat) (pa : Nat) (pt : Nat) (off : Nat) (ha : Nat) (tr : Int64) (r0 : Nat) (r1 : Nat) (r2 : Nat) (r3 : Nat) (r4 : Nat) (q0 : Nat) (q1 : Nat) (q2 : Nat) (n : Nat) (i : Nat) (j : Nat) (gw : Nat → Nat) (go : Nat → Nat) (gh : Nat → Nat) (hn : n ≤ 23) (hi : i < n) (hj : j < n) (hij : i ≠ j) (hf : n < 23) (hgw : ∀ q, gw q < 1073741824) (hgo : ∀ q, go q < 1073741824) (hgh : ∀ q, gh q < 1073741824) : CfI l yX3_fold wsX3_fold rm_X3_fold_ok G [.ref x, .int (nI i), .int (nI j)] [(x, .inr (3, [.ref tx, .ref o, .ref o1, .ref o2, .int (nI pa), .int (nI pt), .int (nI off), .int (nI ha), .long tr])), (o, .inr (0, [.ref r0, .ref r1, .ref r2, .ref r3, .ref r4])), (r0, .inr (1, [.ref q0, .int (nI n)])), (q0, .inl (cJ G, 23, .inr (.inl (fJ gw)))), (r1, .inr (1, [.ref q1, .int (nI n)])), (q1, .inl (cJ G, 23, .inr (.inl (fJ go)))), (r2, .inr (1, [.ref q2, .int (nI n)])), (q2, .inl (cJ G, 23, .inr (.inl (fJ gh))))] (nI n) [(x, .inr (3, [.ref tx, .ref o, .ref o1, .ref o2, .int (nI pa), .int (nI pt), .int (nI off), .int (nI ha), .long tr])), (o, .inr (0, [.ref r0, .ref r1, .ref r2, .ref r3, .ref r4])), (r0, .inr (1, [.ref q0, .int (nI (n + 1))])), (q0, .inl (cJ G, 23, .inr (.inl (fJ (mid gw n i j))))), (r1, .inr (1, [.ref q1, .int (nI (n + 1))])), (q1, .inl (cJ G, 23, .inr (.inl (fJ (mid go n i j))))), (r2, .inr (1, [.ref q2, .int (nI (n + 1))])), (q2, .inl (cJ G, 23, .inr (.inl (fJ (midH gh n i j)))))] := by
  refine CtI.go (cc := cX3_fold) (maxL := 3) RX3 rfl (by decide) rfl (Nat.le_of_ble_eq_true rfl) ?_
  intro p e s m args below meth c A Q ls E hw hl hret
  have hx := E.1
  have hb := E.2.1
  have hinX3 : ∀ w ∈ wsX30, w ∈ wsX3_fold := (fun w h => List.mem_cons_of_mem _ (List.mem_append_left _ (List.mem_append_left _ (List.mem_append_right _ h))))
  have hl : lv_has ls 3 [(0, .ref x), (1, .int (nI i)), (2, .int (nI j))] := hl
  refine lv_aload_n hx hb dX3_fold_0 rfl (lv_at hl 0 rfl) ?_
  refine lv_iload_n hx hb dX3_fold_1 rfl (lv_at hl 1 rfl) ?_
  refine x_cfVi E hw hl.1 (As := [.int (nI i)]) (rest := []) (c_X3_isCreaseN l G x tx o o1 o2 pa pt off ha tr r0 r1 r2 r3 r4 q0 n i (by omega) (by omega)) 1 gX3_fold_X3_isCrease rfl rfl rfl (by decide) ⟨Nat.le_of_ble_eq_true rfl, Nat.le_of_ble_eq_true rfl⟩ ⟨Nat.le_of_ble_eq_true rfl, Nat.le_of_ble_eq_true rfl⟩ rfl 0 (ci := 3) (C := RX3) (T := TX3) (N := 9) rfl rfl [0, 1, 2] [3, 4, 5, 6, 7] rfl rfl rfl rfl rfl [5, 6, 7, 0, 1, 2, 3, 4] [(x, .inr (3, [.ref tx, .ref o, .ref o1, .ref o2, .int (nI pa), .int (nI pt), .int (nI off), .int (nI ha), .long tr])), (o, .inr (0, [.ref r0, .ref r1, .ref r2, .ref r3, .ref r4])), (r0, .inr (1, [.ref q0, .int (nI n)])), (q0, .inl (cJ G, 23, .inr (.inl (fJ gw)))), (r1, .inr (1, [.ref q1, .int (nI n)])), (q1, .inl (cJ G, 23, .inr (.inl (fJ go)))), (r2, .inr (1, [.ref q2, .int (nI n)])), (q2, .inl (cJ G, 23, .inr (.inl (fJ gh))))] rfl rfl rfl (Nat.le_of_ble_eq_true rfl) dX3_fold_2 (fun H locs hw => ?_)
  refine x_ifb_eq E (P := i < n) (tgt := 21) dX3_fold_5 (by decide) (fun c_1 => ?_) (fun c_1 => ?_)
  · exfalso; omega
  · refine lv_aload_n hx hb dX3_fold_8 rfl (lv_at hl 0 rfl) ?_
    refine lv_iload_n hx hb dX3_fold_9 rfl (lv_at hl 2 rfl) ?_
    refine x_cfVi E hw hl.1 (As := [.int (nI j)]) (rest := []) (c_X3_isCreaseN l G x tx o o1 o2 pa pt off ha tr r0 r1 r2 r3 r4 q0 n j (by omega) (by omega)) 1 gX3_fold_X3_isCrease rfl rfl rfl (by decide) ⟨Nat.le_of_ble_eq_true rfl, Nat.le_of_ble_eq_true rfl⟩ ⟨Nat.le_of_ble_eq_true rfl, Nat.le_of_ble_eq_true rfl⟩ rfl 0 (ci := 3) (C := RX3) (T := TX3) (N := 9) rfl rfl [0, 1, 2] [3, 4, 5, 6, 7] rfl rfl rfl rfl rfl [5, 6, 7, 0, 1, 2, 3, 4] [(x, .inr (3, [.ref tx, .ref o, .ref o1, .ref o2, .int (nI pa), .int (nI pt), .int (nI off), .int (nI ha), .long tr])), (o, .inr (0, [.ref r0, .ref r1, .ref r2, .ref r3, .ref r4])), (r0, .inr (1, [.ref q0, .int (nI n)])), (q0, .inl (cJ G, 23, .inr (.inl (fJ gw)))), (r1, .inr (1, [.ref q1, .int (nI n)])), (q1, .inl (cJ G, 23, .inr (.inl (fJ go)))), (r2, .inr (1, [.ref q2, .int (nI n)])), (q2, .inl (cJ G, 23, .inr (.inl (fJ gh))))] rfl rfl rfl (Nat.le_of_ble_eq_true rfl) dX3_fold_10 (fun H locs hw => ?_)
    refine x_ifb_eq E (P := j < n) (tgt := 21) dX3_fold_13 (by decide) (fun c_2 => ?_) (fun c_2 => ?_)
    · exfalso; omega
    · refine lv_iload_n hx hb dX3_fold_16 rfl (lv_at hl 1 rfl) ?_
      refine lv_iload_n hx hb dX3_fold_17 rfl (lv_at hl 2 rfl) ?_
      refine x_icmp_ne E (nI_toI (show i < 2147483648 by omega)) (nI_toI (show j < 2147483648 by omega)) (tgt := 23) dX3_fold_18 (by decide) (fun c_3 => ?_) (fun c_3 => ?_)
      · refine lv_aload_n hx hb dX3_fold_23 rfl (lv_at hl 0 rfl) ?_
        refine x_cfVi E hw hl.1 (As := []) (rest := []) (c_X3_isFolded l G x tx o o1 o2 pa pt off ha tr r0 r1 r2 r3 r4 q0 n (by omega)) 0 gX3_fold_X3_isFolded rfl rfl rfl (by decide) ⟨Nat.le_of_ble_eq_true rfl, Nat.le_of_ble_eq_true rfl⟩ ⟨Nat.le_of_ble_eq_true rfl, Nat.le_of_ble_eq_true rfl⟩ rfl 0 (ci := 3) (C := RX3) (T := TX3) (N := 9) rfl rfl [0, 1, 2] [3, 4, 5, 6, 7] rfl rfl rfl rfl rfl [5, 6, 7, 0, 1, 2, 3, 4] [(x, .inr (3, [.ref tx, .ref o, .ref o1, .ref o2, .int (nI pa), .int (nI pt), .int (nI off), .int (nI ha), .long tr])), (o, .inr (0, [.ref r0, .ref r1, .ref r2, .ref r3, .ref r4])), (r0, .inr (1, [.ref q0, .int (nI n)])), (q0, .inl (cJ G, 23, .inr (.inl (fJ gw)))), (r1, .inr (1, [.ref q1, .int (nI n)])), (q1, .inl (cJ G, 23, .inr (.inl (fJ go)))), (r2, .inr (1, [.ref q2, .int (nI n)])), (q2, .inl (cJ G, 23, .inr (.inl (fJ gh))))] rfl rfl rfl (Nat.le_of_ble_eq_true rfl) dX3_fold_24 (fun H locs hw => ?_)
        refine x_ifb_eq E (P := 23 ≤ n) (tgt := 33) dX3_fold_27 (by decide) (fun c_4 => ?_) (fun c_4 => ?_)
        · refine lv_aload_n hx hb dX3_fold_33 rfl (lv_at hl 0 rfl) ?_
          refine x_get E hw (C := RX3) (T := TX3) (N := 9) hinX3 0 rfl rfl 1 (by decide) rfl (List.mem_of_getElem? (i := 1) rfl) dX3_fold_34 ?_
          refine lv_iload_n hx hb dX3_fold_37 rfl (lv_at hl 1 rfl) ?_
          refine lv_iload_n hx hb dX3_fold_38 rfl (lv_at hl 2 rfl) ?_
          refine x_cfVv E hw hl.1 (As := [.int (nI i), .int (nI j)]) (rest := []) (c_X0_bring l G o r0 r1 r2 r3 r4 q0 q1 q2 n i j gw go gh (by omega) (by omega) (by omega) (x_sumlt (hgw i) (hgw j)) (x_sumlt (hgo i) (hgo j)) (x_sumlt (hgh i) (hgh j))) 2 gX3_fold_X0_bring rfl rfl rfl (by decide) ⟨Nat.le_of_ble_eq_true rfl, Nat.le_of_ble_eq_true rfl⟩ ⟨Nat.le_of_ble_eq_true rfl, Nat.le_of_ble_eq_true rfl⟩ rfl 1 (ci := 0) (C := RX0) (T := TX0) (N := 5) rfl rfl [1, 2, 3, 4, 5, 6, 7] [0] rfl rfl rfl rfl rfl [0, 1, 2, 3, 4, 5, 6, 7] [(x, .inr (3, [.ref tx, .ref o, .ref o1, .ref o2, .int (nI pa), .int (nI pt), .int (nI off), .int (nI ha), .long tr])), (o, .inr (0, [.ref r0, .ref r1, .ref r2, .ref r3, .ref r4])), (r0, .inr (1, [.ref q0, .int (nI (n + 1))])), (q0, .inl (cJ G, 23, .inr (.inl (fJ (mid gw n i j))))), (r1, .inr (1, [.ref q1, .int (nI (n + 1))])), (q1, .inl (cJ G, 23, .inr (.inl (fJ (mid go n i j))))), (r2, .inr (1, [.ref q2, .int (nI (n + 1))])), (q2, .inl (cJ G, 23, .inr (.inl (fJ (midH gh n i j)))))] rfl rfl rfl (Nat.le_of_ble_eq_true rfl) dX3_fold_39 (fun H locs hw => ?_)
          refine lv_aload_n hx hb dX3_fold_42 rfl (lv_at hl 0 rfl) ?_
          refine x_cfVi E hw hl.1 (As := []) (rest := []) (c_X3_latest l G x tx o o1 o2 pa pt off ha tr r0 r1 r2 r3 r4 q0 (n + 1) (by omega) (by omega)) 0 gX3_fold_X3_latest rfl rfl rfl (by decide) ⟨Nat.le_of_ble_eq_true rfl, Nat.le_of_ble_eq_true rfl⟩ ⟨Nat.le_of_ble_eq_true rfl, Nat.le_of_ble_eq_true rfl⟩ rfl 0 (ci := 3) (C := RX3) (T := TX3) (N := 9) rfl rfl [0, 1, 2] [3, 4, 5, 6, 7] rfl rfl rfl rfl rfl [5, 6, 7, 0, 1, 2, 3, 4] [(x, .inr (3, [.ref tx, .ref o, .ref o1, .ref o2, .int (nI pa), .int (nI pt), .int (nI off), .int (nI ha), .long tr])), (o, .inr (0, [.ref r0, .ref r1, .ref r2, .ref r3, .ref r4])), (r0, .inr (1, [.ref q0, .int (nI (n + 1))])), (q0, .inl (cJ G, 23, .inr (.inl (fJ (mid gw n i j))))), (r1, .inr (1, [.ref q1, .int (nI (n + 1))])), (q1, .inl (cJ G, 23, .inr (.inl (fJ (mid go n i j))))), (r2, .inr (1, [.ref q2, .int (nI (n + 1))])), (q2, .inl (cJ G, 23, .inr (.inl (fJ (midH gh n i j)))))] rfl rfl rfl (Nat.le_of_ble_eq_true rfl) dX3_fold_43 (fun H locs hw => ?_)
          exact hret (nI ((n + 1) - 1)) () _ _ _ _ dX3_fold_46 rfl (by rw [show n + 1 - 1 = n by omega]) hw
        · exfalso; omega
      · exfalso; omega

abbrev rm_X3_rule_state : Room := { frames := 3, cells := 0, slots := 0, locals := 60 }
set_option maxHeartbeats 4000000 in
set_option maxRecDepth 100000 in
theorem c_X3_rule_state (l : Launch) (G : XG) (x : Nat) (tx : Nat) (o : Nat) (o1 : Nat) (o2 : Nat) (pa : Nat) (pt : Nat) (off : Nat) (ha : Nat) (tr : Int64) (r0 : Nat) (r1 : Nat) (r2 : Nat) (r3 : Nat) (r4 : Nat) (q0 : Nat) (q1 : Nat) (q2 : Nat) (n : Nat) (gw : Nat → Nat) (go : Nat → Nat) (gh : Nat → Nat) (hn : n ≤ 23) (hn3 : 3 ≤ n) (hpa : pa ≤ 63) (hgw : ∀ q, gw q < 1073741824) (hbad : ¬ (gw (n - 1) % 1048576 = 0 ∧ 1 ≤ gw (n - 1) / 1048576 ∧ gw (n - 1) / 1048576 < pa)) : CfI l yX3_rule wsX3_rule rm_X3_rule_state G [.ref x] [(x, .inr (3, [.ref tx, .ref o, .ref o1, .ref o2, .int (nI pa), .int (nI pt), .int (nI off), .int (nI ha), .long tr])), (o, .inr (0, [.ref r0, .ref r1, .ref r2, .ref r3, .ref r4])), (r0, .inr (1, [.ref q0, .int (nI n)])), (q0, .inl (cJ G, 23, .inr (.inl (fJ gw)))), (r1, .inr (1, [.ref q1, .int (nI n)])), (q1, .inl (cJ G, 23, .inr (.inl (fJ go)))), (r2, .inr (1, [.ref q2, .int (nI n)])), (q2, .inl (cJ G, 23, .inr (.inl (fJ gh))))] (-2 : Int32) [(x, .inr (3, [.ref tx, .ref o, .ref o1, .ref o2, .int (nI pa), .int (nI pt), .int (nI off), .int (nI ha), .long tr])), (o, .inr (0, [.ref r0, .ref r1, .ref r2, .ref r3, .ref r4])), (r0, .inr (1, [.ref q0, .int (nI n)])), (q0, .inl (cJ G, 23, .inr (.inl (fJ gw)))), (r1, .inr (1, [.ref q1, .int (nI n)])), (q1, .inl (cJ G, 23, .inr (.inl (fJ go)))), (r2, .inr (1, [.ref q2, .int (nI n)])), (q2, .inl (cJ G, 23, .inr (.inl (fJ gh))))] := by
  refine CtI.go (cc := cX3_rule) (maxL := 4) RX3 rfl (by decide) rfl (Nat.le_of_ble_eq_true rfl) ?_
  intro p e s m args below meth c A Q ls E hw hl hret
  have hx := E.1
  have hb := E.2.1
  have hl : lv_has ls 4 [(0, .ref x)] := hl
  refine lv_aload_n hx hb dX3_rule_0 rfl (lv_at hl 0 rfl) ?_
  refine x_cfVi E hw hl.1 (As := []) (rest := []) (c_X3_latest l G x tx o o1 o2 pa pt off ha tr r0 r1 r2 r3 r4 q0 n (by omega) (by omega)) 0 gX3_rule_X3_latest rfl rfl rfl (by decide) ⟨Nat.le_of_ble_eq_true rfl, Nat.le_of_ble_eq_true rfl⟩ ⟨Nat.le_of_ble_eq_true rfl, Nat.le_of_ble_eq_true rfl⟩ rfl 0 (ci := 3) (C := RX3) (T := TX3) (N := 9) rfl rfl [0, 1, 2] [3, 4, 5, 6, 7] rfl rfl rfl rfl rfl [5, 6, 7, 0, 1, 2, 3, 4] [(x, .inr (3, [.ref tx, .ref o, .ref o1, .ref o2, .int (nI pa), .int (nI pt), .int (nI off), .int (nI ha), .long tr])), (o, .inr (0, [.ref r0, .ref r1, .ref r2, .ref r3, .ref r4])), (r0, .inr (1, [.ref q0, .int (nI n)])), (q0, .inl (cJ G, 23, .inr (.inl (fJ gw)))), (r1, .inr (1, [.ref q1, .int (nI n)])), (q1, .inl (cJ G, 23, .inr (.inl (fJ go)))), (r2, .inr (1, [.ref q2, .int (nI n)])), (q2, .inl (cJ G, 23, .inr (.inl (fJ gh))))] rfl rfl rfl (Nat.le_of_ble_eq_true rfl) dX3_rule_1 (fun H locs hw => ?_)
  refine lv_istore_n (lv' := [(1, .int (nI (n - 1))), (0, .ref x)]) hx hb dX3_rule_4 rfl hl (by decide) rfl (fun ls hl => ?_)
  by_cases hm : gw (n - 1) % 1048576 = 0
  · refine lv_aload_n hx hb dX3_rule_5 rfl (lv_at hl 1 rfl) ?_
    refine lv_iload_n hx hb dX3_rule_6 rfl (lv_at hl 0 rfl) ?_
    refine x_cfVi E hw hl.1 (As := [.int (nI (n - 1))]) (rest := []) (c_X3_partOfY l G x tx o o1 o2 pa pt off ha tr r0 r1 r2 r3 r4 q0 n (n - 1) gw (by omega) (hgw _) (by assumption)) 1 gX3_rule_X3_partOf rfl rfl rfl (by decide) ⟨Nat.le_of_ble_eq_true rfl, Nat.le_of_ble_eq_true rfl⟩ ⟨Nat.le_of_ble_eq_true rfl, Nat.le_of_ble_eq_true rfl⟩ rfl 0 (ci := 3) (C := RX3) (T := TX3) (N := 9) rfl rfl [0, 1, 2, 3] [4, 5, 6, 7] rfl rfl rfl rfl rfl [4, 5, 6, 7, 0, 1, 2, 3] [(x, .inr (3, [.ref tx, .ref o, .ref o1, .ref o2, .int (nI pa), .int (nI pt), .int (nI off), .int (nI ha), .long tr])), (o, .inr (0, [.ref r0, .ref r1, .ref r2, .ref r3, .ref r4])), (r0, .inr (1, [.ref q0, .int (nI n)])), (q0, .inl (cJ G, 23, .inr (.inl (fJ gw)))), (r1, .inr (1, [.ref q1, .int (nI n)])), (q1, .inl (cJ G, 23, .inr (.inl (fJ go)))), (r2, .inr (1, [.ref q2, .int (nI n)])), (q2, .inl (cJ G, 23, .inr (.inl (fJ gh))))] rfl rfl rfl (Nat.le_of_ble_eq_true rfl) dX3_rule_7 (fun H locs hw => ?_)
    refine lv_istore_n (lv' := [(2, .int (nI (gw (n - 1) / 1048576))), (1, .int (nI (n - 1))), (0, .ref x)]) hx hb dX3_rule_10 rfl hl (by decide) rfl (fun ls hl => ?_)
    refine lv_aload_n hx hb dX3_rule_11 rfl (lv_at hl 2 rfl) ?_
    refine lv_iload_n hx hb dX3_rule_12 rfl (lv_at hl 0 rfl) ?_
    refine x_cfVi E hw hl.1 (As := [.int (nI (gw (n - 1) / 1048576))]) (rest := []) (c_X3_isInnerN l G x tx o o1 o2 pa pt off ha tr (gw (n - 1) / 1048576) (by omega) (by have := hgw (n - 1); omega)) 1 gX3_rule_X3_isInner rfl rfl rfl (by decide) ⟨Nat.le_of_ble_eq_true rfl, Nat.le_of_ble_eq_true rfl⟩ ⟨Nat.le_of_ble_eq_true rfl, Nat.le_of_ble_eq_true rfl⟩ rfl 0 (ci := 3) (C := RX3) (T := TX3) (N := 9) rfl rfl [0] [1, 2, 3, 4, 5, 6, 7] rfl rfl rfl rfl rfl [7, 0, 1, 2, 3, 4, 5, 6] [(x, .inr (3, [.ref tx, .ref o, .ref o1, .ref o2, .int (nI pa), .int (nI pt), .int (nI off), .int (nI ha), .long tr])), (o, .inr (0, [.ref r0, .ref r1, .ref r2, .ref r3, .ref r4])), (r0, .inr (1, [.ref q0, .int (nI n)])), (q0, .inl (cJ G, 23, .inr (.inl (fJ gw)))), (r1, .inr (1, [.ref q1, .int (nI n)])), (q1, .inl (cJ G, 23, .inr (.inl (fJ go)))), (r2, .inr (1, [.ref q2, .int (nI n)])), (q2, .inl (cJ G, 23, .inr (.inl (fJ gh))))] rfl rfl rfl (Nat.le_of_ble_eq_true rfl) dX3_rule_13 (fun H locs hw => ?_)
    refine x_ifb_ne E (P := 1 ≤ (gw (n - 1) / 1048576) ∧ (gw (n - 1) / 1048576) < pa) (tgt := 22) dX3_rule_16 (by decide) (fun hin => ?_) (fun hin => ?_)
    · first | (exact absurd hin.1 (by decide)) | (exfalso; omega)
    · refine lv_bipush (v := (-2 : Int32)) hx hb dX3_rule_19 (by decide) ?_
      exact hret (-2 : Int32) () _ _ _ _ dX3_rule_21 rfl rfl hw
  · refine lv_aload_n hx hb dX3_rule_5 rfl (lv_at hl 1 rfl) ?_
    refine lv_iload_n hx hb dX3_rule_6 rfl (lv_at hl 0 rfl) ?_
    refine x_cfVi E hw hl.1 (As := [.int (nI (n - 1))]) (rest := []) (c_X3_partOfN l G x tx o o1 o2 pa pt off ha tr r0 r1 r2 r3 r4 q0 n (n - 1) gw (by omega) (hgw _) (by assumption)) 1 gX3_rule_X3_partOf rfl rfl rfl (by decide) ⟨Nat.le_of_ble_eq_true rfl, Nat.le_of_ble_eq_true rfl⟩ ⟨Nat.le_of_ble_eq_true rfl, Nat.le_of_ble_eq_true rfl⟩ rfl 0 (ci := 3) (C := RX3) (T := TX3) (N := 9) rfl rfl [0, 1, 2, 3] [4, 5, 6, 7] rfl rfl rfl rfl rfl [4, 5, 6, 7, 0, 1, 2, 3] [(x, .inr (3, [.ref tx, .ref o, .ref o1, .ref o2, .int (nI pa), .int (nI pt), .int (nI off), .int (nI ha), .long tr])), (o, .inr (0, [.ref r0, .ref r1, .ref r2, .ref r3, .ref r4])), (r0, .inr (1, [.ref q0, .int (nI n)])), (q0, .inl (cJ G, 23, .inr (.inl (fJ gw)))), (r1, .inr (1, [.ref q1, .int (nI n)])), (q1, .inl (cJ G, 23, .inr (.inl (fJ go)))), (r2, .inr (1, [.ref q2, .int (nI n)])), (q2, .inl (cJ G, 23, .inr (.inl (fJ gh))))] rfl rfl rfl (Nat.le_of_ble_eq_true rfl) dX3_rule_7 (fun H locs hw => ?_)
    refine lv_istore_n (lv' := [(2, .int (-9 : Int32)), (1, .int (nI (n - 1))), (0, .ref x)]) hx hb dX3_rule_10 rfl hl (by decide) rfl (fun ls hl => ?_)
    refine lv_aload_n hx hb dX3_rule_11 rfl (lv_at hl 2 rfl) ?_
    refine lv_iload_n hx hb dX3_rule_12 rfl (lv_at hl 0 rfl) ?_
    refine x_cfVi E hw hl.1 (As := [.int (-9 : Int32)]) (rest := []) (c_X3_isInner l G x tx o o1 o2 pa pt off ha tr (-9 : Int32) (by omega)) 1 gX3_rule_X3_isInner rfl rfl rfl (by decide) ⟨Nat.le_of_ble_eq_true rfl, Nat.le_of_ble_eq_true rfl⟩ ⟨Nat.le_of_ble_eq_true rfl, Nat.le_of_ble_eq_true rfl⟩ rfl 0 (ci := 3) (C := RX3) (T := TX3) (N := 9) rfl rfl [0] [1, 2, 3, 4, 5, 6, 7] rfl rfl rfl rfl rfl [7, 0, 1, 2, 3, 4, 5, 6] [(x, .inr (3, [.ref tx, .ref o, .ref o1, .ref o2, .int (nI pa), .int (nI pt), .int (nI off), .int (nI ha), .long tr])), (o, .inr (0, [.ref r0, .ref r1, .ref r2, .ref r3, .ref r4])), (r0, .inr (1, [.ref q0, .int (nI n)])), (q0, .inl (cJ G, 23, .inr (.inl (fJ gw)))), (r1, .inr (1, [.ref q1, .int (nI n)])), (q1, .inl (cJ G, 23, .inr (.inl (fJ go)))), (r2, .inr (1, [.ref q2, .int (nI n)])), (q2, .inl (cJ G, 23, .inr (.inl (fJ gh))))] rfl rfl rfl (Nat.le_of_ble_eq_true rfl) dX3_rule_13 (fun H locs hw => ?_)
    refine x_ifb_ne E (P := 1 ≤ (-9 : Int32).toInt ∧ (-9 : Int32).toInt < (pa : Int)) (tgt := 22) dX3_rule_16 (by decide) (fun hin => ?_) (fun hin => ?_)
    · first | (exact absurd hin.1 (by decide)) | (exfalso; omega)
    · refine lv_bipush (v := (-2 : Int32)) hx hb dX3_rule_19 (by decide) ?_
      exact hret (-2 : Int32) () _ _ _ _ dX3_rule_21 rfl rfl hw

abbrev rm_X3_rule_full : Room := { frames := 3, cells := 0, slots := 0, locals := 60 }
set_option maxHeartbeats 4000000 in
set_option maxRecDepth 100000 in
theorem c_X3_rule_full (l : Launch) (G : XG) (x : Nat) (tx : Nat) (o : Nat) (o1 : Nat) (o2 : Nat) (pa : Nat) (pt : Nat) (off : Nat) (ha : Nat) (tr : Int64) (r0 : Nat) (r1 : Nat) (r2 : Nat) (r3 : Nat) (r4 : Nat) (q0 : Nat) (q1 : Nat) (q2 : Nat) (n : Nat) (gw : Nat → Nat) (go : Nat → Nat) (gh : Nat → Nat) (hn : n ≤ 23) (hn3 : 3 ≤ n) (hpa : pa ≤ 63) (hgw : ∀ q, gw q < 1073741824) (hin : gw (n - 1) % 1048576 = 0 ∧ 1 ≤ gw (n - 1) / 1048576 ∧ gw (n - 1) / 1048576 < pa) (hf : 23 ≤ n) : CfI l yX3_rule wsX3_rule rm_X3_rule_full G [.ref x] [(x, .inr (3, [.ref tx, .ref o, .ref o1, .ref o2, .int (nI pa), .int (nI pt), .int (nI off), .int (nI ha), .long tr])), (o, .inr (0, [.ref r0, .ref r1, .ref r2, .ref r3, .ref r4])), (r0, .inr (1, [.ref q0, .int (nI n)])), (q0, .inl (cJ G, 23, .inr (.inl (fJ gw)))), (r1, .inr (1, [.ref q1, .int (nI n)])), (q1, .inl (cJ G, 23, .inr (.inl (fJ go)))), (r2, .inr (1, [.ref q2, .int (nI n)])), (q2, .inl (cJ G, 23, .inr (.inl (fJ gh))))] (-3 : Int32) [(x, .inr (3, [.ref tx, .ref o, .ref o1, .ref o2, .int (nI pa), .int (nI pt), .int (nI off), .int (nI ha), .long tr])), (o, .inr (0, [.ref r0, .ref r1, .ref r2, .ref r3, .ref r4])), (r0, .inr (1, [.ref q0, .int (nI n)])), (q0, .inl (cJ G, 23, .inr (.inl (fJ gw)))), (r1, .inr (1, [.ref q1, .int (nI n)])), (q1, .inl (cJ G, 23, .inr (.inl (fJ go)))), (r2, .inr (1, [.ref q2, .int (nI n)])), (q2, .inl (cJ G, 23, .inr (.inl (fJ gh))))] := by
  refine CtI.go (cc := cX3_rule) (maxL := 4) RX3 rfl (by decide) rfl (Nat.le_of_ble_eq_true rfl) ?_
  intro p e s m args below meth c A Q ls E hw hl hret
  have hx := E.1
  have hb := E.2.1
  have hl : lv_has ls 4 [(0, .ref x)] := hl
  refine lv_aload_n hx hb dX3_rule_0 rfl (lv_at hl 0 rfl) ?_
  refine x_cfVi E hw hl.1 (As := []) (rest := []) (c_X3_latest l G x tx o o1 o2 pa pt off ha tr r0 r1 r2 r3 r4 q0 n (by omega) (by omega)) 0 gX3_rule_X3_latest rfl rfl rfl (by decide) ⟨Nat.le_of_ble_eq_true rfl, Nat.le_of_ble_eq_true rfl⟩ ⟨Nat.le_of_ble_eq_true rfl, Nat.le_of_ble_eq_true rfl⟩ rfl 0 (ci := 3) (C := RX3) (T := TX3) (N := 9) rfl rfl [0, 1, 2] [3, 4, 5, 6, 7] rfl rfl rfl rfl rfl [5, 6, 7, 0, 1, 2, 3, 4] [(x, .inr (3, [.ref tx, .ref o, .ref o1, .ref o2, .int (nI pa), .int (nI pt), .int (nI off), .int (nI ha), .long tr])), (o, .inr (0, [.ref r0, .ref r1, .ref r2, .ref r3, .ref r4])), (r0, .inr (1, [.ref q0, .int (nI n)])), (q0, .inl (cJ G, 23, .inr (.inl (fJ gw)))), (r1, .inr (1, [.ref q1, .int (nI n)])), (q1, .inl (cJ G, 23, .inr (.inl (fJ go)))), (r2, .inr (1, [.ref q2, .int (nI n)])), (q2, .inl (cJ G, 23, .inr (.inl (fJ gh))))] rfl rfl rfl (Nat.le_of_ble_eq_true rfl) dX3_rule_1 (fun H locs hw => ?_)
  refine lv_istore_n (lv' := [(1, .int (nI (n - 1))), (0, .ref x)]) hx hb dX3_rule_4 rfl hl (by decide) rfl (fun ls hl => ?_)
  have hm := hin.1
  refine lv_aload_n hx hb dX3_rule_5 rfl (lv_at hl 1 rfl) ?_
  refine lv_iload_n hx hb dX3_rule_6 rfl (lv_at hl 0 rfl) ?_
  refine x_cfVi E hw hl.1 (As := [.int (nI (n - 1))]) (rest := []) (c_X3_partOfY l G x tx o o1 o2 pa pt off ha tr r0 r1 r2 r3 r4 q0 n (n - 1) gw (by omega) (hgw _) (by assumption)) 1 gX3_rule_X3_partOf rfl rfl rfl (by decide) ⟨Nat.le_of_ble_eq_true rfl, Nat.le_of_ble_eq_true rfl⟩ ⟨Nat.le_of_ble_eq_true rfl, Nat.le_of_ble_eq_true rfl⟩ rfl 0 (ci := 3) (C := RX3) (T := TX3) (N := 9) rfl rfl [0, 1, 2, 3] [4, 5, 6, 7] rfl rfl rfl rfl rfl [4, 5, 6, 7, 0, 1, 2, 3] [(x, .inr (3, [.ref tx, .ref o, .ref o1, .ref o2, .int (nI pa), .int (nI pt), .int (nI off), .int (nI ha), .long tr])), (o, .inr (0, [.ref r0, .ref r1, .ref r2, .ref r3, .ref r4])), (r0, .inr (1, [.ref q0, .int (nI n)])), (q0, .inl (cJ G, 23, .inr (.inl (fJ gw)))), (r1, .inr (1, [.ref q1, .int (nI n)])), (q1, .inl (cJ G, 23, .inr (.inl (fJ go)))), (r2, .inr (1, [.ref q2, .int (nI n)])), (q2, .inl (cJ G, 23, .inr (.inl (fJ gh))))] rfl rfl rfl (Nat.le_of_ble_eq_true rfl) dX3_rule_7 (fun H locs hw => ?_)
  refine lv_istore_n (lv' := [(2, .int (nI (gw (n - 1) / 1048576))), (1, .int (nI (n - 1))), (0, .ref x)]) hx hb dX3_rule_10 rfl hl (by decide) rfl (fun ls hl => ?_)
  refine lv_aload_n hx hb dX3_rule_11 rfl (lv_at hl 2 rfl) ?_
  refine lv_iload_n hx hb dX3_rule_12 rfl (lv_at hl 0 rfl) ?_
  refine x_cfVi E hw hl.1 (As := [.int (nI (gw (n - 1) / 1048576))]) (rest := []) (c_X3_isInnerN l G x tx o o1 o2 pa pt off ha tr (gw (n - 1) / 1048576) (by omega) (by have := hgw (n - 1); omega)) 1 gX3_rule_X3_isInner rfl rfl rfl (by decide) ⟨Nat.le_of_ble_eq_true rfl, Nat.le_of_ble_eq_true rfl⟩ ⟨Nat.le_of_ble_eq_true rfl, Nat.le_of_ble_eq_true rfl⟩ rfl 0 (ci := 3) (C := RX3) (T := TX3) (N := 9) rfl rfl [0] [1, 2, 3, 4, 5, 6, 7] rfl rfl rfl rfl rfl [7, 0, 1, 2, 3, 4, 5, 6] [(x, .inr (3, [.ref tx, .ref o, .ref o1, .ref o2, .int (nI pa), .int (nI pt), .int (nI off), .int (nI ha), .long tr])), (o, .inr (0, [.ref r0, .ref r1, .ref r2, .ref r3, .ref r4])), (r0, .inr (1, [.ref q0, .int (nI n)])), (q0, .inl (cJ G, 23, .inr (.inl (fJ gw)))), (r1, .inr (1, [.ref q1, .int (nI n)])), (q1, .inl (cJ G, 23, .inr (.inl (fJ go)))), (r2, .inr (1, [.ref q2, .int (nI n)])), (q2, .inl (cJ G, 23, .inr (.inl (fJ gh))))] rfl rfl rfl (Nat.le_of_ble_eq_true rfl) dX3_rule_13 (fun H locs hw => ?_)
  refine x_ifb_ne E (P := 1 ≤ (gw (n - 1) / 1048576) ∧ (gw (n - 1) / 1048576) < pa) (tgt := 22) dX3_rule_16 (by decide) (fun c_1 => ?_) (fun c_1 => ?_)
  · refine lv_aload_n hx hb dX3_rule_22 rfl (lv_at hl 2 rfl) ?_
    refine x_cfVi E hw hl.1 (As := []) (rest := []) (c_X3_isFolded l G x tx o o1 o2 pa pt off ha tr r0 r1 r2 r3 r4 q0 n (by omega)) 0 gX3_rule_X3_isFolded rfl rfl rfl (by decide) ⟨Nat.le_of_ble_eq_true rfl, Nat.le_of_ble_eq_true rfl⟩ ⟨Nat.le_of_ble_eq_true rfl, Nat.le_of_ble_eq_true rfl⟩ rfl 0 (ci := 3) (C := RX3) (T := TX3) (N := 9) rfl rfl [0, 1, 2] [3, 4, 5, 6, 7] rfl rfl rfl rfl rfl [5, 6, 7, 0, 1, 2, 3, 4] [(x, .inr (3, [.ref tx, .ref o, .ref o1, .ref o2, .int (nI pa), .int (nI pt), .int (nI off), .int (nI ha), .long tr])), (o, .inr (0, [.ref r0, .ref r1, .ref r2, .ref r3, .ref r4])), (r0, .inr (1, [.ref q0, .int (nI n)])), (q0, .inl (cJ G, 23, .inr (.inl (fJ gw)))), (r1, .inr (1, [.ref q1, .int (nI n)])), (q1, .inl (cJ G, 23, .inr (.inl (fJ go)))), (r2, .inr (1, [.ref q2, .int (nI n)])), (q2, .inl (cJ G, 23, .inr (.inl (fJ gh))))] rfl rfl rfl (Nat.le_of_ble_eq_true rfl) dX3_rule_23 (fun H locs hw => ?_)
    refine x_ifb_eq E (P := 23 ≤ n) (tgt := 32) dX3_rule_26 (by decide) (fun c_2 => ?_) (fun c_2 => ?_)
    · exfalso; omega
    · refine lv_bipush (v := (-3 : Int32)) hx hb dX3_rule_29 (by decide) ?_
      exact hret (-3 : Int32) () _ _ _ _ dX3_rule_31 rfl rfl hw
  · exfalso; omega

abbrev rm_X3_rule_ok : Room := { frames := 3, cells := 0, slots := 0, locals := 70 }
set_option maxHeartbeats 4000000 in
set_option maxRecDepth 100000 in
theorem c_X3_rule_ok (l : Launch) (G : XG) (x : Nat) (tx : Nat) (o : Nat) (o1 : Nat) (o2 : Nat) (pa : Nat) (pt : Nat) (off : Nat) (ha : Nat) (tr : Int64) (r0 : Nat) (r1 : Nat) (r2 : Nat) (r3 : Nat) (r4 : Nat) (q0 : Nat) (q1 : Nat) (q2 : Nat) (n : Nat) (gw : Nat → Nat) (go : Nat → Nat) (gh : Nat → Nat) (hn : n ≤ 23) (hn3 : 3 ≤ n) (hpa : pa ≤ 63) (hgw : ∀ q, gw q < 1073741824) (hgo : ∀ q, go q < 1073741824) (hgh : ∀ q, gh q < 1073741824) (hin : gw (n - 1) % 1048576 = 0 ∧ 1 ≤ gw (n - 1) / 1048576 ∧ gw (n - 1) / 1048576 < pa) (hf : n < 23) : CfI l yX3_rule wsX3_rule rm_X3_rule_ok G [.ref x] [(x, .inr (3, [.ref tx, .ref o, .ref o1, .ref o2, .int (nI pa), .int (nI pt), .int (nI off), .int (nI ha), .long tr])), (o, .inr (0, [.ref r0, .ref r1, .ref r2, .ref r3, .ref r4])), (r0, .inr (1, [.ref q0, .int (nI n)])), (q0, .inl (cJ G, 23, .inr (.inl (fJ gw)))), (r1, .inr (1, [.ref q1, .int (nI n)])), (q1, .inl (cJ G, 23, .inr (.inl (fJ go)))), (r2, .inr (1, [.ref q2, .int (nI n)])), (q2, .inl (cJ G, 23, .inr (.inl (fJ gh))))] (nI (gw (n - 1) / 1048576 % 2)) [(x, .inr (3, [.ref tx, .ref o, .ref o1, .ref o2, .int (nI pa), .int (nI pt), .int (nI off), .int (nI ha), .long tr])), (o, .inr (0, [.ref r0, .ref r1, .ref r2, .ref r3, .ref r4])), (r0, .inr (1, [.ref q0, .int (nI (n + 1))])), (q0, .inl (cJ G, 23, .inr (.inl (fJ (mid gw n (gw (n - 1) / 1048576 % 2) (n - 1)))))), (r1, .inr (1, [.ref q1, .int (nI (n + 1))])), (q1, .inl (cJ G, 23, .inr (.inl (fJ (mid go n (gw (n - 1) / 1048576 % 2) (n - 1)))))), (r2, .inr (1, [.ref q2, .int (nI (n + 1))])), (q2, .inl (cJ G, 23, .inr (.inl (fJ (midH gh n (gw (n - 1) / 1048576 % 2) (n - 1))))))] := by
  refine CtI.go (cc := cX3_rule) (maxL := 4) RX3 rfl (by decide) rfl (Nat.le_of_ble_eq_true rfl) ?_
  intro p e s m args below meth c A Q ls E hw hl hret
  have hx := E.1
  have hb := E.2.1
  have hinX3 : ∀ w ∈ wsX30, w ∈ wsX3_rule := (fun w h => List.mem_cons_of_mem _ (List.mem_append_left _ (List.mem_append_left _ (List.mem_append_right _ h))))
  have hl : lv_has ls 4 [(0, .ref x)] := hl
  refine lv_aload_n hx hb dX3_rule_0 rfl (lv_at hl 0 rfl) ?_
  refine x_cfVi E hw hl.1 (As := []) (rest := []) (c_X3_latest l G x tx o o1 o2 pa pt off ha tr r0 r1 r2 r3 r4 q0 n (by omega) (by omega)) 0 gX3_rule_X3_latest rfl rfl rfl (by decide) ⟨Nat.le_of_ble_eq_true rfl, Nat.le_of_ble_eq_true rfl⟩ ⟨Nat.le_of_ble_eq_true rfl, Nat.le_of_ble_eq_true rfl⟩ rfl 0 (ci := 3) (C := RX3) (T := TX3) (N := 9) rfl rfl [0, 1, 2] [3, 4, 5, 6, 7] rfl rfl rfl rfl rfl [5, 6, 7, 0, 1, 2, 3, 4] [(x, .inr (3, [.ref tx, .ref o, .ref o1, .ref o2, .int (nI pa), .int (nI pt), .int (nI off), .int (nI ha), .long tr])), (o, .inr (0, [.ref r0, .ref r1, .ref r2, .ref r3, .ref r4])), (r0, .inr (1, [.ref q0, .int (nI n)])), (q0, .inl (cJ G, 23, .inr (.inl (fJ gw)))), (r1, .inr (1, [.ref q1, .int (nI n)])), (q1, .inl (cJ G, 23, .inr (.inl (fJ go)))), (r2, .inr (1, [.ref q2, .int (nI n)])), (q2, .inl (cJ G, 23, .inr (.inl (fJ gh))))] rfl rfl rfl (Nat.le_of_ble_eq_true rfl) dX3_rule_1 (fun H locs hw => ?_)
  refine lv_istore_n (lv' := [(1, .int (nI (n - 1))), (0, .ref x)]) hx hb dX3_rule_4 rfl hl (by decide) rfl (fun ls hl => ?_)
  have hm := hin.1
  refine lv_aload_n hx hb dX3_rule_5 rfl (lv_at hl 1 rfl) ?_
  refine lv_iload_n hx hb dX3_rule_6 rfl (lv_at hl 0 rfl) ?_
  refine x_cfVi E hw hl.1 (As := [.int (nI (n - 1))]) (rest := []) (c_X3_partOfY l G x tx o o1 o2 pa pt off ha tr r0 r1 r2 r3 r4 q0 n (n - 1) gw (by omega) (hgw _) (by assumption)) 1 gX3_rule_X3_partOf rfl rfl rfl (by decide) ⟨Nat.le_of_ble_eq_true rfl, Nat.le_of_ble_eq_true rfl⟩ ⟨Nat.le_of_ble_eq_true rfl, Nat.le_of_ble_eq_true rfl⟩ rfl 0 (ci := 3) (C := RX3) (T := TX3) (N := 9) rfl rfl [0, 1, 2, 3] [4, 5, 6, 7] rfl rfl rfl rfl rfl [4, 5, 6, 7, 0, 1, 2, 3] [(x, .inr (3, [.ref tx, .ref o, .ref o1, .ref o2, .int (nI pa), .int (nI pt), .int (nI off), .int (nI ha), .long tr])), (o, .inr (0, [.ref r0, .ref r1, .ref r2, .ref r3, .ref r4])), (r0, .inr (1, [.ref q0, .int (nI n)])), (q0, .inl (cJ G, 23, .inr (.inl (fJ gw)))), (r1, .inr (1, [.ref q1, .int (nI n)])), (q1, .inl (cJ G, 23, .inr (.inl (fJ go)))), (r2, .inr (1, [.ref q2, .int (nI n)])), (q2, .inl (cJ G, 23, .inr (.inl (fJ gh))))] rfl rfl rfl (Nat.le_of_ble_eq_true rfl) dX3_rule_7 (fun H locs hw => ?_)
  refine lv_istore_n (lv' := [(2, .int (nI (gw (n - 1) / 1048576))), (1, .int (nI (n - 1))), (0, .ref x)]) hx hb dX3_rule_10 rfl hl (by decide) rfl (fun ls hl => ?_)
  refine lv_aload_n hx hb dX3_rule_11 rfl (lv_at hl 2 rfl) ?_
  refine lv_iload_n hx hb dX3_rule_12 rfl (lv_at hl 0 rfl) ?_
  refine x_cfVi E hw hl.1 (As := [.int (nI (gw (n - 1) / 1048576))]) (rest := []) (c_X3_isInnerN l G x tx o o1 o2 pa pt off ha tr (gw (n - 1) / 1048576) (by omega) (by have := hgw (n - 1); omega)) 1 gX3_rule_X3_isInner rfl rfl rfl (by decide) ⟨Nat.le_of_ble_eq_true rfl, Nat.le_of_ble_eq_true rfl⟩ ⟨Nat.le_of_ble_eq_true rfl, Nat.le_of_ble_eq_true rfl⟩ rfl 0 (ci := 3) (C := RX3) (T := TX3) (N := 9) rfl rfl [0] [1, 2, 3, 4, 5, 6, 7] rfl rfl rfl rfl rfl [7, 0, 1, 2, 3, 4, 5, 6] [(x, .inr (3, [.ref tx, .ref o, .ref o1, .ref o2, .int (nI pa), .int (nI pt), .int (nI off), .int (nI ha), .long tr])), (o, .inr (0, [.ref r0, .ref r1, .ref r2, .ref r3, .ref r4])), (r0, .inr (1, [.ref q0, .int (nI n)])), (q0, .inl (cJ G, 23, .inr (.inl (fJ gw)))), (r1, .inr (1, [.ref q1, .int (nI n)])), (q1, .inl (cJ G, 23, .inr (.inl (fJ go)))), (r2, .inr (1, [.ref q2, .int (nI n)])), (q2, .inl (cJ G, 23, .inr (.inl (fJ gh))))] rfl rfl rfl (Nat.le_of_ble_eq_true rfl) dX3_rule_13 (fun H locs hw => ?_)
  refine x_ifb_ne E (P := 1 ≤ (gw (n - 1) / 1048576) ∧ (gw (n - 1) / 1048576) < pa) (tgt := 22) dX3_rule_16 (by decide) (fun c_1 => ?_) (fun c_1 => ?_)
  · refine lv_aload_n hx hb dX3_rule_22 rfl (lv_at hl 2 rfl) ?_
    refine x_cfVi E hw hl.1 (As := []) (rest := []) (c_X3_isFolded l G x tx o o1 o2 pa pt off ha tr r0 r1 r2 r3 r4 q0 n (by omega)) 0 gX3_rule_X3_isFolded rfl rfl rfl (by decide) ⟨Nat.le_of_ble_eq_true rfl, Nat.le_of_ble_eq_true rfl⟩ ⟨Nat.le_of_ble_eq_true rfl, Nat.le_of_ble_eq_true rfl⟩ rfl 0 (ci := 3) (C := RX3) (T := TX3) (N := 9) rfl rfl [0, 1, 2] [3, 4, 5, 6, 7] rfl rfl rfl rfl rfl [5, 6, 7, 0, 1, 2, 3, 4] [(x, .inr (3, [.ref tx, .ref o, .ref o1, .ref o2, .int (nI pa), .int (nI pt), .int (nI off), .int (nI ha), .long tr])), (o, .inr (0, [.ref r0, .ref r1, .ref r2, .ref r3, .ref r4])), (r0, .inr (1, [.ref q0, .int (nI n)])), (q0, .inl (cJ G, 23, .inr (.inl (fJ gw)))), (r1, .inr (1, [.ref q1, .int (nI n)])), (q1, .inl (cJ G, 23, .inr (.inl (fJ go)))), (r2, .inr (1, [.ref q2, .int (nI n)])), (q2, .inl (cJ G, 23, .inr (.inl (fJ gh))))] rfl rfl rfl (Nat.le_of_ble_eq_true rfl) dX3_rule_23 (fun H locs hw => ?_)
    refine x_ifb_eq E (P := 23 ≤ n) (tgt := 32) dX3_rule_26 (by decide) (fun c_2 => ?_) (fun c_2 => ?_)
    · refine lv_iload_n hx hb dX3_rule_32 rfl (lv_at hl 0 rfl) ?_
      refine x_cfSi E hw hl.1 (As := [.int (nI (gw (n - 1) / 1048576))]) (rest := []) (c_X3_sideAt l G (gw (n - 1) / 1048576) (by have := hgw (n - 1); omega)) 1 gX3_rule_X3_sideAt rfl rfl rfl (by decide) ⟨Nat.le_of_ble_eq_true rfl, Nat.le_of_ble_eq_true rfl⟩ ⟨Nat.le_of_ble_eq_true rfl, Nat.le_of_ble_eq_true rfl⟩ rfl [] [0, 1, 2, 3, 4, 5, 6, 7] rfl rfl rfl rfl rfl [0, 1, 2, 3, 4, 5, 6, 7] [(x, .inr (3, [.ref tx, .ref o, .ref o1, .ref o2, .int (nI pa), .int (nI pt), .int (nI off), .int (nI ha), .long tr])), (o, .inr (0, [.ref r0, .ref r1, .ref r2, .ref r3, .ref r4])), (r0, .inr (1, [.ref q0, .int (nI n)])), (q0, .inl (cJ G, 23, .inr (.inl (fJ gw)))), (r1, .inr (1, [.ref q1, .int (nI n)])), (q1, .inl (cJ G, 23, .inr (.inl (fJ go)))), (r2, .inr (1, [.ref q2, .int (nI n)])), (q2, .inl (cJ G, 23, .inr (.inl (fJ gh))))] rfl rfl rfl (Nat.le_of_ble_eq_true rfl) dX3_rule_33 (fun H locs hw => ?_)
      refine lv_istore_n (lv' := [(3, .int (nI ((gw (n - 1) / 1048576) % 2))), (2, .int (nI (gw (n - 1) / 1048576))), (1, .int (nI (n - 1))), (0, .ref x)]) hx hb dX3_rule_36 rfl hl (by decide) rfl (fun ls hl => ?_)
      refine lv_aload_n hx hb dX3_rule_37 rfl (lv_at hl 3 rfl) ?_
      refine x_get E hw (C := RX3) (T := TX3) (N := 9) hinX3 0 rfl rfl 1 (by decide) rfl (List.mem_of_getElem? (i := 1) rfl) dX3_rule_38 ?_
      refine lv_iload_n hx hb dX3_rule_41 rfl (lv_at hl 0 rfl) ?_
      refine x_if_ne E (nI_toI (show (gw (n - 1) / 1048576) % 2 < 2147483648 by omega)) (tgt := 49) dX3_rule_42 (by decide) (fun c_3 => ?_) (fun c_3 => ?_)
      · have hsd : 1 = gw (n - 1) / 1048576 % 2 := by omega
        refine lv_iconst (v := (nI 1)) hx hb dX3_rule_49 (by decide) ?_
        refine x_topi (v := nI (gw (n - 1) / 1048576 % 2)) (by rw [← hsd]) ?_
        refine lv_iload_n hx hb dX3_rule_50 rfl (lv_at hl 2 rfl) ?_
        refine x_cfVv E hw hl.1 (As := [.int (nI (gw (n - 1) / 1048576 % 2)), .int (nI (n - 1))]) (rest := []) (c_X0_bring l G o r0 r1 r2 r3 r4 q0 q1 q2 n (gw (n - 1) / 1048576 % 2) (n - 1) gw go gh (by omega) (by omega) (by omega) (x_sumlt (hgw (gw (n - 1) / 1048576 % 2)) (hgw (n - 1))) (x_sumlt (hgo (gw (n - 1) / 1048576 % 2)) (hgo (n - 1))) (x_sumlt (hgh (gw (n - 1) / 1048576 % 2)) (hgh (n - 1)))) 2 gX3_rule_X0_bring rfl rfl rfl (by decide) ⟨Nat.le_of_ble_eq_true rfl, Nat.le_of_ble_eq_true rfl⟩ ⟨Nat.le_of_ble_eq_true rfl, Nat.le_of_ble_eq_true rfl⟩ rfl 1 (ci := 0) (C := RX0) (T := TX0) (N := 5) rfl rfl [1, 2, 3, 4, 5, 6, 7] [0] rfl rfl rfl rfl rfl [0, 1, 2, 3, 4, 5, 6, 7] [(x, .inr (3, [.ref tx, .ref o, .ref o1, .ref o2, .int (nI pa), .int (nI pt), .int (nI off), .int (nI ha), .long tr])), (o, .inr (0, [.ref r0, .ref r1, .ref r2, .ref r3, .ref r4])), (r0, .inr (1, [.ref q0, .int (nI (n + 1))])), (q0, .inl (cJ G, 23, .inr (.inl (fJ (mid gw n (gw (n - 1) / 1048576 % 2) (n - 1)))))), (r1, .inr (1, [.ref q1, .int (nI (n + 1))])), (q1, .inl (cJ G, 23, .inr (.inl (fJ (mid go n (gw (n - 1) / 1048576 % 2) (n - 1)))))), (r2, .inr (1, [.ref q2, .int (nI (n + 1))])), (q2, .inl (cJ G, 23, .inr (.inl (fJ (midH gh n (gw (n - 1) / 1048576 % 2) (n - 1))))))] rfl rfl rfl (Nat.le_of_ble_eq_true rfl) dX3_rule_51 (fun H locs hw => ?_)
        refine lv_iload_n hx hb dX3_rule_54 rfl (lv_at hl 0 rfl) ?_
        exact hret (nI ((gw (n - 1) / 1048576) % 2)) () _ _ _ _ dX3_rule_55 rfl rfl hw
      · have hsd : 0 = gw (n - 1) / 1048576 % 2 := by omega
        refine lv_iconst (v := (nI 0)) hx hb dX3_rule_45 (by decide) ?_
        refine lv_goto (tgt := 50) hx hb dX3_rule_46 (by decide) ?_
        refine x_topi (v := nI (gw (n - 1) / 1048576 % 2)) (by rw [← hsd]) ?_
        refine lv_iload_n hx hb dX3_rule_50 rfl (lv_at hl 2 rfl) ?_
        refine x_cfVv E hw hl.1 (As := [.int (nI (gw (n - 1) / 1048576 % 2)), .int (nI (n - 1))]) (rest := []) (c_X0_bring l G o r0 r1 r2 r3 r4 q0 q1 q2 n (gw (n - 1) / 1048576 % 2) (n - 1) gw go gh (by omega) (by omega) (by omega) (x_sumlt (hgw (gw (n - 1) / 1048576 % 2)) (hgw (n - 1))) (x_sumlt (hgo (gw (n - 1) / 1048576 % 2)) (hgo (n - 1))) (x_sumlt (hgh (gw (n - 1) / 1048576 % 2)) (hgh (n - 1)))) 2 gX3_rule_X0_bring rfl rfl rfl (by decide) ⟨Nat.le_of_ble_eq_true rfl, Nat.le_of_ble_eq_true rfl⟩ ⟨Nat.le_of_ble_eq_true rfl, Nat.le_of_ble_eq_true rfl⟩ rfl 1 (ci := 0) (C := RX0) (T := TX0) (N := 5) rfl rfl [1, 2, 3, 4, 5, 6, 7] [0] rfl rfl rfl rfl rfl [0, 1, 2, 3, 4, 5, 6, 7] [(x, .inr (3, [.ref tx, .ref o, .ref o1, .ref o2, .int (nI pa), .int (nI pt), .int (nI off), .int (nI ha), .long tr])), (o, .inr (0, [.ref r0, .ref r1, .ref r2, .ref r3, .ref r4])), (r0, .inr (1, [.ref q0, .int (nI (n + 1))])), (q0, .inl (cJ G, 23, .inr (.inl (fJ (mid gw n (gw (n - 1) / 1048576 % 2) (n - 1)))))), (r1, .inr (1, [.ref q1, .int (nI (n + 1))])), (q1, .inl (cJ G, 23, .inr (.inl (fJ (mid go n (gw (n - 1) / 1048576 % 2) (n - 1)))))), (r2, .inr (1, [.ref q2, .int (nI (n + 1))])), (q2, .inl (cJ G, 23, .inr (.inl (fJ (midH gh n (gw (n - 1) / 1048576 % 2) (n - 1))))))] rfl rfl rfl (Nat.le_of_ble_eq_true rfl) dX3_rule_51 (fun H locs hw => ?_)
        refine lv_iload_n hx hb dX3_rule_54 rfl (lv_at hl 0 rfl) ?_
        exact hret (nI ((gw (n - 1) / 1048576) % 2)) () _ _ _ _ dX3_rule_55 rfl rfl hw
    · exfalso; omega
  · exfalso; omega

abbrev rm_X3_undo_state : Room := { frames := 2, cells := 0, slots := 0, locals := 40 }
set_option maxHeartbeats 4000000 in
set_option maxRecDepth 100000 in
theorem c_X3_undo_state (l : Launch) (G : XG) (x : Nat) (tx : Nat) (o : Nat) (o1 : Nat) (o2 : Nat) (pa : Nat) (pt : Nat) (off : Nat) (ha : Nat) (tr : Int64) (r0 : Nat) (r1 : Nat) (r2 : Nat) (r3 : Nat) (r4 : Nat) (q0 : Nat) (q1 : Nat) (q2 : Nat) (n : Nat) (hn : n ≤ 3) : CfI l yX3_undo wsX3_undo rm_X3_undo_state G [.ref x] [(x, .inr (3, [.ref tx, .ref o, .ref o1, .ref o2, .int (nI pa), .int (nI pt), .int (nI off), .int (nI ha), .long tr])), (o, .inr (0, [.ref r0, .ref r1, .ref r2, .ref r3, .ref r4])), (r0, .inr (1, [.ref q0, .int (nI n)])), (r1, .inr (1, [.ref q1, .int (nI n)])), (r2, .inr (1, [.ref q2, .int (nI n)]))] (-2 : Int32) [(x, .inr (3, [.ref tx, .ref o, .ref o1, .ref o2, .int (nI pa), .int (nI pt), .int (nI off), .int (nI ha), .long tr])), (o, .inr (0, [.ref r0, .ref r1, .ref r2, .ref r3, .ref r4])), (r0, .inr (1, [.ref q0, .int (nI n)])), (r1, .inr (1, [.ref q1, .int (nI n)])), (r2, .inr (1, [.ref q2, .int (nI n)]))] := by
  refine CtI.go (cc := cX3_undo) (maxL := 1) RX3 rfl (by decide) rfl (Nat.le_of_ble_eq_true rfl) ?_
  intro p e s m args below meth c A Q ls E hw hl hret
  have hx := E.1
  have hb := E.2.1
  have hinX3 : ∀ w ∈ wsX30, w ∈ wsX3_undo := (fun w h => List.mem_cons_of_mem _ (List.mem_append_left _ (List.mem_append_left _ (List.mem_append_right _ h))))
  have hl : lv_has ls 1 [(0, .ref x)] := hl
  refine lv_aload_n hx hb dX3_undo_0 rfl (lv_at hl 0 rfl) ?_
  refine x_get E hw (C := RX3) (T := TX3) (N := 9) hinX3 0 rfl rfl 1 (by decide) rfl (List.mem_of_getElem? (i := 1) rfl) dX3_undo_1 ?_
  refine x_cfVi E hw hl.1 (As := []) (rest := []) (c_X0_creases l G o r0 r1 r2 r3 r4 q0 n) 0 gX3_undo_X0_creases rfl rfl rfl (by decide) ⟨Nat.le_of_ble_eq_true rfl, Nat.le_of_ble_eq_true rfl⟩ ⟨Nat.le_of_ble_eq_true rfl, Nat.le_of_ble_eq_true rfl⟩ rfl 1 (ci := 0) (C := RX0) (T := TX0) (N := 5) rfl rfl [1, 2] [0, 3, 4] rfl rfl rfl rfl rfl [0, 3, 4, 1, 2] [(x, .inr (3, [.ref tx, .ref o, .ref o1, .ref o2, .int (nI pa), .int (nI pt), .int (nI off), .int (nI ha), .long tr])), (o, .inr (0, [.ref r0, .ref r1, .ref r2, .ref r3, .ref r4])), (r0, .inr (1, [.ref q0, .int (nI n)])), (r1, .inr (1, [.ref q1, .int (nI n)])), (r2, .inr (1, [.ref q2, .int (nI n)]))] rfl rfl rfl (Nat.le_of_ble_eq_true rfl) dX3_undo_4 (fun H locs hw => ?_)
  refine lv_iconst (v := (nI 3)) hx hb dX3_undo_7 (by decide) ?_
  refine x_icmp_gt E (nI_toI (show n < 2147483648 by omega)) (nI_toI (by decide)) (tgt := 14) dX3_undo_8 (by decide) (fun c_1 => ?_) (fun c_1 => ?_)
  · exfalso; omega
  · refine lv_bipush (v := (-2 : Int32)) hx hb dX3_undo_11 (by decide) ?_
    exact hret (-2 : Int32) () _ _ _ _ dX3_undo_13 rfl rfl hw

abbrev rm_X3_undo_ok : Room := { frames := 3, cells := 0, slots := 0, locals := 61 }
set_option maxHeartbeats 4000000 in
set_option maxRecDepth 100000 in
theorem c_X3_undo_ok (l : Launch) (G : XG) (x : Nat) (tx : Nat) (o : Nat) (o1 : Nat) (o2 : Nat) (pa : Nat) (pt : Nat) (off : Nat) (ha : Nat) (tr : Int64) (r0 : Nat) (r1 : Nat) (r2 : Nat) (r3 : Nat) (r4 : Nat) (q0 : Nat) (q1 : Nat) (q2 : Nat) (n : Nat) (hn : 3 < n) (hn2 : n ≤ 23) : CfI l yX3_undo wsX3_undo rm_X3_undo_ok G [.ref x] [(x, .inr (3, [.ref tx, .ref o, .ref o1, .ref o2, .int (nI pa), .int (nI pt), .int (nI off), .int (nI ha), .long tr])), (o, .inr (0, [.ref r0, .ref r1, .ref r2, .ref r3, .ref r4])), (r0, .inr (1, [.ref q0, .int (nI n)])), (r1, .inr (1, [.ref q1, .int (nI n)])), (r2, .inr (1, [.ref q2, .int (nI n)]))] (nI (n - 1)) [(x, .inr (3, [.ref tx, .ref o, .ref o1, .ref o2, .int (nI pa), .int (nI pt), .int (nI off), .int (nI ha), .long tr])), (o, .inr (0, [.ref r0, .ref r1, .ref r2, .ref r3, .ref r4])), (r0, .inr (1, [.ref q0, .int (nI (n - 1))])), (r1, .inr (1, [.ref q1, .int (nI (n - 1))])), (r2, .inr (1, [.ref q2, .int (nI (n - 1))]))] := by
  refine CtI.go (cc := cX3_undo) (maxL := 1) RX3 rfl (by decide) rfl (Nat.le_of_ble_eq_true rfl) ?_
  intro p e s m args below meth c A Q ls E hw hl hret
  have hx := E.1
  have hb := E.2.1
  have hinX3 : ∀ w ∈ wsX30, w ∈ wsX3_undo := (fun w h => List.mem_cons_of_mem _ (List.mem_append_left _ (List.mem_append_left _ (List.mem_append_right _ h))))
  have hl : lv_has ls 1 [(0, .ref x)] := hl
  refine lv_aload_n hx hb dX3_undo_0 rfl (lv_at hl 0 rfl) ?_
  refine x_get E hw (C := RX3) (T := TX3) (N := 9) hinX3 0 rfl rfl 1 (by decide) rfl (List.mem_of_getElem? (i := 1) rfl) dX3_undo_1 ?_
  refine x_cfVi E hw hl.1 (As := []) (rest := []) (c_X0_creases l G o r0 r1 r2 r3 r4 q0 n) 0 gX3_undo_X0_creases rfl rfl rfl (by decide) ⟨Nat.le_of_ble_eq_true rfl, Nat.le_of_ble_eq_true rfl⟩ ⟨Nat.le_of_ble_eq_true rfl, Nat.le_of_ble_eq_true rfl⟩ rfl 1 (ci := 0) (C := RX0) (T := TX0) (N := 5) rfl rfl [1, 2] [0, 3, 4] rfl rfl rfl rfl rfl [0, 3, 4, 1, 2] [(x, .inr (3, [.ref tx, .ref o, .ref o1, .ref o2, .int (nI pa), .int (nI pt), .int (nI off), .int (nI ha), .long tr])), (o, .inr (0, [.ref r0, .ref r1, .ref r2, .ref r3, .ref r4])), (r0, .inr (1, [.ref q0, .int (nI n)])), (r1, .inr (1, [.ref q1, .int (nI n)])), (r2, .inr (1, [.ref q2, .int (nI n)]))] rfl rfl rfl (Nat.le_of_ble_eq_true rfl) dX3_undo_4 (fun H locs hw => ?_)
  refine lv_iconst (v := (nI 3)) hx hb dX3_undo_7 (by decide) ?_
  refine x_icmp_gt E (nI_toI (show n < 2147483648 by omega)) (nI_toI (by decide)) (tgt := 14) dX3_undo_8 (by decide) (fun c_1 => ?_) (fun c_1 => ?_)
  · refine lv_aload_n hx hb dX3_undo_14 rfl (lv_at hl 0 rfl) ?_
    refine x_get E hw (C := RX3) (T := TX3) (N := 9) hinX3 0 rfl rfl 1 (by decide) rfl (List.mem_of_getElem? (i := 1) rfl) dX3_undo_15 ?_
    refine x_cfVv E hw hl.1 (As := []) (rest := []) (c_X0_unfold l G o r0 r1 r2 r3 r4 q0 q1 q2 n (by omega) (by omega)) 0 gX3_undo_X0_unfold rfl rfl rfl (by decide) ⟨Nat.le_of_ble_eq_true rfl, Nat.le_of_ble_eq_true rfl⟩ ⟨Nat.le_of_ble_eq_true rfl, Nat.le_of_ble_eq_true rfl⟩ rfl 1 (ci := 0) (C := RX0) (T := TX0) (N := 5) rfl rfl [1, 2, 3, 4] [0] rfl rfl rfl rfl rfl [0, 1, 2, 3, 4] [(x, .inr (3, [.ref tx, .ref o, .ref o1, .ref o2, .int (nI pa), .int (nI pt), .int (nI off), .int (nI ha), .long tr])), (o, .inr (0, [.ref r0, .ref r1, .ref r2, .ref r3, .ref r4])), (r0, .inr (1, [.ref q0, .int (nI (n - 1))])), (r1, .inr (1, [.ref q1, .int (nI (n - 1))])), (r2, .inr (1, [.ref q2, .int (nI (n - 1))]))] rfl rfl rfl (Nat.le_of_ble_eq_true rfl) dX3_undo_18 (fun H locs hw => ?_)
    refine lv_aload_n hx hb dX3_undo_21 rfl (lv_at hl 0 rfl) ?_
    refine x_get E hw (C := RX3) (T := TX3) (N := 9) hinX3 0 rfl rfl 1 (by decide) rfl (List.mem_of_getElem? (i := 1) rfl) dX3_undo_22 ?_
    refine x_cfVi E hw hl.1 (As := []) (rest := []) (c_X0_creases l G o r0 r1 r2 r3 r4 q0 (n - 1)) 0 gX3_undo_X0_creases rfl rfl rfl (by decide) ⟨Nat.le_of_ble_eq_true rfl, Nat.le_of_ble_eq_true rfl⟩ ⟨Nat.le_of_ble_eq_true rfl, Nat.le_of_ble_eq_true rfl⟩ rfl 1 (ci := 0) (C := RX0) (T := TX0) (N := 5) rfl rfl [1, 2] [0, 3, 4] rfl rfl rfl rfl rfl [0, 3, 4, 1, 2] [(x, .inr (3, [.ref tx, .ref o, .ref o1, .ref o2, .int (nI pa), .int (nI pt), .int (nI off), .int (nI ha), .long tr])), (o, .inr (0, [.ref r0, .ref r1, .ref r2, .ref r3, .ref r4])), (r0, .inr (1, [.ref q0, .int (nI (n - 1))])), (r1, .inr (1, [.ref q1, .int (nI (n - 1))])), (r2, .inr (1, [.ref q2, .int (nI (n - 1))]))] rfl rfl rfl (Nat.le_of_ble_eq_true rfl) dX3_undo_25 (fun H locs hw => ?_)
    exact hret (nI (n - 1)) () _ _ _ _ dX3_undo_28 rfl rfl hw
  · exfalso; omega

abbrev rm_X3_letter_bad : Room := { frames := 0, cells := 0, slots := 0, locals := 0 }
set_option maxHeartbeats 4000000 in
set_option maxRecDepth 100000 in
theorem c_X3_letter_bad (l : Launch) (G : XG) (x : Nat) (tx : Nat) (o : Nat) (o1 : Nat) (o2 : Nat) (pa : Nat) (pt : Nat) (off : Nat) (ha : Nat) (tr : Int64) (r0 : Nat) (r1 : Nat) (r2 : Nat) (r3 : Nat) (r4 : Nat) (q3 : Nat) (nl : Nat) (gl : Nat → Nat) (j : Int32) (hbad : ¬ (0 ≤ j.toInt ∧ j.toInt ≤ 1)) : CfI l yX3_letter wsX3_letter rm_X3_letter_bad G [.ref x, .int j] [(x, .inr (3, [.ref tx, .ref o, .ref o1, .ref o2, .int (nI pa), .int (nI pt), .int (nI off), .int (nI ha), .long tr])), (o, .inr (0, [.ref r0, .ref r1, .ref r2, .ref r3, .ref r4])), (r3, .inr (1, [.ref q3, .int (nI nl)])), (q3, .inl (cJ G, 12, .inr (.inl (fJ gl))))] (-1 : Int32) [(x, .inr (3, [.ref tx, .ref o, .ref o1, .ref o2, .int (nI pa), .int (nI pt), .int (nI off), .int (nI ha), .long tr])), (o, .inr (0, [.ref r0, .ref r1, .ref r2, .ref r3, .ref r4])), (r3, .inr (1, [.ref q3, .int (nI nl)])), (q3, .inl (cJ G, 12, .inr (.inl (fJ gl))))] := by
  refine CtI.go (cc := cX3_letter) (maxL := 2) RX3 rfl (by decide) rfl (Nat.le_of_ble_eq_true rfl) ?_
  intro p e s m args below meth c A Q ls E hw hl hret
  have hx := E.1
  have hb := E.2.1
  have hl : lv_has ls 2 [(0, .ref x), (1, .int j)] := hl
  refine lv_iload_n hx hb dX3_letter_0 rfl (lv_at hl 1 rfl) ?_
  refine x_if_eq E rfl (tgt := 11) dX3_letter_1 (by decide) (fun c_1 => ?_) (fun c_1 => ?_)
  · exfalso; omega
  · refine lv_iload_n hx hb dX3_letter_4 rfl (lv_at hl 1 rfl) ?_
    refine lv_iconst (v := (nI 1)) hx hb dX3_letter_5 (by decide) ?_
    refine x_icmp_eq E rfl (nI_toI (by decide)) (tgt := 11) dX3_letter_6 (by decide) (fun c_2 => ?_) (fun c_2 => ?_)
    · exfalso; omega
    · refine lv_iconst (v := (-1 : Int32)) hx hb dX3_letter_9 (by decide) ?_
      exact hret (-1 : Int32) () _ _ _ _ dX3_letter_10 rfl rfl hw

abbrev rm_X3_letter_full : Room := { frames := 1, cells := 0, slots := 0, locals := 21 }
set_option maxHeartbeats 4000000 in
set_option maxRecDepth 100000 in
theorem c_X3_letter_full (l : Launch) (G : XG) (x : Nat) (tx : Nat) (o : Nat) (o1 : Nat) (o2 : Nat) (pa : Nat) (pt : Nat) (off : Nat) (ha : Nat) (tr : Int64) (r0 : Nat) (r1 : Nat) (r2 : Nat) (r3 : Nat) (r4 : Nat) (q3 : Nat) (nl : Nat) (gl : Nat → Nat) (j : Nat) (hj : j ≤ 1) (hf : nl = 12) : CfI l yX3_letter wsX3_letter rm_X3_letter_full G [.ref x, .int (nI j)] [(x, .inr (3, [.ref tx, .ref o, .ref o1, .ref o2, .int (nI pa), .int (nI pt), .int (nI off), .int (nI ha), .long tr])), (o, .inr (0, [.ref r0, .ref r1, .ref r2, .ref r3, .ref r4])), (r3, .inr (1, [.ref q3, .int (nI nl)])), (q3, .inl (cJ G, 12, .inr (.inl (fJ gl))))] (-3 : Int32) [(x, .inr (3, [.ref tx, .ref o, .ref o1, .ref o2, .int (nI pa), .int (nI pt), .int (nI off), .int (nI ha), .long tr])), (o, .inr (0, [.ref r0, .ref r1, .ref r2, .ref r3, .ref r4])), (r3, .inr (1, [.ref q3, .int (nI nl)])), (q3, .inl (cJ G, 12, .inr (.inl (fJ gl))))] := by
  refine CtI.go (cc := cX3_letter) (maxL := 2) RX3 rfl (by decide) rfl (Nat.le_of_ble_eq_true rfl) ?_
  intro p e s m args below meth c A Q ls E hw hl hret
  have hx := E.1
  have hb := E.2.1
  have hinX0 : ∀ w ∈ wsX00, w ∈ wsX3_letter := (fun w h => List.mem_cons_of_mem _ (List.mem_append_left _ (List.mem_append_right _ h)))
  have hinX3 : ∀ w ∈ wsX30, w ∈ wsX3_letter := (fun w h => List.mem_cons_of_mem _ (List.mem_append_left _ (List.mem_append_left _ (List.mem_append_right _ h))))
  have hl : lv_has ls 2 [(0, .ref x), (1, .int (nI j))] := hl
  refine lv_iload_n hx hb dX3_letter_0 rfl (lv_at hl 1 rfl) ?_
  refine x_if_eq E (nI_toI (show j < 2147483648 by omega)) (tgt := 11) dX3_letter_1 (by decide) (fun c_1 => ?_) (fun c_1 => ?_)
  · refine lv_aload_n hx hb dX3_letter_11 rfl (lv_at hl 0 rfl) ?_
    refine x_get E hw (C := RX3) (T := TX3) (N := 9) hinX3 0 rfl rfl 1 (by decide) rfl (List.mem_of_getElem? (i := 1) rfl) dX3_letter_12 ?_
    refine x_getN E hw (C := RX0) (T := TX0) (N := 5) hinX0 1 rfl rfl 3 (by decide) rfl (List.mem_of_getElem? (i := 11) rfl) dX3_letter_15 ?_
    refine lv_iconst (v := (nI 1)) hx hb dX3_letter_18 (by decide) ?_
    refine x_cfVi E hw hl.1 (As := [.int (nI 1)]) (rest := []) (c_X1_hasRoom l G r3 q3 nl 12 1 gl (by omega) (by omega)) 1 gX3_letter_X1_hasRoom rfl rfl rfl (by decide) ⟨Nat.le_of_ble_eq_true rfl, Nat.le_of_ble_eq_true rfl⟩ ⟨Nat.le_of_ble_eq_true rfl, Nat.le_of_ble_eq_true rfl⟩ rfl 2 (ci := 1) (C := RX1) (T := TX1) (N := 2) rfl rfl [2, 3] [0, 1] rfl rfl rfl rfl rfl [0, 1, 2, 3] [(x, .inr (3, [.ref tx, .ref o, .ref o1, .ref o2, .int (nI pa), .int (nI pt), .int (nI off), .int (nI ha), .long tr])), (o, .inr (0, [.ref r0, .ref r1, .ref r2, .ref r3, .ref r4])), (r3, .inr (1, [.ref q3, .int (nI nl)])), (q3, .inl (cJ G, 12, .inr (.inl (fJ gl))))] rfl rfl rfl (Nat.le_of_ble_eq_true rfl) dX3_letter_19 (fun H locs hw => ?_)
    refine x_ifb_ne E (P := nl + 1 ≤ 12) (tgt := 28) dX3_letter_22 (by decide) (fun c_2 => ?_) (fun c_2 => ?_)
    · exfalso; omega
    · refine lv_bipush (v := (-3 : Int32)) hx hb dX3_letter_25 (by decide) ?_
      exact hret (-3 : Int32) () _ _ _ _ dX3_letter_27 rfl rfl hw
  · refine lv_iload_n hx hb dX3_letter_4 rfl (lv_at hl 1 rfl) ?_
    refine lv_iconst (v := (nI 1)) hx hb dX3_letter_5 (by decide) ?_
    refine x_icmp_eq E (nI_toI (show j < 2147483648 by omega)) (nI_toI (by decide)) (tgt := 11) dX3_letter_6 (by decide) (fun c_3 => ?_) (fun c_3 => ?_)
    · refine lv_aload_n hx hb dX3_letter_11 rfl (lv_at hl 0 rfl) ?_
      refine x_get E hw (C := RX3) (T := TX3) (N := 9) hinX3 0 rfl rfl 1 (by decide) rfl (List.mem_of_getElem? (i := 1) rfl) dX3_letter_12 ?_
      refine x_getN E hw (C := RX0) (T := TX0) (N := 5) hinX0 1 rfl rfl 3 (by decide) rfl (List.mem_of_getElem? (i := 11) rfl) dX3_letter_15 ?_
      refine lv_iconst (v := (nI 1)) hx hb dX3_letter_18 (by decide) ?_
      refine x_cfVi E hw hl.1 (As := [.int (nI 1)]) (rest := []) (c_X1_hasRoom l G r3 q3 nl 12 1 gl (by omega) (by omega)) 1 gX3_letter_X1_hasRoom rfl rfl rfl (by decide) ⟨Nat.le_of_ble_eq_true rfl, Nat.le_of_ble_eq_true rfl⟩ ⟨Nat.le_of_ble_eq_true rfl, Nat.le_of_ble_eq_true rfl⟩ rfl 2 (ci := 1) (C := RX1) (T := TX1) (N := 2) rfl rfl [2, 3] [0, 1] rfl rfl rfl rfl rfl [0, 1, 2, 3] [(x, .inr (3, [.ref tx, .ref o, .ref o1, .ref o2, .int (nI pa), .int (nI pt), .int (nI off), .int (nI ha), .long tr])), (o, .inr (0, [.ref r0, .ref r1, .ref r2, .ref r3, .ref r4])), (r3, .inr (1, [.ref q3, .int (nI nl)])), (q3, .inl (cJ G, 12, .inr (.inl (fJ gl))))] rfl rfl rfl (Nat.le_of_ble_eq_true rfl) dX3_letter_19 (fun H locs hw => ?_)
      refine x_ifb_ne E (P := nl + 1 ≤ 12) (tgt := 28) dX3_letter_22 (by decide) (fun c_4 => ?_) (fun c_4 => ?_)
      · exfalso; omega
      · refine lv_bipush (v := (-3 : Int32)) hx hb dX3_letter_25 (by decide) ?_
        exact hret (-3 : Int32) () _ _ _ _ dX3_letter_27 rfl rfl hw
    · exfalso; omega

abbrev rm_X3_letter_ok : Room := { frames := 1, cells := 0, slots := 0, locals := 22 }
set_option maxHeartbeats 4000000 in
set_option maxRecDepth 100000 in
theorem c_X3_letter_ok (l : Launch) (G : XG) (x : Nat) (tx : Nat) (o : Nat) (o1 : Nat) (o2 : Nat) (pa : Nat) (pt : Nat) (off : Nat) (ha : Nat) (tr : Int64) (r0 : Nat) (r1 : Nat) (r2 : Nat) (r3 : Nat) (r4 : Nat) (q3 : Nat) (nl : Nat) (gl : Nat → Nat) (j : Nat) (hj : j ≤ 1) (hf : nl < 12) : CfI l yX3_letter wsX3_letter rm_X3_letter_ok G [.ref x, .int (nI j)] [(x, .inr (3, [.ref tx, .ref o, .ref o1, .ref o2, .int (nI pa), .int (nI pt), .int (nI off), .int (nI ha), .long tr])), (o, .inr (0, [.ref r0, .ref r1, .ref r2, .ref r3, .ref r4])), (r3, .inr (1, [.ref q3, .int (nI nl)])), (q3, .inl (cJ G, 12, .inr (.inl (fJ gl))))] (nI (nl + 1)) [(x, .inr (3, [.ref tx, .ref o, .ref o1, .ref o2, .int (nI pa), .int (nI pt), .int (nI off), .int (nI ha), .long tr])), (o, .inr (0, [.ref r0, .ref r1, .ref r2, .ref r3, .ref r4])), (r3, .inr (1, [.ref q3, .int (nI (nl + 1))])), (q3, .inl (cJ G, 12, .inr (.inl (fJ (va_up gl nl j)))))] := by
  refine CtI.go (cc := cX3_letter) (maxL := 2) RX3 rfl (by decide) rfl (Nat.le_of_ble_eq_true rfl) ?_
  intro p e s m args below meth c A Q ls E hw hl hret
  have hx := E.1
  have hb := E.2.1
  have hinX0 : ∀ w ∈ wsX00, w ∈ wsX3_letter := (fun w h => List.mem_cons_of_mem _ (List.mem_append_left _ (List.mem_append_right _ h)))
  have hinX3 : ∀ w ∈ wsX30, w ∈ wsX3_letter := (fun w h => List.mem_cons_of_mem _ (List.mem_append_left _ (List.mem_append_left _ (List.mem_append_right _ h))))
  have hl : lv_has ls 2 [(0, .ref x), (1, .int (nI j))] := hl
  refine lv_iload_n hx hb dX3_letter_0 rfl (lv_at hl 1 rfl) ?_
  refine x_if_eq E (nI_toI (show j < 2147483648 by omega)) (tgt := 11) dX3_letter_1 (by decide) (fun c_1 => ?_) (fun c_1 => ?_)
  · refine lv_aload_n hx hb dX3_letter_11 rfl (lv_at hl 0 rfl) ?_
    refine x_get E hw (C := RX3) (T := TX3) (N := 9) hinX3 0 rfl rfl 1 (by decide) rfl (List.mem_of_getElem? (i := 1) rfl) dX3_letter_12 ?_
    refine x_getN E hw (C := RX0) (T := TX0) (N := 5) hinX0 1 rfl rfl 3 (by decide) rfl (List.mem_of_getElem? (i := 11) rfl) dX3_letter_15 ?_
    refine lv_iconst (v := (nI 1)) hx hb dX3_letter_18 (by decide) ?_
    refine x_cfVi E hw hl.1 (As := [.int (nI 1)]) (rest := []) (c_X1_hasRoom l G r3 q3 nl 12 1 gl (by omega) (by omega)) 1 gX3_letter_X1_hasRoom rfl rfl rfl (by decide) ⟨Nat.le_of_ble_eq_true rfl, Nat.le_of_ble_eq_true rfl⟩ ⟨Nat.le_of_ble_eq_true rfl, Nat.le_of_ble_eq_true rfl⟩ rfl 2 (ci := 1) (C := RX1) (T := TX1) (N := 2) rfl rfl [2, 3] [0, 1] rfl rfl rfl rfl rfl [0, 1, 2, 3] [(x, .inr (3, [.ref tx, .ref o, .ref o1, .ref o2, .int (nI pa), .int (nI pt), .int (nI off), .int (nI ha), .long tr])), (o, .inr (0, [.ref r0, .ref r1, .ref r2, .ref r3, .ref r4])), (r3, .inr (1, [.ref q3, .int (nI nl)])), (q3, .inl (cJ G, 12, .inr (.inl (fJ gl))))] rfl rfl rfl (Nat.le_of_ble_eq_true rfl) dX3_letter_19 (fun H locs hw => ?_)
    refine x_ifb_ne E (P := nl + 1 ≤ 12) (tgt := 28) dX3_letter_22 (by decide) (fun c_2 => ?_) (fun c_2 => ?_)
    · refine lv_aload_n hx hb dX3_letter_28 rfl (lv_at hl 0 rfl) ?_
      refine x_get E hw (C := RX3) (T := TX3) (N := 9) hinX3 0 rfl rfl 1 (by decide) rfl (List.mem_of_getElem? (i := 1) rfl) dX3_letter_29 ?_
      refine x_getN E hw (C := RX0) (T := TX0) (N := 5) hinX0 1 rfl rfl 3 (by decide) rfl (List.mem_of_getElem? (i := 11) rfl) dX3_letter_32 ?_
      refine lv_iload_n hx hb dX3_letter_35 rfl (lv_at hl 1 rfl) ?_
      refine lv_i2l (v := (lN j)) hx hb dX3_letter_36 (nI_l (by omega)) ?_
      refine x_cfVv E hw hl.1 (As := [.long (lN j)]) (rest := []) (c_X1_add l G r3 q3 nl 12 j gl (by omega) (by omega)) 1 gX3_letter_X1_add rfl rfl rfl (by decide) ⟨Nat.le_of_ble_eq_true rfl, Nat.le_of_ble_eq_true rfl⟩ ⟨Nat.le_of_ble_eq_true rfl, Nat.le_of_ble_eq_true rfl⟩ rfl 2 (ci := 1) (C := RX1) (T := TX1) (N := 2) rfl rfl [2, 3] [0, 1] rfl rfl rfl rfl rfl [0, 1, 2, 3] [(x, .inr (3, [.ref tx, .ref o, .ref o1, .ref o2, .int (nI pa), .int (nI pt), .int (nI off), .int (nI ha), .long tr])), (o, .inr (0, [.ref r0, .ref r1, .ref r2, .ref r3, .ref r4])), (r3, .inr (1, [.ref q3, .int (nI (nl + 1))])), (q3, .inl (cJ G, 12, .inr (.inl (fJ (va_up gl nl j)))))] rfl rfl rfl (Nat.le_of_ble_eq_true rfl) dX3_letter_37 (fun H locs hw => ?_)
      refine lv_aload_n hx hb dX3_letter_40 rfl (lv_at hl 0 rfl) ?_
      refine x_get E hw (C := RX3) (T := TX3) (N := 9) hinX3 0 rfl rfl 1 (by decide) rfl (List.mem_of_getElem? (i := 1) rfl) dX3_letter_41 ?_
      refine x_getN E hw (C := RX0) (T := TX0) (N := 5) hinX0 1 rfl rfl 3 (by decide) rfl (List.mem_of_getElem? (i := 11) rfl) dX3_letter_44 ?_
      refine x_cfVi E hw hl.1 (As := []) (rest := []) (c_X1_size l G r3 q3 (nl + 1)) 0 gX3_letter_X1_size rfl rfl rfl (by decide) ⟨Nat.le_of_ble_eq_true rfl, Nat.le_of_ble_eq_true rfl⟩ ⟨Nat.le_of_ble_eq_true rfl, Nat.le_of_ble_eq_true rfl⟩ rfl 2 (ci := 1) (C := RX1) (T := TX1) (N := 2) rfl rfl [2] [0, 1, 3] rfl rfl rfl rfl rfl [0, 1, 3, 2] [(x, .inr (3, [.ref tx, .ref o, .ref o1, .ref o2, .int (nI pa), .int (nI pt), .int (nI off), .int (nI ha), .long tr])), (o, .inr (0, [.ref r0, .ref r1, .ref r2, .ref r3, .ref r4])), (r3, .inr (1, [.ref q3, .int (nI (nl + 1))])), (q3, .inl (cJ G, 12, .inr (.inl (fJ (va_up gl nl j)))))] rfl rfl rfl (Nat.le_of_ble_eq_true rfl) dX3_letter_47 (fun H locs hw => ?_)
      exact hret (nI (nl + 1)) () _ _ _ _ dX3_letter_50 rfl rfl hw
    · exfalso; omega
  · refine lv_iload_n hx hb dX3_letter_4 rfl (lv_at hl 1 rfl) ?_
    refine lv_iconst (v := (nI 1)) hx hb dX3_letter_5 (by decide) ?_
    refine x_icmp_eq E (nI_toI (show j < 2147483648 by omega)) (nI_toI (by decide)) (tgt := 11) dX3_letter_6 (by decide) (fun c_3 => ?_) (fun c_3 => ?_)
    · refine lv_aload_n hx hb dX3_letter_11 rfl (lv_at hl 0 rfl) ?_
      refine x_get E hw (C := RX3) (T := TX3) (N := 9) hinX3 0 rfl rfl 1 (by decide) rfl (List.mem_of_getElem? (i := 1) rfl) dX3_letter_12 ?_
      refine x_getN E hw (C := RX0) (T := TX0) (N := 5) hinX0 1 rfl rfl 3 (by decide) rfl (List.mem_of_getElem? (i := 11) rfl) dX3_letter_15 ?_
      refine lv_iconst (v := (nI 1)) hx hb dX3_letter_18 (by decide) ?_
      refine x_cfVi E hw hl.1 (As := [.int (nI 1)]) (rest := []) (c_X1_hasRoom l G r3 q3 nl 12 1 gl (by omega) (by omega)) 1 gX3_letter_X1_hasRoom rfl rfl rfl (by decide) ⟨Nat.le_of_ble_eq_true rfl, Nat.le_of_ble_eq_true rfl⟩ ⟨Nat.le_of_ble_eq_true rfl, Nat.le_of_ble_eq_true rfl⟩ rfl 2 (ci := 1) (C := RX1) (T := TX1) (N := 2) rfl rfl [2, 3] [0, 1] rfl rfl rfl rfl rfl [0, 1, 2, 3] [(x, .inr (3, [.ref tx, .ref o, .ref o1, .ref o2, .int (nI pa), .int (nI pt), .int (nI off), .int (nI ha), .long tr])), (o, .inr (0, [.ref r0, .ref r1, .ref r2, .ref r3, .ref r4])), (r3, .inr (1, [.ref q3, .int (nI nl)])), (q3, .inl (cJ G, 12, .inr (.inl (fJ gl))))] rfl rfl rfl (Nat.le_of_ble_eq_true rfl) dX3_letter_19 (fun H locs hw => ?_)
      refine x_ifb_ne E (P := nl + 1 ≤ 12) (tgt := 28) dX3_letter_22 (by decide) (fun c_4 => ?_) (fun c_4 => ?_)
      · refine lv_aload_n hx hb dX3_letter_28 rfl (lv_at hl 0 rfl) ?_
        refine x_get E hw (C := RX3) (T := TX3) (N := 9) hinX3 0 rfl rfl 1 (by decide) rfl (List.mem_of_getElem? (i := 1) rfl) dX3_letter_29 ?_
        refine x_getN E hw (C := RX0) (T := TX0) (N := 5) hinX0 1 rfl rfl 3 (by decide) rfl (List.mem_of_getElem? (i := 11) rfl) dX3_letter_32 ?_
        refine lv_iload_n hx hb dX3_letter_35 rfl (lv_at hl 1 rfl) ?_
        refine lv_i2l (v := (lN j)) hx hb dX3_letter_36 (nI_l (by omega)) ?_
        refine x_cfVv E hw hl.1 (As := [.long (lN j)]) (rest := []) (c_X1_add l G r3 q3 nl 12 j gl (by omega) (by omega)) 1 gX3_letter_X1_add rfl rfl rfl (by decide) ⟨Nat.le_of_ble_eq_true rfl, Nat.le_of_ble_eq_true rfl⟩ ⟨Nat.le_of_ble_eq_true rfl, Nat.le_of_ble_eq_true rfl⟩ rfl 2 (ci := 1) (C := RX1) (T := TX1) (N := 2) rfl rfl [2, 3] [0, 1] rfl rfl rfl rfl rfl [0, 1, 2, 3] [(x, .inr (3, [.ref tx, .ref o, .ref o1, .ref o2, .int (nI pa), .int (nI pt), .int (nI off), .int (nI ha), .long tr])), (o, .inr (0, [.ref r0, .ref r1, .ref r2, .ref r3, .ref r4])), (r3, .inr (1, [.ref q3, .int (nI (nl + 1))])), (q3, .inl (cJ G, 12, .inr (.inl (fJ (va_up gl nl j)))))] rfl rfl rfl (Nat.le_of_ble_eq_true rfl) dX3_letter_37 (fun H locs hw => ?_)
        refine lv_aload_n hx hb dX3_letter_40 rfl (lv_at hl 0 rfl) ?_
        refine x_get E hw (C := RX3) (T := TX3) (N := 9) hinX3 0 rfl rfl 1 (by decide) rfl (List.mem_of_getElem? (i := 1) rfl) dX3_letter_41 ?_
        refine x_getN E hw (C := RX0) (T := TX0) (N := 5) hinX0 1 rfl rfl 3 (by decide) rfl (List.mem_of_getElem? (i := 11) rfl) dX3_letter_44 ?_
        refine x_cfVi E hw hl.1 (As := []) (rest := []) (c_X1_size l G r3 q3 (nl + 1)) 0 gX3_letter_X1_size rfl rfl rfl (by decide) ⟨Nat.le_of_ble_eq_true rfl, Nat.le_of_ble_eq_true rfl⟩ ⟨Nat.le_of_ble_eq_true rfl, Nat.le_of_ble_eq_true rfl⟩ rfl 2 (ci := 1) (C := RX1) (T := TX1) (N := 2) rfl rfl [2] [0, 1, 3] rfl rfl rfl rfl rfl [0, 1, 3, 2] [(x, .inr (3, [.ref tx, .ref o, .ref o1, .ref o2, .int (nI pa), .int (nI pt), .int (nI off), .int (nI ha), .long tr])), (o, .inr (0, [.ref r0, .ref r1, .ref r2, .ref r3, .ref r4])), (r3, .inr (1, [.ref q3, .int (nI (nl + 1))])), (q3, .inl (cJ G, 12, .inr (.inl (fJ (va_up gl nl j)))))] rfl rfl rfl (Nat.le_of_ble_eq_true rfl) dX3_letter_47 (fun H locs hw => ?_)
        exact hret (nI (nl + 1)) () _ _ _ _ dX3_letter_50 rfl rfl hw
      · exfalso; omega
    · exfalso; omega

abbrev rm_X3_hush : Room := { frames := 1, cells := 0, slots := 0, locals := 21 }
set_option maxHeartbeats 4000000 in
set_option maxRecDepth 100000 in
theorem c_X3_hush (l : Launch) (G : XG) (x : Nat) (tx : Nat) (o : Nat) (o1 : Nat) (o2 : Nat) (pa : Nat) (pt : Nat) (off : Nat) (ha : Nat) (tr : Int64) (r0 : Nat) (r1 : Nat) (r2 : Nat) (r3 : Nat) (r4 : Nat) (q3 : Nat) (nl : Nat)  : CfI l yX3_hush wsX3_hush rm_X3_hush G [.ref x] [(x, .inr (3, [.ref tx, .ref o, .ref o1, .ref o2, .int (nI pa), .int (nI pt), .int (nI off), .int (nI ha), .long tr])), (o, .inr (0, [.ref r0, .ref r1, .ref r2, .ref r3, .ref r4])), (r3, .inr (1, [.ref q3, .int (nI nl)]))] (nI nl) [(x, .inr (3, [.ref tx, .ref o, .ref o1, .ref o2, .int (nI pa), .int (nI pt), .int (nI off), .int (nI ha), .long tr])), (o, .inr (0, [.ref r0, .ref r1, .ref r2, .ref r3, .ref r4])), (r3, .inr (1, [.ref q3, .int (nI 0)]))] := by
  refine CtI.go (cc := cX3_hush) (maxL := 1) RX3 rfl (by decide) rfl (Nat.le_of_ble_eq_true rfl) ?_
  intro p e s m args below meth c A Q ls E hw hl hret
  have hx := E.1
  have hb := E.2.1
  have hinX0 : ∀ w ∈ wsX00, w ∈ wsX3_hush := (fun w h => List.mem_cons_of_mem _ (List.mem_append_left _ (List.mem_append_right _ h)))
  have hinX3 : ∀ w ∈ wsX30, w ∈ wsX3_hush := (fun w h => List.mem_cons_of_mem _ (List.mem_append_left _ (List.mem_append_left _ (List.mem_append_right _ h))))
  have hl : lv_has ls 1 [(0, .ref x)] := hl
  refine lv_aload_n hx hb dX3_hush_0 rfl (lv_at hl 0 rfl) ?_
  refine x_get E hw (C := RX3) (T := TX3) (N := 9) hinX3 0 rfl rfl 1 (by decide) rfl (List.mem_of_getElem? (i := 1) rfl) dX3_hush_1 ?_
  refine x_getN E hw (C := RX0) (T := TX0) (N := 5) hinX0 1 rfl rfl 3 (by decide) rfl (List.mem_of_getElem? (i := 11) rfl) dX3_hush_4 ?_
  refine x_cfVi E hw hl.1 (As := []) (rest := []) (c_X1_empty l G r3 q3 nl) 0 gX3_hush_X1_empty rfl rfl rfl (by decide) ⟨Nat.le_of_ble_eq_true rfl, Nat.le_of_ble_eq_true rfl⟩ ⟨Nat.le_of_ble_eq_true rfl, Nat.le_of_ble_eq_true rfl⟩ rfl 2 (ci := 1) (C := RX1) (T := TX1) (N := 2) rfl rfl [2] [0, 1] rfl rfl rfl rfl rfl [0, 1, 2] [(x, .inr (3, [.ref tx, .ref o, .ref o1, .ref o2, .int (nI pa), .int (nI pt), .int (nI off), .int (nI ha), .long tr])), (o, .inr (0, [.ref r0, .ref r1, .ref r2, .ref r3, .ref r4])), (r3, .inr (1, [.ref q3, .int (nI 0)]))] rfl rfl rfl (Nat.le_of_ble_eq_true rfl) dX3_hush_7 (fun H locs hw => ?_)
  exact hret (nI nl) () _ _ _ _ dX3_hush_10 rfl rfl hw

abbrev rm_X3_saw_bad : Room := { frames := 1, cells := 0, slots := 0, locals := 21 }
set_option maxHeartbeats 4000000 in
set_option maxRecDepth 100000 in
theorem c_X3_saw_bad (l : Launch) (G : XG) (x : Nat) (tx : Nat) (o : Nat) (o1 : Nat) (o2 : Nat) (pa : Nat) (pt : Nat) (off : Nat) (ha : Nat) (tr : Int64) (r0 : Nat) (r1 : Nat) (r2 : Nat) (r3 : Nat) (r4 : Nat) (q4 : Nat) (ns : Nat) (gs : Nat → Nat) (j : Int32) (hpa : pa ≤ 63) (hbad : ¬ (1 ≤ j.toInt ∧ j.toInt < (pa : Int))) : CfI l yX3_saw wsX3_saw rm_X3_saw_bad G [.ref x, .int j] [(x, .inr (3, [.ref tx, .ref o, .ref o1, .ref o2, .int (nI pa), .int (nI pt), .int (nI off), .int (nI ha), .long tr])), (o, .inr (0, [.ref r0, .ref r1, .ref r2, .ref r3, .ref r4])), (r4, .inr (1, [.ref q4, .int (nI ns)])), (q4, .inl (cJ G, 8, .inr (.inl (fJ gs))))] (-1 : Int32) [(x, .inr (3, [.ref tx, .ref o, .ref o1, .ref o2, .int (nI pa), .int (nI pt), .int (nI off), .int (nI ha), .long tr])), (o, .inr (0, [.ref r0, .ref r1, .ref r2, .ref r3, .ref r4])), (r4, .inr (1, [.ref q4, .int (nI ns)])), (q4, .inl (cJ G, 8, .inr (.inl (fJ gs))))] := by
  refine CtI.go (cc := cX3_saw) (maxL := 2) RX3 rfl (by decide) rfl (Nat.le_of_ble_eq_true rfl) ?_
  intro p e s m args below meth c A Q ls E hw hl hret
  have hx := E.1
  have hb := E.2.1
  have hl : lv_has ls 2 [(0, .ref x), (1, .int j)] := hl
  refine lv_aload_n hx hb dX3_saw_0 rfl (lv_at hl 0 rfl) ?_
  refine lv_iload_n hx hb dX3_saw_1 rfl (lv_at hl 1 rfl) ?_
  refine x_cfVi E hw hl.1 (As := [.int j]) (rest := []) (c_X3_isInner l G x tx o o1 o2 pa pt off ha tr j (by omega)) 1 gX3_saw_X3_isInner rfl rfl rfl (by decide) ⟨Nat.le_of_ble_eq_true rfl, Nat.le_of_ble_eq_true rfl⟩ ⟨Nat.le_of_ble_eq_true rfl, Nat.le_of_ble_eq_true rfl⟩ rfl 0 (ci := 3) (C := RX3) (T := TX3) (N := 9) rfl rfl [0] [1, 2, 3] rfl rfl rfl rfl rfl [3, 0, 1, 2] [(x, .inr (3, [.ref tx, .ref o, .ref o1, .ref o2, .int (nI pa), .int (nI pt), .int (nI off), .int (nI ha), .long tr])), (o, .inr (0, [.ref r0, .ref r1, .ref r2, .ref r3, .ref r4])), (r4, .inr (1, [.ref q4, .int (nI ns)])), (q4, .inl (cJ G, 8, .inr (.inl (fJ gs))))] rfl rfl rfl (Nat.le_of_ble_eq_true rfl) dX3_saw_2 (fun H locs hw => ?_)
  refine x_ifb_ne E (P := 1 ≤ j.toInt ∧ j.toInt < (pa : Int)) (tgt := 10) dX3_saw_5 (by decide) (fun c_1 => ?_) (fun c_1 => ?_)
  · exfalso; omega
  · refine lv_iconst (v := (-1 : Int32)) hx hb dX3_saw_8 (by decide) ?_
    exact hret (-1 : Int32) () _ _ _ _ dX3_saw_9 rfl rfl hw

abbrev rm_X3_saw_full : Room := { frames := 1, cells := 0, slots := 0, locals := 21 }
set_option maxHeartbeats 4000000 in
set_option maxRecDepth 100000 in
theorem c_X3_saw_full (l : Launch) (G : XG) (x : Nat) (tx : Nat) (o : Nat) (o1 : Nat) (o2 : Nat) (pa : Nat) (pt : Nat) (off : Nat) (ha : Nat) (tr : Int64) (r0 : Nat) (r1 : Nat) (r2 : Nat) (r3 : Nat) (r4 : Nat) (q4 : Nat) (ns : Nat) (gs : Nat → Nat) (j : Nat) (hpa : pa ≤ 63) (hj1 : 1 ≤ j) (hj : j < pa) (hf : ns = 8) : CfI l yX3_saw wsX3_saw rm_X3_saw_full G [.ref x, .int (nI j)] [(x, .inr (3, [.ref tx, .ref o, .ref o1, .ref o2, .int (nI pa), .int (nI pt), .int (nI off), .int (nI ha), .long tr])), (o, .inr (0, [.ref r0, .ref r1, .ref r2, .ref r3, .ref r4])), (r4, .inr (1, [.ref q4, .int (nI ns)])), (q4, .inl (cJ G, 8, .inr (.inl (fJ gs))))] (-3 : Int32) [(x, .inr (3, [.ref tx, .ref o, .ref o1, .ref o2, .int (nI pa), .int (nI pt), .int (nI off), .int (nI ha), .long tr])), (o, .inr (0, [.ref r0, .ref r1, .ref r2, .ref r3, .ref r4])), (r4, .inr (1, [.ref q4, .int (nI ns)])), (q4, .inl (cJ G, 8, .inr (.inl (fJ gs))))] := by
  refine CtI.go (cc := cX3_saw) (maxL := 2) RX3 rfl (by decide) rfl (Nat.le_of_ble_eq_true rfl) ?_
  intro p e s m args below meth c A Q ls E hw hl hret
  have hx := E.1
  have hb := E.2.1
  have hinX0 : ∀ w ∈ wsX00, w ∈ wsX3_saw := (fun w h => List.mem_cons_of_mem _ (List.mem_append_left _ (List.mem_append_right _ h)))
  have hinX3 : ∀ w ∈ wsX30, w ∈ wsX3_saw := (fun w h => List.mem_cons_of_mem _ (List.mem_append_left _ (List.mem_append_left _ (List.mem_append_right _ h))))
  have hl : lv_has ls 2 [(0, .ref x), (1, .int (nI j))] := hl
  refine lv_aload_n hx hb dX3_saw_0 rfl (lv_at hl 0 rfl) ?_
  refine lv_iload_n hx hb dX3_saw_1 rfl (lv_at hl 1 rfl) ?_
  refine x_cfVi E hw hl.1 (As := [.int (nI j)]) (rest := []) (c_X3_isInnerN l G x tx o o1 o2 pa pt off ha tr j (by omega) (by omega)) 1 gX3_saw_X3_isInner rfl rfl rfl (by decide) ⟨Nat.le_of_ble_eq_true rfl, Nat.le_of_ble_eq_true rfl⟩ ⟨Nat.le_of_ble_eq_true rfl, Nat.le_of_ble_eq_true rfl⟩ rfl 0 (ci := 3) (C := RX3) (T := TX3) (N := 9) rfl rfl [0] [1, 2, 3] rfl rfl rfl rfl rfl [3, 0, 1, 2] [(x, .inr (3, [.ref tx, .ref o, .ref o1, .ref o2, .int (nI pa), .int (nI pt), .int (nI off), .int (nI ha), .long tr])), (o, .inr (0, [.ref r0, .ref r1, .ref r2, .ref r3, .ref r4])), (r4, .inr (1, [.ref q4, .int (nI ns)])), (q4, .inl (cJ G, 8, .inr (.inl (fJ gs))))] rfl rfl rfl (Nat.le_of_ble_eq_true rfl) dX3_saw_2 (fun H locs hw => ?_)
  refine x_ifb_ne E (P := 1 ≤ j ∧ j < pa) (tgt := 10) dX3_saw_5 (by decide) (fun c_1 => ?_) (fun c_1 => ?_)
  · refine lv_aload_n hx hb dX3_saw_10 rfl (lv_at hl 0 rfl) ?_
    refine x_get E hw (C := RX3) (T := TX3) (N := 9) hinX3 0 rfl rfl 1 (by decide) rfl (List.mem_of_getElem? (i := 1) rfl) dX3_saw_11 ?_
    refine x_getN E hw (C := RX0) (T := TX0) (N := 5) hinX0 1 rfl rfl 4 (by decide) rfl (List.mem_of_getElem? (i := 12) rfl) dX3_saw_14 ?_
    refine lv_iconst (v := (nI 1)) hx hb dX3_saw_17 (by decide) ?_
    refine x_cfVi E hw hl.1 (As := [.int (nI 1)]) (rest := []) (c_X1_hasRoom l G r4 q4 ns 8 1 gs (by omega) (by omega)) 1 gX3_saw_X1_hasRoom rfl rfl rfl (by decide) ⟨Nat.le_of_ble_eq_true rfl, Nat.le_of_ble_eq_true rfl⟩ ⟨Nat.le_of_ble_eq_true rfl, Nat.le_of_ble_eq_true rfl⟩ rfl 2 (ci := 1) (C := RX1) (T := TX1) (N := 2) rfl rfl [2, 3] [0, 1] rfl rfl rfl rfl rfl [0, 1, 2, 3] [(x, .inr (3, [.ref tx, .ref o, .ref o1, .ref o2, .int (nI pa), .int (nI pt), .int (nI off), .int (nI ha), .long tr])), (o, .inr (0, [.ref r0, .ref r1, .ref r2, .ref r3, .ref r4])), (r4, .inr (1, [.ref q4, .int (nI ns)])), (q4, .inl (cJ G, 8, .inr (.inl (fJ gs))))] rfl rfl rfl (Nat.le_of_ble_eq_true rfl) dX3_saw_18 (fun H locs hw => ?_)
    refine x_ifb_ne E (P := ns + 1 ≤ 8) (tgt := 27) dX3_saw_21 (by decide) (fun c_2 => ?_) (fun c_2 => ?_)
    · exfalso; omega
    · refine lv_bipush (v := (-3 : Int32)) hx hb dX3_saw_24 (by decide) ?_
      exact hret (-3 : Int32) () _ _ _ _ dX3_saw_26 rfl rfl hw
  · exfalso; omega

abbrev rm_X3_saw_ok : Room := { frames := 1, cells := 0, slots := 0, locals := 22 }
set_option maxHeartbeats 4000000 in
set_option maxRecDepth 100000 in
theorem c_X3_saw_ok (l : Launch) (G : XG) (x : Nat) (tx : Nat) (o : Nat) (o1 : Nat) (o2 : Nat) (pa : Nat) (pt : Nat) (off : Nat) (ha : Nat) (tr : Int64) (r0 : Nat) (r1 : Nat) (r2 : Nat) (r3 : Nat) (r4 : Nat) (q4 : Nat) (ns : Nat) (gs : Nat → Nat) (j : Nat) (hpa : pa ≤ 63) (hj1 : 1 ≤ j) (hj : j < pa) (hf : ns < 8) : CfI l yX3_saw wsX3_saw rm_X3_saw_ok G [.ref x, .int (nI j)] [(x, .inr (3, [.ref tx, .ref o, .ref o1, .ref o2, .int (nI pa), .int (nI pt), .int (nI off), .int (nI ha), .long tr])), (o, .inr (0, [.ref r0, .ref r1, .ref r2, .ref r3, .ref r4])), (r4, .inr (1, [.ref q4, .int (nI ns)])), (q4, .inl (cJ G, 8, .inr (.inl (fJ gs))))] (nI (ns + 1)) [(x, .inr (3, [.ref tx, .ref o, .ref o1, .ref o2, .int (nI pa), .int (nI pt), .int (nI off), .int (nI ha), .long tr])), (o, .inr (0, [.ref r0, .ref r1, .ref r2, .ref r3, .ref r4])), (r4, .inr (1, [.ref q4, .int (nI (ns + 1))])), (q4, .inl (cJ G, 8, .inr (.inl (fJ (va_up gs ns j)))))] := by
  refine CtI.go (cc := cX3_saw) (maxL := 2) RX3 rfl (by decide) rfl (Nat.le_of_ble_eq_true rfl) ?_
  intro p e s m args below meth c A Q ls E hw hl hret
  have hx := E.1
  have hb := E.2.1
  have hinX0 : ∀ w ∈ wsX00, w ∈ wsX3_saw := (fun w h => List.mem_cons_of_mem _ (List.mem_append_left _ (List.mem_append_right _ h)))
  have hinX3 : ∀ w ∈ wsX30, w ∈ wsX3_saw := (fun w h => List.mem_cons_of_mem _ (List.mem_append_left _ (List.mem_append_left _ (List.mem_append_right _ h))))
  have hl : lv_has ls 2 [(0, .ref x), (1, .int (nI j))] := hl
  refine lv_aload_n hx hb dX3_saw_0 rfl (lv_at hl 0 rfl) ?_
  refine lv_iload_n hx hb dX3_saw_1 rfl (lv_at hl 1 rfl) ?_
  refine x_cfVi E hw hl.1 (As := [.int (nI j)]) (rest := []) (c_X3_isInnerN l G x tx o o1 o2 pa pt off ha tr j (by omega) (by omega)) 1 gX3_saw_X3_isInner rfl rfl rfl (by decide) ⟨Nat.le_of_ble_eq_true rfl, Nat.le_of_ble_eq_true rfl⟩ ⟨Nat.le_of_ble_eq_true rfl, Nat.le_of_ble_eq_true rfl⟩ rfl 0 (ci := 3) (C := RX3) (T := TX3) (N := 9) rfl rfl [0] [1, 2, 3] rfl rfl rfl rfl rfl [3, 0, 1, 2] [(x, .inr (3, [.ref tx, .ref o, .ref o1, .ref o2, .int (nI pa), .int (nI pt), .int (nI off), .int (nI ha), .long tr])), (o, .inr (0, [.ref r0, .ref r1, .ref r2, .ref r3, .ref r4])), (r4, .inr (1, [.ref q4, .int (nI ns)])), (q4, .inl (cJ G, 8, .inr (.inl (fJ gs))))] rfl rfl rfl (Nat.le_of_ble_eq_true rfl) dX3_saw_2 (fun H locs hw => ?_)
  refine x_ifb_ne E (P := 1 ≤ j ∧ j < pa) (tgt := 10) dX3_saw_5 (by decide) (fun c_1 => ?_) (fun c_1 => ?_)
  · refine lv_aload_n hx hb dX3_saw_10 rfl (lv_at hl 0 rfl) ?_
    refine x_get E hw (C := RX3) (T := TX3) (N := 9) hinX3 0 rfl rfl 1 (by decide) rfl (List.mem_of_getElem? (i := 1) rfl) dX3_saw_11 ?_
    refine x_getN E hw (C := RX0) (T := TX0) (N := 5) hinX0 1 rfl rfl 4 (by decide) rfl (List.mem_of_getElem? (i := 12) rfl) dX3_saw_14 ?_
    refine lv_iconst (v := (nI 1)) hx hb dX3_saw_17 (by decide) ?_
    refine x_cfVi E hw hl.1 (As := [.int (nI 1)]) (rest := []) (c_X1_hasRoom l G r4 q4 ns 8 1 gs (by omega) (by omega)) 1 gX3_saw_X1_hasRoom rfl rfl rfl (by decide) ⟨Nat.le_of_ble_eq_true rfl, Nat.le_of_ble_eq_true rfl⟩ ⟨Nat.le_of_ble_eq_true rfl, Nat.le_of_ble_eq_true rfl⟩ rfl 2 (ci := 1) (C := RX1) (T := TX1) (N := 2) rfl rfl [2, 3] [0, 1] rfl rfl rfl rfl rfl [0, 1, 2, 3] [(x, .inr (3, [.ref tx, .ref o, .ref o1, .ref o2, .int (nI pa), .int (nI pt), .int (nI off), .int (nI ha), .long tr])), (o, .inr (0, [.ref r0, .ref r1, .ref r2, .ref r3, .ref r4])), (r4, .inr (1, [.ref q4, .int (nI ns)])), (q4, .inl (cJ G, 8, .inr (.inl (fJ gs))))] rfl rfl rfl (Nat.le_of_ble_eq_true rfl) dX3_saw_18 (fun H locs hw => ?_)
    refine x_ifb_ne E (P := ns + 1 ≤ 8) (tgt := 27) dX3_saw_21 (by decide) (fun c_2 => ?_) (fun c_2 => ?_)
    · refine lv_aload_n hx hb dX3_saw_27 rfl (lv_at hl 0 rfl) ?_
      refine x_get E hw (C := RX3) (T := TX3) (N := 9) hinX3 0 rfl rfl 1 (by decide) rfl (List.mem_of_getElem? (i := 1) rfl) dX3_saw_28 ?_
      refine x_getN E hw (C := RX0) (T := TX0) (N := 5) hinX0 1 rfl rfl 4 (by decide) rfl (List.mem_of_getElem? (i := 12) rfl) dX3_saw_31 ?_
      refine lv_iload_n hx hb dX3_saw_34 rfl (lv_at hl 1 rfl) ?_
      refine lv_i2l (v := (lN j)) hx hb dX3_saw_35 (nI_l (by omega)) ?_
      refine x_cfVv E hw hl.1 (As := [.long (lN j)]) (rest := []) (c_X1_add l G r4 q4 ns 8 j gs (by omega) (by omega)) 1 gX3_saw_X1_add rfl rfl rfl (by decide) ⟨Nat.le_of_ble_eq_true rfl, Nat.le_of_ble_eq_true rfl⟩ ⟨Nat.le_of_ble_eq_true rfl, Nat.le_of_ble_eq_true rfl⟩ rfl 2 (ci := 1) (C := RX1) (T := TX1) (N := 2) rfl rfl [2, 3] [0, 1] rfl rfl rfl rfl rfl [0, 1, 2, 3] [(x, .inr (3, [.ref tx, .ref o, .ref o1, .ref o2, .int (nI pa), .int (nI pt), .int (nI off), .int (nI ha), .long tr])), (o, .inr (0, [.ref r0, .ref r1, .ref r2, .ref r3, .ref r4])), (r4, .inr (1, [.ref q4, .int (nI (ns + 1))])), (q4, .inl (cJ G, 8, .inr (.inl (fJ (va_up gs ns j)))))] rfl rfl rfl (Nat.le_of_ble_eq_true rfl) dX3_saw_36 (fun H locs hw => ?_)
      refine lv_aload_n hx hb dX3_saw_39 rfl (lv_at hl 0 rfl) ?_
      refine x_get E hw (C := RX3) (T := TX3) (N := 9) hinX3 0 rfl rfl 1 (by decide) rfl (List.mem_of_getElem? (i := 1) rfl) dX3_saw_40 ?_
      refine x_getN E hw (C := RX0) (T := TX0) (N := 5) hinX0 1 rfl rfl 4 (by decide) rfl (List.mem_of_getElem? (i := 12) rfl) dX3_saw_43 ?_
      refine x_cfVi E hw hl.1 (As := []) (rest := []) (c_X1_size l G r4 q4 (ns + 1)) 0 gX3_saw_X1_size rfl rfl rfl (by decide) ⟨Nat.le_of_ble_eq_true rfl, Nat.le_of_ble_eq_true rfl⟩ ⟨Nat.le_of_ble_eq_true rfl, Nat.le_of_ble_eq_true rfl⟩ rfl 2 (ci := 1) (C := RX1) (T := TX1) (N := 2) rfl rfl [2] [0, 1, 3] rfl rfl rfl rfl rfl [0, 1, 3, 2] [(x, .inr (3, [.ref tx, .ref o, .ref o1, .ref o2, .int (nI pa), .int (nI pt), .int (nI off), .int (nI ha), .long tr])), (o, .inr (0, [.ref r0, .ref r1, .ref r2, .ref r3, .ref r4])), (r4, .inr (1, [.ref q4, .int (nI (ns + 1))])), (q4, .inl (cJ G, 8, .inr (.inl (fJ (va_up gs ns j)))))] rfl rfl rfl (Nat.le_of_ble_eq_true rfl) dX3_saw_46 (fun H locs hw => ?_)
      exact hret (nI (ns + 1)) () _ _ _ _ dX3_saw_49 rfl rfl hw
    · exfalso; omega
  · exfalso; omega

abbrev rm_X3_forget : Room := { frames := 1, cells := 0, slots := 0, locals := 21 }
set_option maxHeartbeats 4000000 in
set_option maxRecDepth 100000 in
theorem c_X3_forget (l : Launch) (G : XG) (x : Nat) (tx : Nat) (o : Nat) (o1 : Nat) (o2 : Nat) (pa : Nat) (pt : Nat) (off : Nat) (ha : Nat) (tr : Int64) (r0 : Nat) (r1 : Nat) (r2 : Nat) (r3 : Nat) (r4 : Nat) (q4 : Nat) (ns : Nat)  : CfI l yX3_forget wsX3_forget rm_X3_forget G [.ref x] [(x, .inr (3, [.ref tx, .ref o, .ref o1, .ref o2, .int (nI pa), .int (nI pt), .int (nI off), .int (nI ha), .long tr])), (o, .inr (0, [.ref r0, .ref r1, .ref r2, .ref r3, .ref r4])), (r4, .inr (1, [.ref q4, .int (nI ns)]))] (nI ns) [(x, .inr (3, [.ref tx, .ref o, .ref o1, .ref o2, .int (nI pa), .int (nI pt), .int (nI off), .int (nI ha), .long tr])), (o, .inr (0, [.ref r0, .ref r1, .ref r2, .ref r3, .ref r4])), (r4, .inr (1, [.ref q4, .int (nI 0)]))] := by
  refine CtI.go (cc := cX3_forget) (maxL := 1) RX3 rfl (by decide) rfl (Nat.le_of_ble_eq_true rfl) ?_
  intro p e s m args below meth c A Q ls E hw hl hret
  have hx := E.1
  have hb := E.2.1
  have hinX0 : ∀ w ∈ wsX00, w ∈ wsX3_forget := (fun w h => List.mem_cons_of_mem _ (List.mem_append_left _ (List.mem_append_right _ h)))
  have hinX3 : ∀ w ∈ wsX30, w ∈ wsX3_forget := (fun w h => List.mem_cons_of_mem _ (List.mem_append_left _ (List.mem_append_left _ (List.mem_append_right _ h))))
  have hl : lv_has ls 1 [(0, .ref x)] := hl
  refine lv_aload_n hx hb dX3_forget_0 rfl (lv_at hl 0 rfl) ?_
  refine x_get E hw (C := RX3) (T := TX3) (N := 9) hinX3 0 rfl rfl 1 (by decide) rfl (List.mem_of_getElem? (i := 1) rfl) dX3_forget_1 ?_
  refine x_getN E hw (C := RX0) (T := TX0) (N := 5) hinX0 1 rfl rfl 4 (by decide) rfl (List.mem_of_getElem? (i := 12) rfl) dX3_forget_4 ?_
  refine x_cfVi E hw hl.1 (As := []) (rest := []) (c_X1_empty l G r4 q4 ns) 0 gX3_forget_X1_empty rfl rfl rfl (by decide) ⟨Nat.le_of_ble_eq_true rfl, Nat.le_of_ble_eq_true rfl⟩ ⟨Nat.le_of_ble_eq_true rfl, Nat.le_of_ble_eq_true rfl⟩ rfl 2 (ci := 1) (C := RX1) (T := TX1) (N := 2) rfl rfl [2] [0, 1] rfl rfl rfl rfl rfl [0, 1, 2] [(x, .inr (3, [.ref tx, .ref o, .ref o1, .ref o2, .int (nI pa), .int (nI pt), .int (nI off), .int (nI ha), .long tr])), (o, .inr (0, [.ref r0, .ref r1, .ref r2, .ref r3, .ref r4])), (r4, .inr (1, [.ref q4, .int (nI 0)]))] rfl rfl rfl (Nat.le_of_ble_eq_true rfl) dX3_forget_7 (fun H locs hw => ?_)
  exact hret (nI ns) () _ _ _ _ dX3_forget_10 rfl rfl hw

abbrev rm_X3_count : Room := { frames := 2, cells := 0, slots := 0, locals := 40 }
set_option maxHeartbeats 4000000 in
set_option maxRecDepth 100000 in
theorem c_X3_count (l : Launch) (G : XG) (x : Nat) (tx : Nat) (o : Nat) (o1 : Nat) (o2 : Nat) (pa : Nat) (pt : Nat) (off : Nat) (ha : Nat) (tr : Int64) (r0 : Nat) (r1 : Nat) (r2 : Nat) (r3 : Nat) (r4 : Nat) (b0 : Nat) (f0 : Nat) (f1 : Nat) (t1 : Int32) (t2 : Int32) (t3 : Int32) (t4 : Int32) (t7 : Int32) (t8 : Int32) (t9 : Int32) (t10 : Int32) (t11 : Int32) (t12 : Int32) (t13 : Int32) (t14 : Int32) (q0 : Nat) (q3 : Nat) (q4 : Nat) (d0 : Nat) (n : Nat) (nl : Nat) (ns : Nat) (nb : Nat) (k : Int32)  : CfI l yX3_count wsX3_count rm_X3_count G [.ref x, .int k] [(x, .inr (3, [.ref tx, .ref o, .ref o1, .ref o2, .int (nI pa), .int (nI pt), .int (nI off), .int (nI ha), .long tr])), (o, .inr (0, [.ref r0, .ref r1, .ref r2, .ref r3, .ref r4])), (r0, .inr (1, [.ref q0, .int (nI n)])), (r3, .inr (1, [.ref q3, .int (nI nl)])), (r4, .inr (1, [.ref q4, .int (nI ns)])), (tx, .inr (2, [.ref b0, .int t1, .int t2, .int t3, .int t4, .ref f0, .ref f1, .int t7, .int t8, .int t9, .int t10, .int t11, .int t12, .int t13, .int t14])), (b0, .inr (1, [.ref d0, .int (nI nb)]))] (countF n nl ns nb k.toInt) [(x, .inr (3, [.ref tx, .ref o, .ref o1, .ref o2, .int (nI pa), .int (nI pt), .int (nI off), .int (nI ha), .long tr])), (o, .inr (0, [.ref r0, .ref r1, .ref r2, .ref r3, .ref r4])), (r0, .inr (1, [.ref q0, .int (nI n)])), (r3, .inr (1, [.ref q3, .int (nI nl)])), (r4, .inr (1, [.ref q4, .int (nI ns)])), (tx, .inr (2, [.ref b0, .int t1, .int t2, .int t3, .int t4, .ref f0, .ref f1, .int t7, .int t8, .int t9, .int t10, .int t11, .int t12, .int t13, .int t14])), (b0, .inr (1, [.ref d0, .int (nI nb)]))] := by
  refine CtI.go (cc := cX3_count) (maxL := 2) RX3 rfl (by decide) rfl (Nat.le_of_ble_eq_true rfl) ?_
  intro p e s m args below meth c A Q ls E hw hl hret
  have hx := E.1
  have hb := E.2.1
  have hinX0 : ∀ w ∈ wsX00, w ∈ wsX3_count := (fun w h => List.mem_cons_of_mem _ (List.mem_append_left _ (List.mem_append_left _ (List.mem_append_right _ h))))
  have hinX2 : ∀ w ∈ wsX20, w ∈ wsX3_count := (fun w h => List.mem_cons_of_mem _ (List.mem_append_left _ (List.mem_append_right _ h)))
  have hinX3 : ∀ w ∈ wsX30, w ∈ wsX3_count := (fun w h => List.mem_cons_of_mem _ (List.mem_append_left _ (List.mem_append_left _ (List.mem_append_left _ (List.mem_append_right _ h)))))
  have hl : lv_has ls 2 [(0, .ref x), (1, .int k)] := hl
  refine lv_iload_n hx hb dX3_count_0 rfl (lv_at hl 1 rfl) ?_
  rcases (show k.toInt = 0 ∨ k.toInt = 1 ∨ k.toInt = 2 ∨ k.toInt = 3 ∨ (k.toInt < 0 ∨ 3 < k.toInt) by omega) with c_1 | c_1 | c_1 | c_1 | c_1
  · refine x_tsw E (rfl.trans c_1) (tgt := 32) dX3_count_1 (by decide) (by decide) rfl (by decide) ?_
    refine lv_aload_n hx hb dX3_count_32 rfl (lv_at hl 0 rfl) ?_
    refine x_get E hw (C := RX3) (T := TX3) (N := 9) hinX3 0 rfl rfl 1 (by decide) rfl (List.mem_of_getElem? (i := 1) rfl) dX3_count_33 ?_
    refine x_cfVi E hw hl.1 (As := []) (rest := []) (c_X0_creases l G o r0 r1 r2 r3 r4 q0 n) 0 gX3_count_X0_creases rfl rfl rfl (by decide) ⟨Nat.le_of_ble_eq_true rfl, Nat.le_of_ble_eq_true rfl⟩ ⟨Nat.le_of_ble_eq_true rfl, Nat.le_of_ble_eq_true rfl⟩ rfl 1 (ci := 0) (C := RX0) (T := TX0) (N := 5) rfl rfl [1, 2] [0, 3, 4, 5, 6] rfl rfl rfl rfl rfl [0, 5, 6, 1, 2, 3, 4] [(x, .inr (3, [.ref tx, .ref o, .ref o1, .ref o2, .int (nI pa), .int (nI pt), .int (nI off), .int (nI ha), .long tr])), (o, .inr (0, [.ref r0, .ref r1, .ref r2, .ref r3, .ref r4])), (r0, .inr (1, [.ref q0, .int (nI n)])), (r3, .inr (1, [.ref q3, .int (nI nl)])), (r4, .inr (1, [.ref q4, .int (nI ns)])), (tx, .inr (2, [.ref b0, .int t1, .int t2, .int t3, .int t4, .ref f0, .ref f1, .int t7, .int t8, .int t9, .int t10, .int t11, .int t12, .int t13, .int t14])), (b0, .inr (1, [.ref d0, .int (nI nb)]))] rfl rfl rfl (Nat.le_of_ble_eq_true rfl) dX3_count_36 (fun H locs hw => ?_)
    exact hret (nI n) () _ _ _ _ dX3_count_39 rfl (by rw [c_1]; rfl) hw
  · refine x_tsw E (rfl.trans c_1) (tgt := 40) dX3_count_1 (by decide) (by decide) rfl (by decide) ?_
    refine lv_aload_n hx hb dX3_count_40 rfl (lv_at hl 0 rfl) ?_
    refine x_get E hw (C := RX3) (T := TX3) (N := 9) hinX3 0 rfl rfl 1 (by decide) rfl (List.mem_of_getElem? (i := 1) rfl) dX3_count_41 ?_
    refine x_getN E hw (C := RX0) (T := TX0) (N := 5) hinX0 1 rfl rfl 3 (by decide) rfl (List.mem_of_getElem? (i := 11) rfl) dX3_count_44 ?_
    refine x_cfVi E hw hl.1 (As := []) (rest := []) (c_X1_size l G r3 q3 nl) 0 gX3_count_X1_size rfl rfl rfl (by decide) ⟨Nat.le_of_ble_eq_true rfl, Nat.le_of_ble_eq_true rfl⟩ ⟨Nat.le_of_ble_eq_true rfl, Nat.le_of_ble_eq_true rfl⟩ rfl 3 (ci := 1) (C := RX1) (T := TX1) (N := 2) rfl rfl [3] [0, 1, 2, 4, 5, 6] rfl rfl rfl rfl rfl [0, 1, 2, 6, 3, 4, 5] [(x, .inr (3, [.ref tx, .ref o, .ref o1, .ref o2, .int (nI pa), .int (nI pt), .int (nI off), .int (nI ha), .long tr])), (o, .inr (0, [.ref r0, .ref r1, .ref r2, .ref r3, .ref r4])), (r0, .inr (1, [.ref q0, .int (nI n)])), (r3, .inr (1, [.ref q3, .int (nI nl)])), (r4, .inr (1, [.ref q4, .int (nI ns)])), (tx, .inr (2, [.ref b0, .int t1, .int t2, .int t3, .int t4, .ref f0, .ref f1, .int t7, .int t8, .int t9, .int t10, .int t11, .int t12, .int t13, .int t14])), (b0, .inr (1, [.ref d0, .int (nI nb)]))] rfl rfl rfl (Nat.le_of_ble_eq_true rfl) dX3_count_47 (fun H locs hw => ?_)
    exact hret (nI nl) () _ _ _ _ dX3_count_50 rfl (by rw [c_1]; rfl) hw
  · refine x_tsw E (rfl.trans c_1) (tgt := 51) dX3_count_1 (by decide) (by decide) rfl (by decide) ?_
    refine lv_aload_n hx hb dX3_count_51 rfl (lv_at hl 0 rfl) ?_
    refine x_get E hw (C := RX3) (T := TX3) (N := 9) hinX3 0 rfl rfl 1 (by decide) rfl (List.mem_of_getElem? (i := 1) rfl) dX3_count_52 ?_
    refine x_getN E hw (C := RX0) (T := TX0) (N := 5) hinX0 1 rfl rfl 4 (by decide) rfl (List.mem_of_getElem? (i := 12) rfl) dX3_count_55 ?_
    refine x_cfVi E hw hl.1 (As := []) (rest := []) (c_X1_size l G r4 q4 ns) 0 gX3_count_X1_size rfl rfl rfl (by decide) ⟨Nat.le_of_ble_eq_true rfl, Nat.le_of_ble_eq_true rfl⟩ ⟨Nat.le_of_ble_eq_true rfl, Nat.le_of_ble_eq_true rfl⟩ rfl 4 (ci := 1) (C := RX1) (T := TX1) (N := 2) rfl rfl [4] [0, 1, 2, 3, 5, 6] rfl rfl rfl rfl rfl [0, 1, 2, 3, 6, 4, 5] [(x, .inr (3, [.ref tx, .ref o, .ref o1, .ref o2, .int (nI pa), .int (nI pt), .int (nI off), .int (nI ha), .long tr])), (o, .inr (0, [.ref r0, .ref r1, .ref r2, .ref r3, .ref r4])), (r0, .inr (1, [.ref q0, .int (nI n)])), (r3, .inr (1, [.ref q3, .int (nI nl)])), (r4, .inr (1, [.ref q4, .int (nI ns)])), (tx, .inr (2, [.ref b0, .int t1, .int t2, .int t3, .int t4, .ref f0, .ref f1, .int t7, .int t8, .int t9, .int t10, .int t11, .int t12, .int t13, .int t14])), (b0, .inr (1, [.ref d0, .int (nI nb)]))] rfl rfl rfl (Nat.le_of_ble_eq_true rfl) dX3_count_58 (fun H locs hw => ?_)
    exact hret (nI ns) () _ _ _ _ dX3_count_61 rfl (by rw [c_1]; rfl) hw
  · refine x_tsw E (rfl.trans c_1) (tgt := 62) dX3_count_1 (by decide) (by decide) rfl (by decide) ?_
    refine lv_aload_n hx hb dX3_count_62 rfl (lv_at hl 0 rfl) ?_
    refine x_get E hw (C := RX3) (T := TX3) (N := 9) hinX3 0 rfl rfl 0 (by decide) rfl (List.mem_of_getElem? (i := 2) rfl) dX3_count_63 ?_
    refine x_getN E hw (C := RX2) (T := TX2) (N := 15) hinX2 5 rfl rfl 0 (by decide) rfl (List.mem_of_getElem? (i := 0) rfl) dX3_count_66 ?_
    refine x_cfVi E hw hl.1 (As := []) (rest := []) (c_X1_size l G b0 d0 nb) 0 gX3_count_X1_size rfl rfl rfl (by decide) ⟨Nat.le_of_ble_eq_true rfl, Nat.le_of_ble_eq_true rfl⟩ ⟨Nat.le_of_ble_eq_true rfl, Nat.le_of_ble_eq_true rfl⟩ rfl 6 (ci := 1) (C := RX1) (T := TX1) (N := 2) rfl rfl [6] [0, 1, 2, 3, 4, 5] rfl rfl rfl rfl rfl [0, 1, 2, 3, 4, 5, 6] [(x, .inr (3, [.ref tx, .ref o, .ref o1, .ref o2, .int (nI pa), .int (nI pt), .int (nI off), .int (nI ha), .long tr])), (o, .inr (0, [.ref r0, .ref r1, .ref r2, .ref r3, .ref r4])), (r0, .inr (1, [.ref q0, .int (nI n)])), (r3, .inr (1, [.ref q3, .int (nI nl)])), (r4, .inr (1, [.ref q4, .int (nI ns)])), (tx, .inr (2, [.ref b0, .int t1, .int t2, .int t3, .int t4, .ref f0, .ref f1, .int t7, .int t8, .int t9, .int t10, .int t11, .int t12, .int t13, .int t14])), (b0, .inr (1, [.ref d0, .int (nI nb)]))] rfl rfl rfl (Nat.le_of_ble_eq_true rfl) dX3_count_69 (fun H locs hw => ?_)
    exact hret (nI nb) () _ _ _ _ dX3_count_72 rfl (by rw [c_1]; rfl) hw
  · refine x_tswD E rfl dX3_count_1 (tgt := 73) c_1 (by decide) ?_
    refine lv_iconst (v := (-1 : Int32)) hx hb dX3_count_73 (by decide) ?_
    exact hret (-1 : Int32) () _ _ _ _ dX3_count_74 rfl (by unfold countF; rw [if_neg (by omega), if_neg (by omega), if_neg (by omega), if_neg (by omega)]) hw

abbrev rm_X3_trace : Room := { frames := 0, cells := 0, slots := 0, locals := 0 }
set_option maxHeartbeats 4000000 in
set_option maxRecDepth 100000 in
theorem c_X3_trace (l : Launch) (G : XG) (x : Nat) (tx : Nat) (o : Nat) (o1 : Nat) (o2 : Nat) (pa : Nat) (pt : Nat) (off : Nat) (ha : Nat) (tr : Int64)  : CfL l yX3_trace wsX3_trace rm_X3_trace G [.ref x] [(x, .inr (3, [.ref tx, .ref o, .ref o1, .ref o2, .int (nI pa), .int (nI pt), .int (nI off), .int (nI ha), .long tr]))] tr [(x, .inr (3, [.ref tx, .ref o, .ref o1, .ref o2, .int (nI pa), .int (nI pt), .int (nI off), .int (nI ha), .long tr]))] := by
  refine CtL.go (cc := cX3_trace) (maxL := 1) RX3 rfl (by decide) rfl (Nat.le_of_ble_eq_true rfl) ?_
  intro p e s m args below meth c A Q ls E hw hl hret
  have hx := E.1
  have hb := E.2.1
  have hinX3 : ∀ w ∈ wsX30, w ∈ wsX3_trace := (fun w h => List.mem_cons_of_mem _ (List.mem_append_right _ h))
  have hl : lv_has ls 1 [(0, .ref x)] := hl
  refine lv_aload_n hx hb dX3_trace_0 rfl (lv_at hl 0 rfl) ?_
  refine x_get E hw (C := RX3) (T := TX3) (N := 9) hinX3 0 rfl rfl 8 (by decide) rfl (List.mem_of_getElem? (i := 1) rfl) dX3_trace_1 ?_
  exact hret tr () _ _ _ _ dX3_trace_4 rfl hw

abbrev rm_X3_asCrease : Room := { frames := 0, cells := 0, slots := 0, locals := 0 }
set_option maxHeartbeats 4000000 in
set_option maxRecDepth 100000 in
theorem c_X3_asCrease (l : Launch) (G : XG) (x : Nat) (tx : Nat) (o : Nat) (o1 : Nat) (o2 : Nat) (pa : Nat) (pt : Nat) (off : Nat) (ha : Nat) (tr : Int64) (k : Nat)  : CfI l yX3_asCrease wsX3_asCrease rm_X3_asCrease G [.ref x, .int (nI k)] [(x, .inr (3, [.ref tx, .ref o, .ref o1, .ref o2, .int (nI pa), .int (nI pt), .int (nI off), .int (nI ha), .long tr]))] (nI k) [(x, .inr (3, [.ref tx, .ref o, .ref o1, .ref o2, .int (nI pa), .int (nI pt), .int (nI off), .int (nI ha), .long (tr + lN 1)]))] := by
  refine CtI.go (cc := cX3_asCrease) (maxL := 2) RX3 rfl (by decide) rfl (Nat.le_of_ble_eq_true rfl) ?_
  intro p e s m args below meth c A Q ls E hw hl hret
  have hx := E.1
  have hb := E.2.1
  have hinX3 : ∀ w ∈ wsX30, w ∈ wsX3_asCrease := (fun w h => List.mem_cons_of_mem _ (List.mem_append_right _ h))
  have hl : lv_has ls 2 [(0, .ref x), (1, .int (nI k))] := hl
  refine lv_aload_n hx hb dX3_asCrease_0 rfl (lv_at hl 0 rfl) ?_
  refine lv_dup hx hb dX3_asCrease_1 rfl ?_
  refine x_get E hw (C := RX3) (T := TX3) (N := 9) hinX3 0 rfl rfl 8 (by decide) rfl (List.mem_of_getElem? (i := 1) rfl) dX3_asCrease_2 ?_
  refine lv_lconst (v := (lN 1)) hx hb dX3_asCrease_5 (by decide) ?_
  refine x_ladd E (v := (tr + (lN 1))) dX3_asCrease_6 rfl ?_
  refine x_put E hw (C := RX3) (T := TX3) (N := 9) (ws1 := [(x, .inr (3, [.ref tx, .ref o, .ref o1, .ref o2, .int (nI pa), .int (nI pt), .int (nI off), .int (nI ha), .long (tr + (lN 1))]))]) hinX3 tyX3_ok nmX3 0 rfl rfl 8 (by decide) (List.mem_of_getElem? (i := 1) rfl) rfl rfl rfl (Nat.le_of_ble_eq_true rfl) rfl dX3_asCrease_7 (fun H locs hw => ?_)
  refine lv_iload_n hx hb dX3_asCrease_10 rfl (lv_at hl 1 rfl) ?_
  exact hret (nI k) () _ _ _ _ dX3_asCrease_11 rfl rfl hw

abbrev rm_X3_asPinch : Room := { frames := 2, cells := 0, slots := 0, locals := 44 }
set_option maxHeartbeats 4000000 in
set_option maxRecDepth 100000 in
theorem c_X3_asPinch (l : Launch) (G : XG) (x : Nat) (tx : Nat) (o : Nat) (o1 : Nat) (o2 : Nat) (pa : Nat) (pt : Nat) (off : Nat) (ha : Nat) (tr : Int64) (r0 : Nat) (r1 : Nat) (r2 : Nat) (r3 : Nat) (r4 : Nat) (q0 : Nat) (n : Nat) (k : Nat) (gw : Nat → Nat) (hn : n ≤ 23) (hk : k < n) (hgw : ∀ q, gw q < 1073741824) : CfI l yX3_asPinch wsX3_asPinch rm_X3_asPinch G [.ref x, .int (nI k)] [(x, .inr (3, [.ref tx, .ref o, .ref o1, .ref o2, .int (nI pa), .int (nI pt), .int (nI off), .int (nI ha), .long tr])), (o, .inr (0, [.ref r0, .ref r1, .ref r2, .ref r3, .ref r4])), (r0, .inr (1, [.ref q0, .int (nI n)])), (q0, .inl (cJ G, 23, .inr (.inl (fJ gw))))] (nI (k + pz (gw k))) [(x, .inr (3, [.ref tx, .ref o, .ref o1, .ref o2, .int (nI pa), .int (nI pt), .int (nI off), .int (nI ha), .long (tr + lN 11)])), (o, .inr (0, [.ref r0, .ref r1, .ref r2, .ref r3, .ref r4])), (r0, .inr (1, [.ref q0, .int (nI n)])), (q0, .inl (cJ G, 23, .inr (.inl (fJ gw))))] := by
  refine CtI.go (cc := cX3_asPinch) (maxL := 3) RX3 rfl (by decide) rfl (Nat.le_of_ble_eq_true rfl) ?_
  intro p e s m args below meth c A Q ls E hw hl hret
  have hx := E.1
  have hb := E.2.1
  have hinX3 : ∀ w ∈ wsX30, w ∈ wsX3_asPinch := (fun w h => List.mem_cons_of_mem _ (List.mem_append_left _ (List.mem_append_left _ (List.mem_append_right _ h))))
  have hl : lv_has ls 3 [(0, .ref x), (1, .int (nI k))] := hl
  refine lv_aload_n hx hb dX3_asPinch_0 rfl (lv_at hl 0 rfl) ?_
  refine lv_dup hx hb dX3_asPinch_1 rfl ?_
  refine x_get E hw (C := RX3) (T := TX3) (N := 9) hinX3 0 rfl rfl 8 (by decide) rfl (List.mem_of_getElem? (i := 1) rfl) dX3_asPinch_2 ?_
  refine lv_ldc2 (v := (10)) hx hb E.2.2.2.1 (E.2.2.2.2 _ (List.mem_of_getElem? (i := 2) rfl)) dX3_asPinch_5 ?_
  refine x_topl (v := lN 10) (by decide) ?_
  refine x_ladd E (v := (tr + (lN 10))) dX3_asPinch_8 rfl ?_
  refine x_put E hw (C := RX3) (T := TX3) (N := 9) (ws1 := [(x, .inr (3, [.ref tx, .ref o, .ref o1, .ref o2, .int (nI pa), .int (nI pt), .int (nI off), .int (nI ha), .long (tr + (lN 10))])), (o, .inr (0, [.ref r0, .ref r1, .ref r2, .ref r3, .ref r4])), (r0, .inr (1, [.ref q0, .int (nI n)])), (q0, .inl (cJ G, 23, .inr (.inl (fJ gw))))]) hinX3 tyX3_ok nmX3 0 rfl rfl 8 (by decide) (List.mem_of_getElem? (i := 1) rfl) rfl rfl rfl (Nat.le_of_ble_eq_true rfl) rfl dX3_asPinch_9 (fun H locs hw => ?_)
  have hgk := hgw k
  by_cases hm : gw k % 1048576 = 0
  · have hgk := hgw k
    refine lv_aload_n hx hb dX3_asPinch_12 rfl (lv_at hl 0 rfl) ?_
    refine lv_iload_n hx hb dX3_asPinch_13 rfl (lv_at hl 1 rfl) ?_
    refine x_cfVi E hw hl.1 (As := [.int (nI k)]) (rest := []) (c_X3_partOfY l G x tx o o1 o2 pa pt off ha (tr + (lN 10)) r0 r1 r2 r3 r4 q0 n k gw (by omega) (hgw _) (by assumption)) 1 gX3_asPinch_X3_partOf rfl rfl rfl (by decide) ⟨Nat.le_of_ble_eq_true rfl, Nat.le_of_ble_eq_true rfl⟩ ⟨Nat.le_of_ble_eq_true rfl, Nat.le_of_ble_eq_true rfl⟩ rfl 0 (ci := 3) (C := RX3) (T := TX3) (N := 9) rfl rfl [0, 1, 2, 3] [] rfl rfl rfl rfl rfl [0, 1, 2, 3] [(x, .inr (3, [.ref tx, .ref o, .ref o1, .ref o2, .int (nI pa), .int (nI pt), .int (nI off), .int (nI ha), .long (tr + (lN 10))])), (o, .inr (0, [.ref r0, .ref r1, .ref r2, .ref r3, .ref r4])), (r0, .inr (1, [.ref q0, .int (nI n)])), (q0, .inl (cJ G, 23, .inr (.inl (fJ gw))))] rfl rfl rfl (Nat.le_of_ble_eq_true rfl) dX3_asPinch_14 (fun H locs hw => ?_)
    refine lv_istore_n (lv' := [(2, .int (nI (gw k / 1048576))), (0, .ref x), (1, .int (nI k))]) hx hb dX3_asPinch_17 rfl hl (by decide) rfl (fun ls hl => ?_)
    refine lv_aload_n hx hb dX3_asPinch_18 rfl (lv_at hl 1 rfl) ?_
    refine lv_iload_n hx hb dX3_asPinch_19 rfl (lv_at hl 2 rfl) ?_
    refine x_cfVi E hw hl.1 (As := [.int (nI k)]) (rest := []) (c_X3_asCrease l G x tx o o1 o2 pa pt off ha (tr + (lN 10)) k) 1 gX3_asPinch_X3_asCrease rfl rfl rfl (by decide) ⟨Nat.le_of_ble_eq_true rfl, Nat.le_of_ble_eq_true rfl⟩ ⟨Nat.le_of_ble_eq_true rfl, Nat.le_of_ble_eq_true rfl⟩ rfl 0 (ci := 3) (C := RX3) (T := TX3) (N := 9) rfl rfl [0] [1, 2, 3] rfl rfl rfl rfl rfl [3, 0, 1, 2] [(x, .inr (3, [.ref tx, .ref o, .ref o1, .ref o2, .int (nI pa), .int (nI pt), .int (nI off), .int (nI ha), .long ((tr + (lN 10)) + lN 1)])), (o, .inr (0, [.ref r0, .ref r1, .ref r2, .ref r3, .ref r4])), (r0, .inr (1, [.ref q0, .int (nI n)])), (q0, .inl (cJ G, 23, .inr (.inl (fJ gw))))] rfl rfl rfl (Nat.le_of_ble_eq_true rfl) dX3_asPinch_20 (fun H locs hw => ?_)
    refine lv_iload_n hx hb dX3_asPinch_23 rfl (lv_at hl 0 rfl) ?_
    refine lv_bipush (v := (-9 : Int32)) hx hb dX3_asPinch_24 (by decide) ?_
    refine x_icmp_ne E (nI_toI (show gw k / 1048576 < 2147483648 by omega)) (show ((-9 : Int32)).toInt = -9 by decide) (tgt := 33) dX3_asPinch_26 (by decide) (fun hc => ?_) (fun hc => ?_)
    · refine lv_iload_n hx hb dX3_asPinch_33 rfl (lv_at hl 0 rfl) ?_
      refine x_iadd E (v := (nI (k + (gw k / 1048576)))) dX3_asPinch_34 (nI_add _ _) ?_
      exact hret (nI (k + (gw k / 1048576))) () _ _ _ _ dX3_asPinch_35 rfl (by rw [← pz_y hm]) (hw.cast (by rw [Int64.add_assoc]; rfl))
    · exfalso; omega
  · have hgk := hgw k
    refine lv_aload_n hx hb dX3_asPinch_12 rfl (lv_at hl 0 rfl) ?_
    refine lv_iload_n hx hb dX3_asPinch_13 rfl (lv_at hl 1 rfl) ?_
    refine x_cfVi E hw hl.1 (As := [.int (nI k)]) (rest := []) (c_X3_partOfN l G x tx o o1 o2 pa pt off ha (tr + (lN 10)) r0 r1 r2 r3 r4 q0 n k gw (by omega) (hgw _) (by assumption)) 1 gX3_asPinch_X3_partOf rfl rfl rfl (by decide) ⟨Nat.le_of_ble_eq_true rfl, Nat.le_of_ble_eq_true rfl⟩ ⟨Nat.le_of_ble_eq_true rfl, Nat.le_of_ble_eq_true rfl⟩ rfl 0 (ci := 3) (C := RX3) (T := TX3) (N := 9) rfl rfl [0, 1, 2, 3] [] rfl rfl rfl rfl rfl [0, 1, 2, 3] [(x, .inr (3, [.ref tx, .ref o, .ref o1, .ref o2, .int (nI pa), .int (nI pt), .int (nI off), .int (nI ha), .long (tr + (lN 10))])), (o, .inr (0, [.ref r0, .ref r1, .ref r2, .ref r3, .ref r4])), (r0, .inr (1, [.ref q0, .int (nI n)])), (q0, .inl (cJ G, 23, .inr (.inl (fJ gw))))] rfl rfl rfl (Nat.le_of_ble_eq_true rfl) dX3_asPinch_14 (fun H locs hw => ?_)
    refine lv_istore_n (lv' := [(2, .int (-9 : Int32)), (0, .ref x), (1, .int (nI k))]) hx hb dX3_asPinch_17 rfl hl (by decide) rfl (fun ls hl => ?_)
    refine lv_aload_n hx hb dX3_asPinch_18 rfl (lv_at hl 1 rfl) ?_
    refine lv_iload_n hx hb dX3_asPinch_19 rfl (lv_at hl 2 rfl) ?_
    refine x_cfVi E hw hl.1 (As := [.int (nI k)]) (rest := []) (c_X3_asCrease l G x tx o o1 o2 pa pt off ha (tr + (lN 10)) k) 1 gX3_asPinch_X3_asCrease rfl rfl rfl (by decide) ⟨Nat.le_of_ble_eq_true rfl, Nat.le_of_ble_eq_true rfl⟩ ⟨Nat.le_of_ble_eq_true rfl, Nat.le_of_ble_eq_true rfl⟩ rfl 0 (ci := 3) (C := RX3) (T := TX3) (N := 9) rfl rfl [0] [1, 2, 3] rfl rfl rfl rfl rfl [3, 0, 1, 2] [(x, .inr (3, [.ref tx, .ref o, .ref o1, .ref o2, .int (nI pa), .int (nI pt), .int (nI off), .int (nI ha), .long ((tr + (lN 10)) + lN 1)])), (o, .inr (0, [.ref r0, .ref r1, .ref r2, .ref r3, .ref r4])), (r0, .inr (1, [.ref q0, .int (nI n)])), (q0, .inl (cJ G, 23, .inr (.inl (fJ gw))))] rfl rfl rfl (Nat.le_of_ble_eq_true rfl) dX3_asPinch_20 (fun H locs hw => ?_)
    refine lv_iload_n hx hb dX3_asPinch_23 rfl (lv_at hl 0 rfl) ?_
    refine lv_bipush (v := (-9 : Int32)) hx hb dX3_asPinch_24 (by decide) ?_
    refine x_icmp_ne E (show ((-9 : Int32)).toInt = -9 by decide) (show ((-9 : Int32)).toInt = -9 by decide) (tgt := 33) dX3_asPinch_26 (by decide) (fun hc => ?_) (fun hc => ?_)
    · exact absurd rfl hc
    · refine lv_iconst (v := (nI 0)) hx hb dX3_asPinch_29 (by decide) ?_
      refine lv_goto (tgt := 34) hx hb dX3_asPinch_30 (by decide) ?_
      refine x_iadd E (v := (nI (k + 0))) dX3_asPinch_34 (nI_add _ _) ?_
      exact hret (nI (k + 0)) () _ _ _ _ dX3_asPinch_35 rfl (by rw [← pz_n hm]) (hw.cast (by rw [Int64.add_assoc]; rfl))

abbrev rm_X3_asEnd : Room := { frames := 2, cells := 0, slots := 0, locals := 40 }
set_option maxHeartbeats 4000000 in
set_option maxRecDepth 100000 in
theorem c_X3_asEnd (l : Launch) (G : XG) (x : Nat) (tx : Nat) (o : Nat) (o1 : Nat) (o2 : Nat) (pa : Nat) (pt : Nat) (off : Nat) (ha : Nat) (tr : Int64) (r0 : Nat) (r1 : Nat) (r2 : Nat) (r3 : Nat) (r4 : Nat) (q0 : Nat) (n : Nat) (k : Nat)  : CfI l yX3_asEnd wsX3_asEnd rm_X3_asEnd G [.ref x, .int (nI k)] [(x, .inr (3, [.ref tx, .ref o, .ref o1, .ref o2, .int (nI pa), .int (nI pt), .int (nI off), .int (nI ha), .long tr])), (o, .inr (0, [.ref r0, .ref r1, .ref r2, .ref r3, .ref r4])), (r0, .inr (1, [.ref q0, .int (nI n)]))] (nI k - nI n) [(x, .inr (3, [.ref tx, .ref o, .ref o1, .ref o2, .int (nI pa), .int (nI pt), .int (nI off), .int (nI ha), .long (tr + lN 101)])), (o, .inr (0, [.ref r0, .ref r1, .ref r2, .ref r3, .ref r4])), (r0, .inr (1, [.ref q0, .int (nI n)]))] := by
  refine CtI.go (cc := cX3_asEnd) (maxL := 2) RX3 rfl (by decide) rfl (Nat.le_of_ble_eq_true rfl) ?_
  intro p e s m args below meth c A Q ls E hw hl hret
  have hx := E.1
  have hb := E.2.1
  have hinX3 : ∀ w ∈ wsX30, w ∈ wsX3_asEnd := (fun w h => List.mem_cons_of_mem _ (List.mem_append_left _ (List.mem_append_left _ (List.mem_append_right _ h))))
  have hl : lv_has ls 2 [(0, .ref x), (1, .int (nI k))] := hl
  refine lv_aload_n hx hb dX3_asEnd_0 rfl (lv_at hl 0 rfl) ?_
  refine lv_dup hx hb dX3_asEnd_1 rfl ?_
  refine x_get E hw (C := RX3) (T := TX3) (N := 9) hinX3 0 rfl rfl 8 (by decide) rfl (List.mem_of_getElem? (i := 1) rfl) dX3_asEnd_2 ?_
  refine lv_ldc2 (v := (100)) hx hb E.2.2.2.1 (E.2.2.2.2 _ (List.mem_of_getElem? (i := 2) rfl)) dX3_asEnd_5 ?_
  refine x_topl (v := lN 100) (by decide) ?_
  refine x_ladd E (v := (tr + (lN 100))) dX3_asEnd_8 rfl ?_
  refine x_put E hw (C := RX3) (T := TX3) (N := 9) (ws1 := [(x, .inr (3, [.ref tx, .ref o, .ref o1, .ref o2, .int (nI pa), .int (nI pt), .int (nI off), .int (nI ha), .long (tr + (lN 100))])), (o, .inr (0, [.ref r0, .ref r1, .ref r2, .ref r3, .ref r4])), (r0, .inr (1, [.ref q0, .int (nI n)]))]) hinX3 tyX3_ok nmX3 0 rfl rfl 8 (by decide) (List.mem_of_getElem? (i := 1) rfl) rfl rfl rfl (Nat.le_of_ble_eq_true rfl) rfl dX3_asEnd_9 (fun H locs hw => ?_)
  refine lv_aload_n hx hb dX3_asEnd_12 rfl (lv_at hl 0 rfl) ?_
  refine lv_iload_n hx hb dX3_asEnd_13 rfl (lv_at hl 1 rfl) ?_
  refine x_cfVi E hw hl.1 (As := [.int (nI k)]) (rest := []) (c_X3_asCrease l G x tx o o1 o2 pa pt off ha (tr + (lN 100)) k) 1 gX3_asEnd_X3_asCrease rfl rfl rfl (by decide) ⟨Nat.le_of_ble_eq_true rfl, Nat.le_of_ble_eq_true rfl⟩ ⟨Nat.le_of_ble_eq_true rfl, Nat.le_of_ble_eq_true rfl⟩ rfl 0 (ci := 3) (C := RX3) (T := TX3) (N := 9) rfl rfl [0] [1, 2] rfl rfl rfl rfl rfl [2, 0, 1] [(x, .inr (3, [.ref tx, .ref o, .ref o1, .ref o2, .int (nI pa), .int (nI pt), .int (nI off), .int (nI ha), .long ((tr + (lN 100)) + lN 1)])), (o, .inr (0, [.ref r0, .ref r1, .ref r2, .ref r3, .ref r4])), (r0, .inr (1, [.ref q0, .int (nI n)]))] rfl rfl rfl (Nat.le_of_ble_eq_true rfl) dX3_asEnd_14 (fun H locs hw => ?_)
  refine lv_aload_n hx hb dX3_asEnd_17 rfl (lv_at hl 0 rfl) ?_
  refine x_get E hw (C := RX3) (T := TX3) (N := 9) hinX3 0 rfl rfl 1 (by decide) rfl (List.mem_of_getElem? (i := 3) rfl) dX3_asEnd_18 ?_
  refine x_cfVi E hw hl.1 (As := []) (rest := [.int (nI k)]) (c_X0_creases l G o r0 r1 r2 r3 r4 q0 n) 0 gX3_asEnd_X0_creases rfl rfl rfl (by decide) ⟨Nat.le_of_ble_eq_true rfl, Nat.le_of_ble_eq_true rfl⟩ ⟨Nat.le_of_ble_eq_true rfl, Nat.le_of_ble_eq_true rfl⟩ rfl 1 (ci := 0) (C := RX0) (T := TX0) (N := 5) rfl rfl [1, 2] [0] rfl rfl rfl rfl rfl [0, 1, 2] [(x, .inr (3, [.ref tx, .ref o, .ref o1, .ref o2, .int (nI pa), .int (nI pt), .int (nI off), .int (nI ha), .long ((tr + (lN 100)) + lN 1)])), (o, .inr (0, [.ref r0, .ref r1, .ref r2, .ref r3, .ref r4])), (r0, .inr (1, [.ref q0, .int (nI n)]))] rfl rfl rfl (Nat.le_of_ble_eq_true rfl) dX3_asEnd_21 (fun H locs hw => ?_)
  refine x_isub E (v := (nI k - nI n)) dX3_asEnd_24 rfl ?_
  exact hret (nI k - nI n) () _ _ _ _ dX3_asEnd_25 rfl rfl (hw.cast (by rw [Int64.add_assoc]; rfl))

abbrev rm_X3_asThumb : Room := { frames := 3, cells := 0, slots := 0, locals := 66 }
set_option maxHeartbeats 4000000 in
set_option maxRecDepth 100000 in
theorem c_X3_asThumb (l : Launch) (G : XG) (x : Nat) (tx : Nat) (o : Nat) (o1 : Nat) (o2 : Nat) (pa : Nat) (pt : Nat) (off : Nat) (ha : Nat) (tr : Int64) (r0 : Nat) (r1 : Nat) (r2 : Nat) (r3 : Nat) (r4 : Nat) (q0 : Nat) (n : Nat) (k : Nat) (gw : Nat → Nat) (hn : n ≤ 23) (hk : k < n) (hgw : ∀ q, gw q < 1073741824) : CfI l yX3_asThumb wsX3_asThumb rm_X3_asThumb G [.ref x, .int (nI k)] [(x, .inr (3, [.ref tx, .ref o, .ref o1, .ref o2, .int (nI pa), .int (nI pt), .int (nI off), .int (nI ha), .long tr])), (o, .inr (0, [.ref r0, .ref r1, .ref r2, .ref r3, .ref r4])), (r0, .inr (1, [.ref q0, .int (nI n)])), (q0, .inl (cJ G, 23, .inr (.inl (fJ gw))))] (nI ((k + pz (gw k)) * 2)) [(x, .inr (3, [.ref tx, .ref o, .ref o1, .ref o2, .int (nI pa), .int (nI pt), .int (nI off), .int (nI ha), .long (tr + lN 1011)])), (o, .inr (0, [.ref r0, .ref r1, .ref r2, .ref r3, .ref r4])), (r0, .inr (1, [.ref q0, .int (nI n)])), (q0, .inl (cJ G, 23, .inr (.inl (fJ gw))))] := by
  refine CtI.go (cc := cX3_asThumb) (maxL := 2) RX3 rfl (by decide) rfl (Nat.le_of_ble_eq_true rfl) ?_
  intro p e s m args below meth c A Q ls E hw hl hret
  have hx := E.1
  have hb := E.2.1
  have hinX3 : ∀ w ∈ wsX30, w ∈ wsX3_asThumb := (fun w h => List.mem_cons_of_mem _ (List.mem_append_left _ (List.mem_append_left _ (List.mem_append_right _ h))))
  have hl : lv_has ls 2 [(0, .ref x), (1, .int (nI k))] := hl
  refine lv_aload_n hx hb dX3_asThumb_0 rfl (lv_at hl 0 rfl) ?_
  refine lv_dup hx hb dX3_asThumb_1 rfl ?_
  refine x_get E hw (C := RX3) (T := TX3) (N := 9) hinX3 0 rfl rfl 8 (by decide) rfl (List.mem_of_getElem? (i := 1) rfl) dX3_asThumb_2 ?_
  refine lv_ldc2 (v := (1000)) hx hb E.2.2.2.1 (E.2.2.2.2 _ (List.mem_of_getElem? (i := 2) rfl)) dX3_asThumb_5 ?_
  refine x_topl (v := lN 1000) (by decide) ?_
  refine x_ladd E (v := (tr + (lN 1000))) dX3_asThumb_8 rfl ?_
  refine x_put E hw (C := RX3) (T := TX3) (N := 9) (ws1 := [(x, .inr (3, [.ref tx, .ref o, .ref o1, .ref o2, .int (nI pa), .int (nI pt), .int (nI off), .int (nI ha), .long (tr + (lN 1000))])), (o, .inr (0, [.ref r0, .ref r1, .ref r2, .ref r3, .ref r4])), (r0, .inr (1, [.ref q0, .int (nI n)])), (q0, .inl (cJ G, 23, .inr (.inl (fJ gw))))]) hinX3 tyX3_ok nmX3 0 rfl rfl 8 (by decide) (List.mem_of_getElem? (i := 1) rfl) rfl rfl rfl (Nat.le_of_ble_eq_true rfl) rfl dX3_asThumb_9 (fun H locs hw => ?_)
  refine lv_aload_n hx hb dX3_asThumb_12 rfl (lv_at hl 0 rfl) ?_
  refine lv_iload_n hx hb dX3_asThumb_13 rfl (lv_at hl 1 rfl) ?_
  refine x_cfVi E hw hl.1 (As := [.int (nI k)]) (rest := []) (c_X3_asPinch l G x tx o o1 o2 pa pt off ha (tr + (lN 1000)) r0 r1 r2 r3 r4 q0 n k gw (by omega) (by omega) hgw) 1 gX3_asThumb_X3_asPinch rfl rfl rfl (by decide) ⟨Nat.le_of_ble_eq_true rfl, Nat.le_of_ble_eq_true rfl⟩ ⟨Nat.le_of_ble_eq_true rfl, Nat.le_of_ble_eq_true rfl⟩ rfl 0 (ci := 3) (C := RX3) (T := TX3) (N := 9) rfl rfl [0, 1, 2, 3] [] rfl rfl rfl rfl rfl [0, 1, 2, 3] [(x, .inr (3, [.ref tx, .ref o, .ref o1, .ref o2, .int (nI pa), .int (nI pt), .int (nI off), .int (nI ha), .long ((tr + (lN 1000)) + lN 11)])), (o, .inr (0, [.ref r0, .ref r1, .ref r2, .ref r3, .ref r4])), (r0, .inr (1, [.ref q0, .int (nI n)])), (q0, .inl (cJ G, 23, .inr (.inl (fJ gw))))] rfl rfl rfl (Nat.le_of_ble_eq_true rfl) dX3_asThumb_14 (fun H locs hw => ?_)
  refine lv_iconst (v := (nI 2)) hx hb dX3_asThumb_17 (by decide) ?_
  refine x_imul E (v := (nI ((k + pz (gw k)) * 2))) dX3_asThumb_18 (pk_mul _ _) ?_
  exact hret (nI ((k + pz (gw k)) * 2)) () _ _ _ _ dX3_asThumb_19 rfl rfl (hw.cast (by rw [Int64.add_assoc]; rfl))

abbrev rm_X3_asCorner : Room := { frames := 3, cells := 0, slots := 0, locals := 61 }
set_option maxHeartbeats 4000000 in
set_option maxRecDepth 100000 in
theorem c_X3_asCorner (l : Launch) (G : XG) (x : Nat) (tx : Nat) (o : Nat) (o1 : Nat) (o2 : Nat) (pa : Nat) (pt : Nat) (off : Nat) (ha : Nat) (tr : Int64) (r0 : Nat) (r1 : Nat) (r2 : Nat) (r3 : Nat) (r4 : Nat) (q0 : Nat) (q3 : Nat) (n : Nat) (nl : Nat) (k : Nat)  : CfI l yX3_asCorner wsX3_asCorner rm_X3_asCorner G [.ref x, .int (nI k)] [(x, .inr (3, [.ref tx, .ref o, .ref o1, .ref o2, .int (nI pa), .int (nI pt), .int (nI off), .int (nI ha), .long tr])), (o, .inr (0, [.ref r0, .ref r1, .ref r2, .ref r3, .ref r4])), (r0, .inr (1, [.ref q0, .int (nI n)])), (r3, .inr (1, [.ref q3, .int (nI nl)]))] (nI k - nI n + nI nl) [(x, .inr (3, [.ref tx, .ref o, .ref o1, .ref o2, .int (nI pa), .int (nI pt), .int (nI off), .int (nI ha), .long (tr + lN 10101)])), (o, .inr (0, [.ref r0, .ref r1, .ref r2, .ref r3, .ref r4])), (r0, .inr (1, [.ref q0, .int (nI n)])), (r3, .inr (1, [.ref q3, .int (nI nl)]))] := by
  refine CtI.go (cc := cX3_asCorner) (maxL := 2) RX3 rfl (by decide) rfl (Nat.le_of_ble_eq_true rfl) ?_
  intro p e s m args below meth c A Q ls E hw hl hret
  have hx := E.1
  have hb := E.2.1
  have hinX0 : ∀ w ∈ wsX00, w ∈ wsX3_asCorner := (fun w h => List.mem_cons_of_mem _ (List.mem_append_left _ (List.mem_append_right _ h)))
  have hinX3 : ∀ w ∈ wsX30, w ∈ wsX3_asCorner := (fun w h => List.mem_cons_of_mem _ (List.mem_append_left _ (List.mem_append_left _ (List.mem_append_right _ h))))
  have hl : lv_has ls 2 [(0, .ref x), (1, .int (nI k))] := hl
  refine lv_aload_n hx hb dX3_asCorner_0 rfl (lv_at hl 0 rfl) ?_
  refine lv_dup hx hb dX3_asCorner_1 rfl ?_
  refine x_get E hw (C := RX3) (T := TX3) (N := 9) hinX3 0 rfl rfl 8 (by decide) rfl (List.mem_of_getElem? (i := 1) rfl) dX3_asCorner_2 ?_
  refine lv_ldc2 (v := (10000)) hx hb E.2.2.2.1 (E.2.2.2.2 _ (List.mem_of_getElem? (i := 2) rfl)) dX3_asCorner_5 ?_
  refine x_topl (v := lN 10000) (by decide) ?_
  refine x_ladd E (v := (tr + (lN 10000))) dX3_asCorner_8 rfl ?_
  refine x_put E hw (C := RX3) (T := TX3) (N := 9) (ws1 := [(x, .inr (3, [.ref tx, .ref o, .ref o1, .ref o2, .int (nI pa), .int (nI pt), .int (nI off), .int (nI ha), .long (tr + (lN 10000))])), (o, .inr (0, [.ref r0, .ref r1, .ref r2, .ref r3, .ref r4])), (r0, .inr (1, [.ref q0, .int (nI n)])), (r3, .inr (1, [.ref q3, .int (nI nl)]))]) hinX3 tyX3_ok nmX3 0 rfl rfl 8 (by decide) (List.mem_of_getElem? (i := 1) rfl) rfl rfl rfl (Nat.le_of_ble_eq_true rfl) rfl dX3_asCorner_9 (fun H locs hw => ?_)
  refine lv_aload_n hx hb dX3_asCorner_12 rfl (lv_at hl 0 rfl) ?_
  refine lv_iload_n hx hb dX3_asCorner_13 rfl (lv_at hl 1 rfl) ?_
  refine x_cfVi E hw hl.1 (As := [.int (nI k)]) (rest := []) (c_X3_asEnd l G x tx o o1 o2 pa pt off ha (tr + (lN 10000)) r0 r1 r2 r3 r4 q0 n k) 1 gX3_asCorner_X3_asEnd rfl rfl rfl (by decide) ⟨Nat.le_of_ble_eq_true rfl, Nat.le_of_ble_eq_true rfl⟩ ⟨Nat.le_of_ble_eq_true rfl, Nat.le_of_ble_eq_true rfl⟩ rfl 0 (ci := 3) (C := RX3) (T := TX3) (N := 9) rfl rfl [0, 1, 2] [3] rfl rfl rfl rfl rfl [1, 2, 3, 0] [(x, .inr (3, [.ref tx, .ref o, .ref o1, .ref o2, .int (nI pa), .int (nI pt), .int (nI off), .int (nI ha), .long ((tr + (lN 10000)) + lN 101)])), (o, .inr (0, [.ref r0, .ref r1, .ref r2, .ref r3, .ref r4])), (r0, .inr (1, [.ref q0, .int (nI n)])), (r3, .inr (1, [.ref q3, .int (nI nl)]))] rfl rfl rfl (Nat.le_of_ble_eq_true rfl) dX3_asCorner_14 (fun H locs hw => ?_)
  refine lv_aload_n hx hb dX3_asCorner_17 rfl (lv_at hl 0 rfl) ?_
  refine x_get E hw (C := RX3) (T := TX3) (N := 9) hinX3 0 rfl rfl 1 (by decide) rfl (List.mem_of_getElem? (i := 3) rfl) dX3_asCorner_18 ?_
  refine x_getN E hw (C := RX0) (T := TX0) (N := 5) hinX0 1 rfl rfl 3 (by decide) rfl (List.mem_of_getElem? (i := 11) rfl) dX3_asCorner_21 ?_
  refine x_cfVi E hw hl.1 (As := []) (rest := [.int (nI k - nI n)]) (c_X1_size l G r3 q3 nl) 0 gX3_asCorner_X1_size rfl rfl rfl (by decide) ⟨Nat.le_of_ble_eq_true rfl, Nat.le_of_ble_eq_true rfl⟩ ⟨Nat.le_of_ble_eq_true rfl, Nat.le_of_ble_eq_true rfl⟩ rfl 3 (ci := 1) (C := RX1) (T := TX1) (N := 2) rfl rfl [3] [0, 1, 2] rfl rfl rfl rfl rfl [0, 1, 2, 3] [(x, .inr (3, [.ref tx, .ref o, .ref o1, .ref o2, .int (nI pa), .int (nI pt), .int (nI off), .int (nI ha), .long ((tr + (lN 10000)) + lN 101)])), (o, .inr (0, [.ref r0, .ref r1, .ref r2, .ref r3, .ref r4])), (r0, .inr (1, [.ref q0, .int (nI n)])), (r3, .inr (1, [.ref q3, .int (nI nl)]))] rfl rfl rfl (Nat.le_of_ble_eq_true rfl) dX3_asCorner_24 (fun H locs hw => ?_)
  refine x_iadd E (v := ((nI k - nI n) + (nI nl))) dX3_asCorner_27 rfl ?_
  exact hret ((nI k - nI n) + (nI nl)) () _ _ _ _ dX3_asCorner_28 rfl rfl (hw.cast (by rw [Int64.add_assoc]; rfl))

abbrev rm_X3_asSeam : Room := { frames := 1, cells := 0, slots := 0, locals := 21 }
set_option maxHeartbeats 4000000 in
set_option maxRecDepth 100000 in
theorem c_X3_asSeam (l : Launch) (G : XG) (x : Nat) (tx : Nat) (o : Nat) (o1 : Nat) (o2 : Nat) (pa : Nat) (pt : Nat) (off : Nat) (ha : Nat) (tr : Int64) (k : Nat)  : CfI l yX3_asSeam wsX3_asSeam rm_X3_asSeam G [.ref x, .int (nI k)] [(x, .inr (3, [.ref tx, .ref o, .ref o1, .ref o2, .int (nI pa), .int (nI pt), .int (nI off), .int (nI ha), .long tr]))] (nI (k + pa)) [(x, .inr (3, [.ref tx, .ref o, .ref o1, .ref o2, .int (nI pa), .int (nI pt), .int (nI off), .int (nI ha), .long (tr + lN 100001)]))] := by
  refine CtI.go (cc := cX3_asSeam) (maxL := 2) RX3 rfl (by decide) rfl (Nat.le_of_ble_eq_true rfl) ?_
  intro p e s m args below meth c A Q ls E hw hl hret
  have hx := E.1
  have hb := E.2.1
  have hinX3 : ∀ w ∈ wsX30, w ∈ wsX3_asSeam := (fun w h => List.mem_cons_of_mem _ (List.mem_append_right _ h))
  have hl : lv_has ls 2 [(0, .ref x), (1, .int (nI k))] := hl
  refine lv_aload_n hx hb dX3_asSeam_0 rfl (lv_at hl 0 rfl) ?_
  refine lv_dup hx hb dX3_asSeam_1 rfl ?_
  refine x_get E hw (C := RX3) (T := TX3) (N := 9) hinX3 0 rfl rfl 8 (by decide) rfl (List.mem_of_getElem? (i := 1) rfl) dX3_asSeam_2 ?_
  refine lv_ldc2 (v := (100000)) hx hb E.2.2.2.1 (E.2.2.2.2 _ (List.mem_of_getElem? (i := 2) rfl)) dX3_asSeam_5 ?_
  refine x_topl (v := lN 100000) (by decide) ?_
  refine x_ladd E (v := (tr + (lN 100000))) dX3_asSeam_8 rfl ?_
  refine x_put E hw (C := RX3) (T := TX3) (N := 9) (ws1 := [(x, .inr (3, [.ref tx, .ref o, .ref o1, .ref o2, .int (nI pa), .int (nI pt), .int (nI off), .int (nI ha), .long (tr + (lN 100000))]))]) hinX3 tyX3_ok nmX3 0 rfl rfl 8 (by decide) (List.mem_of_getElem? (i := 1) rfl) rfl rfl rfl (Nat.le_of_ble_eq_true rfl) rfl dX3_asSeam_9 (fun H locs hw => ?_)
  refine lv_aload_n hx hb dX3_asSeam_12 rfl (lv_at hl 0 rfl) ?_
  refine lv_iload_n hx hb dX3_asSeam_13 rfl (lv_at hl 1 rfl) ?_
  refine x_cfVi E hw hl.1 (As := [.int (nI k)]) (rest := []) (c_X3_asCrease l G x tx o o1 o2 pa pt off ha (tr + (lN 100000)) k) 1 gX3_asSeam_X3_asCrease rfl rfl rfl (by decide) ⟨Nat.le_of_ble_eq_true rfl, Nat.le_of_ble_eq_true rfl⟩ ⟨Nat.le_of_ble_eq_true rfl, Nat.le_of_ble_eq_true rfl⟩ rfl 0 (ci := 3) (C := RX3) (T := TX3) (N := 9) rfl rfl [0] [] rfl rfl rfl rfl rfl [0] [(x, .inr (3, [.ref tx, .ref o, .ref o1, .ref o2, .int (nI pa), .int (nI pt), .int (nI off), .int (nI ha), .long ((tr + (lN 100000)) + lN 1)]))] rfl rfl rfl (Nat.le_of_ble_eq_true rfl) dX3_asSeam_14 (fun H locs hw => ?_)
  refine lv_aload_n hx hb dX3_asSeam_17 rfl (lv_at hl 0 rfl) ?_
  refine x_get E hw (C := RX3) (T := TX3) (N := 9) hinX3 0 rfl rfl 4 (by decide) rfl (List.mem_of_getElem? (i := 3) rfl) dX3_asSeam_18 ?_
  refine x_iadd E (v := (nI (k + pa))) dX3_asSeam_21 (nI_add _ _) ?_
  exact hret (nI (k + pa)) () _ _ _ _ dX3_asSeam_22 rfl rfl (hw.cast (by rw [Int64.add_assoc]; rfl))

abbrev rm_X3_mark_bad : Room := { frames := 3, cells := 0, slots := 0, locals := 61 }
set_option maxHeartbeats 4000000 in
set_option maxRecDepth 100000 in
theorem c_X3_mark_bad (l : Launch) (G : XG) (x : Nat) (tx : Nat) (o : Nat) (o1 : Nat) (o2 : Nat) (pa : Nat) (pt : Nat) (off : Nat) (ha : Nat) (tr : Int64) (r0 : Nat) (r1 : Nat) (r2 : Nat) (r3 : Nat) (r4 : Nat) (q0 : Nat) (q3 : Nat) (n : Nat) (nl : Nat) (gw : Nat → Nat) (d : Int32) (k : Int32) (hn : n ≤ 23) (hbad : ¬ ((0 ≤ d.toInt ∧ d.toInt ≤ 5) ∧ 0 ≤ k.toInt ∧ k.toInt < (n : Int))) : CfI l yX3_mark wsX3_mark rm_X3_mark_bad G [.ref x, .int d, .int k] [(x, .inr (3, [.ref tx, .ref o, .ref o1, .ref o2, .int (nI pa), .int (nI pt), .int (nI off), .int (nI ha), .long tr])), (o, .inr (0, [.ref r0, .ref r1, .ref r2, .ref r3, .ref r4])), (r0, .inr (1, [.ref q0, .int (nI n)])), (q0, .inl (cJ G, 23, .inr (.inl (fJ gw)))), (r3, .inr (1, [.ref q3, .int (nI nl)]))] (-1000000 : Int32) [(x, .inr (3, [.ref tx, .ref o, .ref o1, .ref o2, .int (nI pa), .int (nI pt), .int (nI off), .int (nI ha), .long tr])), (o, .inr (0, [.ref r0, .ref r1, .ref r2, .ref r3, .ref r4])), (r0, .inr (1, [.ref q0, .int (nI n)])), (q0, .inl (cJ G, 23, .inr (.inl (fJ gw)))), (r3, .inr (1, [.ref q3, .int (nI nl)]))] := by
  refine CtI.go (cc := cX3_mark) (maxL := 3) RX3 rfl (by decide) rfl (Nat.le_of_ble_eq_true rfl) ?_
  intro p e s m args below meth c A Q ls E hw hl hret
  have hx := E.1
  have hb := E.2.1
  have hl : lv_has ls 3 [(0, .ref x), (1, .int d), (2, .int k)] := hl
  refine lv_aload_n hx hb dX3_mark_0 rfl (lv_at hl 0 rfl) ?_
  refine lv_iload_n hx hb dX3_mark_1 rfl (lv_at hl 2 rfl) ?_
  refine x_cfVi E hw hl.1 (As := [.int k]) (rest := []) (c_X3_isCrease l G x tx o o1 o2 pa pt off ha tr r0 r1 r2 r3 r4 q0 n k (by omega)) 1 gX3_mark_X3_isCrease rfl rfl rfl (by decide) ⟨Nat.le_of_ble_eq_true rfl, Nat.le_of_ble_eq_true rfl⟩ ⟨Nat.le_of_ble_eq_true rfl, Nat.le_of_ble_eq_true rfl⟩ rfl 0 (ci := 3) (C := RX3) (T := TX3) (N := 9) rfl rfl [0, 1, 2] [3, 4] rfl rfl rfl rfl rfl [2, 3, 4, 0, 1] [(x, .inr (3, [.ref tx, .ref o, .ref o1, .ref o2, .int (nI pa), .int (nI pt), .int (nI off), .int (nI ha), .long tr])), (o, .inr (0, [.ref r0, .ref r1, .ref r2, .ref r3, .ref r4])), (r0, .inr (1, [.ref q0, .int (nI n)])), (q0, .inl (cJ G, 23, .inr (.inl (fJ gw)))), (r3, .inr (1, [.ref q3, .int (nI nl)]))] rfl rfl rfl (Nat.le_of_ble_eq_true rfl) dX3_mark_2 (fun H locs hw => ?_)
  refine x_ifb_ne E (P := 0 ≤ k.toInt ∧ k.toInt < (n : Int)) (tgt := 11) dX3_mark_5 (by decide) (fun c_1 => ?_) (fun c_1 => ?_)
  · refine lv_iload_n hx hb dX3_mark_11 rfl (lv_at hl 1 rfl) ?_
    rcases (show d.toInt = 0 ∨ d.toInt = 1 ∨ d.toInt = 2 ∨ d.toInt = 3 ∨ d.toInt = 4 ∨ d.toInt = 5 ∨ (d.toInt < 0 ∨ 5 < d.toInt) by omega) with c_2 | c_2 | c_2 | c_2 | c_2 | c_2 | c_2
    · exfalso; omega
    · exfalso; omega
    · exfalso; omega
    · exfalso; omega
    · exfalso; omega
    · exfalso; omega
    · refine x_tswD E rfl dX3_mark_12 (tgt := 88) c_2 (by decide) ?_
      refine lv_ldc (v := (-1000000)) hx hb E.2.2.2.1 (E.2.2.2.2 _ (List.mem_of_getElem? (i := 1) rfl)) dX3_mark_88 ?_
      exact hret (-1000000 : Int32) () _ _ _ _ dX3_mark_90 rfl rfl hw
  · refine lv_ldc (v := (-1000000)) hx hb E.2.2.2.1 (E.2.2.2.2 _ (List.mem_of_getElem? (i := 1) rfl)) dX3_mark_8 ?_
    exact hret (-1000000 : Int32) () _ _ _ _ dX3_mark_10 rfl rfl hw

abbrev rm_X3_mark_0 : Room := { frames := 3, cells := 0, slots := 0, locals := 61 }
set_option maxHeartbeats 4000000 in
set_option maxRecDepth 100000 in
theorem c_X3_mark_0 (l : Launch) (G : XG) (x : Nat) (tx : Nat) (o : Nat) (o1 : Nat) (o2 : Nat) (pa : Nat) (pt : Nat) (off : Nat) (ha : Nat) (tr : Int64) (r0 : Nat) (r1 : Nat) (r2 : Nat) (r3 : Nat) (r4 : Nat) (q0 : Nat) (q3 : Nat) (n : Nat) (nl : Nat) (gw : Nat → Nat) (k : Nat) (hn : n ≤ 23) (hk : k < n) (hgw : ∀ q, gw q < 1073741824) : CfI l yX3_mark wsX3_mark rm_X3_mark_0 G [.ref x, .int (nI 0), .int (nI k)] [(x, .inr (3, [.ref tx, .ref o, .ref o1, .ref o2, .int (nI pa), .int (nI pt), .int (nI off), .int (nI ha), .long tr])), (o, .inr (0, [.ref r0, .ref r1, .ref r2, .ref r3, .ref r4])), (r0, .inr (1, [.ref q0, .int (nI n)])), (q0, .inl (cJ G, 23, .inr (.inl (fJ gw)))), (r3, .inr (1, [.ref q3, .int (nI nl)]))] (nI k) [(x, .inr (3, [.ref tx, .ref o, .ref o1, .ref o2, .int (nI pa), .int (nI pt), .int (nI off), .int (nI ha), .long (tr + lN 1)])), (o, .inr (0, [.ref r0, .ref r1, .ref r2, .ref r3, .ref r4])), (r0, .inr (1, [.ref q0, .int (nI n)])), (q0, .inl (cJ G, 23, .inr (.inl (fJ gw)))), (r3, .inr (1, [.ref q3, .int (nI nl)]))] := by
  refine CtI.go (cc := cX3_mark) (maxL := 3) RX3 rfl (by decide) rfl (Nat.le_of_ble_eq_true rfl) ?_
  intro p e s m args below meth c A Q ls E hw hl hret
  have hx := E.1
  have hb := E.2.1
  have hl : lv_has ls 3 [(0, .ref x), (1, .int (nI 0)), (2, .int (nI k))] := hl
  refine lv_aload_n hx hb dX3_mark_0 rfl (lv_at hl 0 rfl) ?_
  refine lv_iload_n hx hb dX3_mark_1 rfl (lv_at hl 2 rfl) ?_
  refine x_cfVi E hw hl.1 (As := [.int (nI k)]) (rest := []) (c_X3_isCreaseN l G x tx o o1 o2 pa pt off ha tr r0 r1 r2 r3 r4 q0 n k (by omega) (by omega)) 1 gX3_mark_X3_isCrease rfl rfl rfl (by decide) ⟨Nat.le_of_ble_eq_true rfl, Nat.le_of_ble_eq_true rfl⟩ ⟨Nat.le_of_ble_eq_true rfl, Nat.le_of_ble_eq_true rfl⟩ rfl 0 (ci := 3) (C := RX3) (T := TX3) (N := 9) rfl rfl [0, 1, 2] [3, 4] rfl rfl rfl rfl rfl [2, 3, 4, 0, 1] [(x, .inr (3, [.ref tx, .ref o, .ref o1, .ref o2, .int (nI pa), .int (nI pt), .int (nI off), .int (nI ha), .long tr])), (o, .inr (0, [.ref r0, .ref r1, .ref r2, .ref r3, .ref r4])), (r0, .inr (1, [.ref q0, .int (nI n)])), (q0, .inl (cJ G, 23, .inr (.inl (fJ gw)))), (r3, .inr (1, [.ref q3, .int (nI nl)]))] rfl rfl rfl (Nat.le_of_ble_eq_true rfl) dX3_mark_2 (fun H locs hw => ?_)
  refine x_ifb_ne E (P := k < n) (tgt := 11) dX3_mark_5 (by decide) (fun c_1 => ?_) (fun c_1 => ?_)
  · refine lv_iload_n hx hb dX3_mark_11 rfl (lv_at hl 1 rfl) ?_
    rcases (show (0 : Int) = 0 by omega) with c_2
    · refine x_tsw E ((nI_toI (by decide)).trans c_2) (tgt := 52) dX3_mark_12 (by decide) (by decide) rfl (by decide) ?_
      refine lv_aload_n hx hb dX3_mark_52 rfl (lv_at hl 0 rfl) ?_
      refine lv_iload_n hx hb dX3_mark_53 rfl (lv_at hl 2 rfl) ?_
      refine x_cfVi E hw hl.1 (As := [.int (nI k)]) (rest := []) (c_X3_asCrease l G x tx o o1 o2 pa pt off ha tr k) 1 gX3_mark_X3_asCrease rfl rfl rfl (by decide) ⟨Nat.le_of_ble_eq_true rfl, Nat.le_of_ble_eq_true rfl⟩ ⟨Nat.le_of_ble_eq_true rfl, Nat.le_of_ble_eq_true rfl⟩ rfl 0 (ci := 3) (C := RX3) (T := TX3) (N := 9) rfl rfl [0] [1, 2, 3, 4] rfl rfl rfl rfl rfl [4, 0, 1, 2, 3] [(x, .inr (3, [.ref tx, .ref o, .ref o1, .ref o2, .int (nI pa), .int (nI pt), .int (nI off), .int (nI ha), .long (tr + lN 1)])), (o, .inr (0, [.ref r0, .ref r1, .ref r2, .ref r3, .ref r4])), (r0, .inr (1, [.ref q0, .int (nI n)])), (q0, .inl (cJ G, 23, .inr (.inl (fJ gw)))), (r3, .inr (1, [.ref q3, .int (nI nl)]))] rfl rfl rfl (Nat.le_of_ble_eq_true rfl) dX3_mark_54 (fun H locs hw => ?_)
      exact hret (nI k) () _ _ _ _ dX3_mark_57 rfl rfl hw
  · exfalso; omega

abbrev rm_X3_mark_1 : Room := { frames := 3, cells := 0, slots := 0, locals := 66 }
set_option maxHeartbeats 4000000 in
set_option maxRecDepth 100000 in
theorem c_X3_mark_1 (l : Launch) (G : XG) (x : Nat) (tx : Nat) (o : Nat) (o1 : Nat) (o2 : Nat) (pa : Nat) (pt : Nat) (off : Nat) (ha : Nat) (tr : Int64) (r0 : Nat) (r1 : Nat) (r2 : Nat) (r3 : Nat) (r4 : Nat) (q0 : Nat) (q3 : Nat) (n : Nat) (nl : Nat) (gw : Nat → Nat) (k : Nat) (hn : n ≤ 23) (hk : k < n) (hgw : ∀ q, gw q < 1073741824) : CfI l yX3_mark wsX3_mark rm_X3_mark_1 G [.ref x, .int (nI 1), .int (nI k)] [(x, .inr (3, [.ref tx, .ref o, .ref o1, .ref o2, .int (nI pa), .int (nI pt), .int (nI off), .int (nI ha), .long tr])), (o, .inr (0, [.ref r0, .ref r1, .ref r2, .ref r3, .ref r4])), (r0, .inr (1, [.ref q0, .int (nI n)])), (q0, .inl (cJ G, 23, .inr (.inl (fJ gw)))), (r3, .inr (1, [.ref q3, .int (nI nl)]))] (nI (k + pz (gw k))) [(x, .inr (3, [.ref tx, .ref o, .ref o1, .ref o2, .int (nI pa), .int (nI pt), .int (nI off), .int (nI ha), .long (tr + lN 11)])), (o, .inr (0, [.ref r0, .ref r1, .ref r2, .ref r3, .ref r4])), (r0, .inr (1, [.ref q0, .int (nI n)])), (q0, .inl (cJ G, 23, .inr (.inl (fJ gw)))), (r3, .inr (1, [.ref q3, .int (nI nl)]))] := by
  refine CtI.go (cc := cX3_mark) (maxL := 3) RX3 rfl (by decide) rfl (Nat.le_of_ble_eq_true rfl) ?_
  intro p e s m args below meth c A Q ls E hw hl hret
  have hx := E.1
  have hb := E.2.1
  have hl : lv_has ls 3 [(0, .ref x), (1, .int (nI 1)), (2, .int (nI k))] := hl
  refine lv_aload_n hx hb dX3_mark_0 rfl (lv_at hl 0 rfl) ?_
  refine lv_iload_n hx hb dX3_mark_1 rfl (lv_at hl 2 rfl) ?_
  refine x_cfVi E hw hl.1 (As := [.int (nI k)]) (rest := []) (c_X3_isCreaseN l G x tx o o1 o2 pa pt off ha tr r0 r1 r2 r3 r4 q0 n k (by omega) (by omega)) 1 gX3_mark_X3_isCrease rfl rfl rfl (by decide) ⟨Nat.le_of_ble_eq_true rfl, Nat.le_of_ble_eq_true rfl⟩ ⟨Nat.le_of_ble_eq_true rfl, Nat.le_of_ble_eq_true rfl⟩ rfl 0 (ci := 3) (C := RX3) (T := TX3) (N := 9) rfl rfl [0, 1, 2] [3, 4] rfl rfl rfl rfl rfl [2, 3, 4, 0, 1] [(x, .inr (3, [.ref tx, .ref o, .ref o1, .ref o2, .int (nI pa), .int (nI pt), .int (nI off), .int (nI ha), .long tr])), (o, .inr (0, [.ref r0, .ref r1, .ref r2, .ref r3, .ref r4])), (r0, .inr (1, [.ref q0, .int (nI n)])), (q0, .inl (cJ G, 23, .inr (.inl (fJ gw)))), (r3, .inr (1, [.ref q3, .int (nI nl)]))] rfl rfl rfl (Nat.le_of_ble_eq_true rfl) dX3_mark_2 (fun H locs hw => ?_)
  refine x_ifb_ne E (P := k < n) (tgt := 11) dX3_mark_5 (by decide) (fun c_1 => ?_) (fun c_1 => ?_)
  · refine lv_iload_n hx hb dX3_mark_11 rfl (lv_at hl 1 rfl) ?_
    rcases (show (1 : Int) = 1 by omega) with c_2
    · refine x_tsw E ((nI_toI (by decide)).trans c_2) (tgt := 58) dX3_mark_12 (by decide) (by decide) rfl (by decide) ?_
      refine lv_aload_n hx hb dX3_mark_58 rfl (lv_at hl 0 rfl) ?_
      refine lv_iload_n hx hb dX3_mark_59 rfl (lv_at hl 2 rfl) ?_
      refine x_cfVi E hw hl.1 (As := [.int (nI k)]) (rest := []) (c_X3_asPinch l G x tx o o1 o2 pa pt off ha tr r0 r1 r2 r3 r4 q0 n k gw (by omega) (by omega) hgw) 1 gX3_mark_X3_asPinch rfl rfl rfl (by decide) ⟨Nat.le_of_ble_eq_true rfl, Nat.le_of_ble_eq_true rfl⟩ ⟨Nat.le_of_ble_eq_true rfl, Nat.le_of_ble_eq_true rfl⟩ rfl 0 (ci := 3) (C := RX3) (T := TX3) (N := 9) rfl rfl [0, 1, 2, 3] [4] rfl rfl rfl rfl rfl [1, 2, 3, 4, 0] [(x, .inr (3, [.ref tx, .ref o, .ref o1, .ref o2, .int (nI pa), .int (nI pt), .int (nI off), .int (nI ha), .long (tr + lN 11)])), (o, .inr (0, [.ref r0, .ref r1, .ref r2, .ref r3, .ref r4])), (r0, .inr (1, [.ref q0, .int (nI n)])), (q0, .inl (cJ G, 23, .inr (.inl (fJ gw)))), (r3, .inr (1, [.ref q3, .int (nI nl)]))] rfl rfl rfl (Nat.le_of_ble_eq_true rfl) dX3_mark_60 (fun H locs hw => ?_)
      exact hret (nI (k + pz (gw k))) () _ _ _ _ dX3_mark_63 rfl rfl hw
  · exfalso; omega

abbrev rm_X3_mark_2 : Room := { frames := 3, cells := 0, slots := 0, locals := 61 }
set_option maxHeartbeats 4000000 in
set_option maxRecDepth 100000 in
theorem c_X3_mark_2 (l : Launch) (G : XG) (x : Nat) (tx : Nat) (o : Nat) (o1 : Nat) (o2 : Nat) (pa : Nat) (pt : Nat) (off : Nat) (ha : Nat) (tr : Int64) (r0 : Nat) (r1 : Nat) (r2 : Nat) (r3 : Nat) (r4 : Nat) (q0 : Nat) (q3 : Nat) (n : Nat) (nl : Nat) (gw : Nat → Nat) (k : Nat) (hn : n ≤ 23) (hk : k < n) (hgw : ∀ q, gw q < 1073741824) : CfI l yX3_mark wsX3_mark rm_X3_mark_2 G [.ref x, .int (nI 2), .int (nI k)] [(x, .inr (3, [.ref tx, .ref o, .ref o1, .ref o2, .int (nI pa), .int (nI pt), .int (nI off), .int (nI ha), .long tr])), (o, .inr (0, [.ref r0, .ref r1, .ref r2, .ref r3, .ref r4])), (r0, .inr (1, [.ref q0, .int (nI n)])), (q0, .inl (cJ G, 23, .inr (.inl (fJ gw)))), (r3, .inr (1, [.ref q3, .int (nI nl)]))] (nI k - nI n) [(x, .inr (3, [.ref tx, .ref o, .ref o1, .ref o2, .int (nI pa), .int (nI pt), .int (nI off), .int (nI ha), .long (tr + lN 101)])), (o, .inr (0, [.ref r0, .ref r1, .ref r2, .ref r3, .ref r4])), (r0, .inr (1, [.ref q0, .int (nI n)])), (q0, .inl (cJ G, 23, .inr (.inl (fJ gw)))), (r3, .inr (1, [.ref q3, .int (nI nl)]))] := by
  refine CtI.go (cc := cX3_mark) (maxL := 3) RX3 rfl (by decide) rfl (Nat.le_of_ble_eq_true rfl) ?_
  intro p e s m args below meth c A Q ls E hw hl hret
  have hx := E.1
  have hb := E.2.1
  have hl : lv_has ls 3 [(0, .ref x), (1, .int (nI 2)), (2, .int (nI k))] := hl
  refine lv_aload_n hx hb dX3_mark_0 rfl (lv_at hl 0 rfl) ?_
  refine lv_iload_n hx hb dX3_mark_1 rfl (lv_at hl 2 rfl) ?_
  refine x_cfVi E hw hl.1 (As := [.int (nI k)]) (rest := []) (c_X3_isCreaseN l G x tx o o1 o2 pa pt off ha tr r0 r1 r2 r3 r4 q0 n k (by omega) (by omega)) 1 gX3_mark_X3_isCrease rfl rfl rfl (by decide) ⟨Nat.le_of_ble_eq_true rfl, Nat.le_of_ble_eq_true rfl⟩ ⟨Nat.le_of_ble_eq_true rfl, Nat.le_of_ble_eq_true rfl⟩ rfl 0 (ci := 3) (C := RX3) (T := TX3) (N := 9) rfl rfl [0, 1, 2] [3, 4] rfl rfl rfl rfl rfl [2, 3, 4, 0, 1] [(x, .inr (3, [.ref tx, .ref o, .ref o1, .ref o2, .int (nI pa), .int (nI pt), .int (nI off), .int (nI ha), .long tr])), (o, .inr (0, [.ref r0, .ref r1, .ref r2, .ref r3, .ref r4])), (r0, .inr (1, [.ref q0, .int (nI n)])), (q0, .inl (cJ G, 23, .inr (.inl (fJ gw)))), (r3, .inr (1, [.ref q3, .int (nI nl)]))] rfl rfl rfl (Nat.le_of_ble_eq_true rfl) dX3_mark_2 (fun H locs hw => ?_)
  refine x_ifb_ne E (P := k < n) (tgt := 11) dX3_mark_5 (by decide) (fun c_1 => ?_) (fun c_1 => ?_)
  · refine lv_iload_n hx hb dX3_mark_11 rfl (lv_at hl 1 rfl) ?_
    rcases (show (2 : Int) = 2 by omega) with c_2
    · refine x_tsw E ((nI_toI (by decide)).trans c_2) (tgt := 64) dX3_mark_12 (by decide) (by decide) rfl (by decide) ?_
      refine lv_aload_n hx hb dX3_mark_64 rfl (lv_at hl 0 rfl) ?_
      refine lv_iload_n hx hb dX3_mark_65 rfl (lv_at hl 2 rfl) ?_
      refine x_cfVi E hw hl.1 (As := [.int (nI k)]) (rest := []) (c_X3_asEnd l G x tx o o1 o2 pa pt off ha tr r0 r1 r2 r3 r4 q0 n k) 1 gX3_mark_X3_asEnd rfl rfl rfl (by decide) ⟨Nat.le_of_ble_eq_true rfl, Nat.le_of_ble_eq_true rfl⟩ ⟨Nat.le_of_ble_eq_true rfl, Nat.le_of_ble_eq_true rfl⟩ rfl 0 (ci := 3) (C := RX3) (T := TX3) (N := 9) rfl rfl [0, 1, 2] [3, 4] rfl rfl rfl rfl rfl [2, 3, 4, 0, 1] [(x, .inr (3, [.ref tx, .ref o, .ref o1, .ref o2, .int (nI pa), .int (nI pt), .int (nI off), .int (nI ha), .long (tr + lN 101)])), (o, .inr (0, [.ref r0, .ref r1, .ref r2, .ref r3, .ref r4])), (r0, .inr (1, [.ref q0, .int (nI n)])), (q0, .inl (cJ G, 23, .inr (.inl (fJ gw)))), (r3, .inr (1, [.ref q3, .int (nI nl)]))] rfl rfl rfl (Nat.le_of_ble_eq_true rfl) dX3_mark_66 (fun H locs hw => ?_)
      exact hret (nI k - nI n) () _ _ _ _ dX3_mark_69 rfl rfl hw
  · exfalso; omega

abbrev rm_X3_mark_3 : Room := { frames := 4, cells := 0, slots := 0, locals := 87 }
set_option maxHeartbeats 4000000 in
set_option maxRecDepth 100000 in
theorem c_X3_mark_3 (l : Launch) (G : XG) (x : Nat) (tx : Nat) (o : Nat) (o1 : Nat) (o2 : Nat) (pa : Nat) (pt : Nat) (off : Nat) (ha : Nat) (tr : Int64) (r0 : Nat) (r1 : Nat) (r2 : Nat) (r3 : Nat) (r4 : Nat) (q0 : Nat) (q3 : Nat) (n : Nat) (nl : Nat) (gw : Nat → Nat) (k : Nat) (hn : n ≤ 23) (hk : k < n) (hgw : ∀ q, gw q < 1073741824) : CfI l yX3_mark wsX3_mark rm_X3_mark_3 G [.ref x, .int (nI 3), .int (nI k)] [(x, .inr (3, [.ref tx, .ref o, .ref o1, .ref o2, .int (nI pa), .int (nI pt), .int (nI off), .int (nI ha), .long tr])), (o, .inr (0, [.ref r0, .ref r1, .ref r2, .ref r3, .ref r4])), (r0, .inr (1, [.ref q0, .int (nI n)])), (q0, .inl (cJ G, 23, .inr (.inl (fJ gw)))), (r3, .inr (1, [.ref q3, .int (nI nl)]))] (nI ((k + pz (gw k)) * 2)) [(x, .inr (3, [.ref tx, .ref o, .ref o1, .ref o2, .int (nI pa), .int (nI pt), .int (nI off), .int (nI ha), .long (tr + lN 1011)])), (o, .inr (0, [.ref r0, .ref r1, .ref r2, .ref r3, .ref r4])), (r0, .inr (1, [.ref q0, .int (nI n)])), (q0, .inl (cJ G, 23, .inr (.inl (fJ gw)))), (r3, .inr (1, [.ref q3, .int (nI nl)]))] := by
  refine CtI.go (cc := cX3_mark) (maxL := 3) RX3 rfl (by decide) rfl (Nat.le_of_ble_eq_true rfl) ?_
  intro p e s m args below meth c A Q ls E hw hl hret
  have hx := E.1
  have hb := E.2.1
  have hl : lv_has ls 3 [(0, .ref x), (1, .int (nI 3)), (2, .int (nI k))] := hl
  refine lv_aload_n hx hb dX3_mark_0 rfl (lv_at hl 0 rfl) ?_
  refine lv_iload_n hx hb dX3_mark_1 rfl (lv_at hl 2 rfl) ?_
  refine x_cfVi E hw hl.1 (As := [.int (nI k)]) (rest := []) (c_X3_isCreaseN l G x tx o o1 o2 pa pt off ha tr r0 r1 r2 r3 r4 q0 n k (by omega) (by omega)) 1 gX3_mark_X3_isCrease rfl rfl rfl (by decide) ⟨Nat.le_of_ble_eq_true rfl, Nat.le_of_ble_eq_true rfl⟩ ⟨Nat.le_of_ble_eq_true rfl, Nat.le_of_ble_eq_true rfl⟩ rfl 0 (ci := 3) (C := RX3) (T := TX3) (N := 9) rfl rfl [0, 1, 2] [3, 4] rfl rfl rfl rfl rfl [2, 3, 4, 0, 1] [(x, .inr (3, [.ref tx, .ref o, .ref o1, .ref o2, .int (nI pa), .int (nI pt), .int (nI off), .int (nI ha), .long tr])), (o, .inr (0, [.ref r0, .ref r1, .ref r2, .ref r3, .ref r4])), (r0, .inr (1, [.ref q0, .int (nI n)])), (q0, .inl (cJ G, 23, .inr (.inl (fJ gw)))), (r3, .inr (1, [.ref q3, .int (nI nl)]))] rfl rfl rfl (Nat.le_of_ble_eq_true rfl) dX3_mark_2 (fun H locs hw => ?_)
  refine x_ifb_ne E (P := k < n) (tgt := 11) dX3_mark_5 (by decide) (fun c_1 => ?_) (fun c_1 => ?_)
  · refine lv_iload_n hx hb dX3_mark_11 rfl (lv_at hl 1 rfl) ?_
    rcases (show (3 : Int) = 3 by omega) with c_2
    · refine x_tsw E ((nI_toI (by decide)).trans c_2) (tgt := 70) dX3_mark_12 (by decide) (by decide) rfl (by decide) ?_
      refine lv_aload_n hx hb dX3_mark_70 rfl (lv_at hl 0 rfl) ?_
      refine lv_iload_n hx hb dX3_mark_71 rfl (lv_at hl 2 rfl) ?_
      refine x_cfVi E hw hl.1 (As := [.int (nI k)]) (rest := []) (c_X3_asThumb l G x tx o o1 o2 pa pt off ha tr r0 r1 r2 r3 r4 q0 n k gw (by omega) (by omega) hgw) 1 gX3_mark_X3_asThumb rfl rfl rfl (by decide) ⟨Nat.le_of_ble_eq_true rfl, Nat.le_of_ble_eq_true rfl⟩ ⟨Nat.le_of_ble_eq_true rfl, Nat.le_of_ble_eq_true rfl⟩ rfl 0 (ci := 3) (C := RX3) (T := TX3) (N := 9) rfl rfl [0, 1, 2, 3] [4] rfl rfl rfl rfl rfl [1, 2, 3, 4, 0] [(x, .inr (3, [.ref tx, .ref o, .ref o1, .ref o2, .int (nI pa), .int (nI pt), .int (nI off), .int (nI ha), .long (tr + lN 1011)])), (o, .inr (0, [.ref r0, .ref r1, .ref r2, .ref r3, .ref r4])), (r0, .inr (1, [.ref q0, .int (nI n)])), (q0, .inl (cJ G, 23, .inr (.inl (fJ gw)))), (r3, .inr (1, [.ref q3, .int (nI nl)]))] rfl rfl rfl (Nat.le_of_ble_eq_true rfl) dX3_mark_72 (fun H locs hw => ?_)
      exact hret (nI ((k + pz (gw k)) * 2)) () _ _ _ _ dX3_mark_75 rfl rfl hw
  · exfalso; omega

abbrev rm_X3_mark_4 : Room := { frames := 4, cells := 0, slots := 0, locals := 82 }
set_option maxHeartbeats 4000000 in
set_option maxRecDepth 100000 in
theorem c_X3_mark_4 (l : Launch) (G : XG) (x : Nat) (tx : Nat) (o : Nat) (o1 : Nat) (o2 : Nat) (pa : Nat) (pt : Nat) (off : Nat) (ha : Nat) (tr : Int64) (r0 : Nat) (r1 : Nat) (r2 : Nat) (r3 : Nat) (r4 : Nat) (q0 : Nat) (q3 : Nat) (n : Nat) (nl : Nat) (gw : Nat → Nat) (k : Nat) (hn : n ≤ 23) (hk : k < n) (hgw : ∀ q, gw q < 1073741824) : CfI l yX3_mark wsX3_mark rm_X3_mark_4 G [.ref x, .int (nI 4), .int (nI k)] [(x, .inr (3, [.ref tx, .ref o, .ref o1, .ref o2, .int (nI pa), .int (nI pt), .int (nI off), .int (nI ha), .long tr])), (o, .inr (0, [.ref r0, .ref r1, .ref r2, .ref r3, .ref r4])), (r0, .inr (1, [.ref q0, .int (nI n)])), (q0, .inl (cJ G, 23, .inr (.inl (fJ gw)))), (r3, .inr (1, [.ref q3, .int (nI nl)]))] (nI k - nI n + nI nl) [(x, .inr (3, [.ref tx, .ref o, .ref o1, .ref o2, .int (nI pa), .int (nI pt), .int (nI off), .int (nI ha), .long (tr + lN 10101)])), (o, .inr (0, [.ref r0, .ref r1, .ref r2, .ref r3, .ref r4])), (r0, .inr (1, [.ref q0, .int (nI n)])), (q0, .inl (cJ G, 23, .inr (.inl (fJ gw)))), (r3, .inr (1, [.ref q3, .int (nI nl)]))] := by
  refine CtI.go (cc := cX3_mark) (maxL := 3) RX3 rfl (by decide) rfl (Nat.le_of_ble_eq_true rfl) ?_
  intro p e s m args below meth c A Q ls E hw hl hret
  have hx := E.1
  have hb := E.2.1
  have hl : lv_has ls 3 [(0, .ref x), (1, .int (nI 4)), (2, .int (nI k))] := hl
  refine lv_aload_n hx hb dX3_mark_0 rfl (lv_at hl 0 rfl) ?_
  refine lv_iload_n hx hb dX3_mark_1 rfl (lv_at hl 2 rfl) ?_
  refine x_cfVi E hw hl.1 (As := [.int (nI k)]) (rest := []) (c_X3_isCreaseN l G x tx o o1 o2 pa pt off ha tr r0 r1 r2 r3 r4 q0 n k (by omega) (by omega)) 1 gX3_mark_X3_isCrease rfl rfl rfl (by decide) ⟨Nat.le_of_ble_eq_true rfl, Nat.le_of_ble_eq_true rfl⟩ ⟨Nat.le_of_ble_eq_true rfl, Nat.le_of_ble_eq_true rfl⟩ rfl 0 (ci := 3) (C := RX3) (T := TX3) (N := 9) rfl rfl [0, 1, 2] [3, 4] rfl rfl rfl rfl rfl [2, 3, 4, 0, 1] [(x, .inr (3, [.ref tx, .ref o, .ref o1, .ref o2, .int (nI pa), .int (nI pt), .int (nI off), .int (nI ha), .long tr])), (o, .inr (0, [.ref r0, .ref r1, .ref r2, .ref r3, .ref r4])), (r0, .inr (1, [.ref q0, .int (nI n)])), (q0, .inl (cJ G, 23, .inr (.inl (fJ gw)))), (r3, .inr (1, [.ref q3, .int (nI nl)]))] rfl rfl rfl (Nat.le_of_ble_eq_true rfl) dX3_mark_2 (fun H locs hw => ?_)
  refine x_ifb_ne E (P := k < n) (tgt := 11) dX3_mark_5 (by decide) (fun c_1 => ?_) (fun c_1 => ?_)
  · refine lv_iload_n hx hb dX3_mark_11 rfl (lv_at hl 1 rfl) ?_
    rcases (show (4 : Int) = 4 by omega) with c_2
    · refine x_tsw E ((nI_toI (by decide)).trans c_2) (tgt := 76) dX3_mark_12 (by decide) (by decide) rfl (by decide) ?_
      refine lv_aload_n hx hb dX3_mark_76 rfl (lv_at hl 0 rfl) ?_
      refine lv_iload_n hx hb dX3_mark_77 rfl (lv_at hl 2 rfl) ?_
      refine x_cfVi E hw hl.1 (As := [.int (nI k)]) (rest := []) (c_X3_asCorner l G x tx o o1 o2 pa pt off ha tr r0 r1 r2 r3 r4 q0 q3 n nl k) 1 gX3_mark_X3_asCorner rfl rfl rfl (by decide) ⟨Nat.le_of_ble_eq_true rfl, Nat.le_of_ble_eq_true rfl⟩ ⟨Nat.le_of_ble_eq_true rfl, Nat.le_of_ble_eq_true rfl⟩ rfl 0 (ci := 3) (C := RX3) (T := TX3) (N := 9) rfl rfl [0, 1, 2, 4] [3] rfl rfl rfl rfl rfl [1, 2, 3, 0, 4] [(x, .inr (3, [.ref tx, .ref o, .ref o1, .ref o2, .int (nI pa), .int (nI pt), .int (nI off), .int (nI ha), .long (tr + lN 10101)])), (o, .inr (0, [.ref r0, .ref r1, .ref r2, .ref r3, .ref r4])), (r0, .inr (1, [.ref q0, .int (nI n)])), (q0, .inl (cJ G, 23, .inr (.inl (fJ gw)))), (r3, .inr (1, [.ref q3, .int (nI nl)]))] rfl rfl rfl (Nat.le_of_ble_eq_true rfl) dX3_mark_78 (fun H locs hw => ?_)
      exact hret (nI k - nI n + nI nl) () _ _ _ _ dX3_mark_81 rfl rfl hw
  · exfalso; omega

abbrev rm_X3_mark_5 : Room := { frames := 3, cells := 0, slots := 0, locals := 61 }
set_option maxHeartbeats 4000000 in
set_option maxRecDepth 100000 in
theorem c_X3_mark_5 (l : Launch) (G : XG) (x : Nat) (tx : Nat) (o : Nat) (o1 : Nat) (o2 : Nat) (pa : Nat) (pt : Nat) (off : Nat) (ha : Nat) (tr : Int64) (r0 : Nat) (r1 : Nat) (r2 : Nat) (r3 : Nat) (r4 : Nat) (q0 : Nat) (q3 : Nat) (n : Nat) (nl : Nat) (gw : Nat → Nat) (k : Nat) (hn : n ≤ 23) (hk : k < n) (hgw : ∀ q, gw q < 1073741824) : CfI l yX3_mark wsX3_mark rm_X3_mark_5 G [.ref x, .int (nI 5), .int (nI k)] [(x, .inr (3, [.ref tx, .ref o, .ref o1, .ref o2, .int (nI pa), .int (nI pt), .int (nI off), .int (nI ha), .long tr])), (o, .inr (0, [.ref r0, .ref r1, .ref r2, .ref r3, .ref r4])), (r0, .inr (1, [.ref q0, .int (nI n)])), (q0, .inl (cJ G, 23, .inr (.inl (fJ gw)))), (r3, .inr (1, [.ref q3, .int (nI nl)]))] (nI (k + pa)) [(x, .inr (3, [.ref tx, .ref o, .ref o1, .ref o2, .int (nI pa), .int (nI pt), .int (nI off), .int (nI ha), .long (tr + lN 100001)])), (o, .inr (0, [.ref r0, .ref r1, .ref r2, .ref r3, .ref r4])), (r0, .inr (1, [.ref q0, .int (nI n)])), (q0, .inl (cJ G, 23, .inr (.inl (fJ gw)))), (r3, .inr (1, [.ref q3, .int (nI nl)]))] := by
  refine CtI.go (cc := cX3_mark) (maxL := 3) RX3 rfl (by decide) rfl (Nat.le_of_ble_eq_true rfl) ?_
  intro p e s m args below meth c A Q ls E hw hl hret
  have hx := E.1
  have hb := E.2.1
  have hl : lv_has ls 3 [(0, .ref x), (1, .int (nI 5)), (2, .int (nI k))] := hl
  refine lv_aload_n hx hb dX3_mark_0 rfl (lv_at hl 0 rfl) ?_
  refine lv_iload_n hx hb dX3_mark_1 rfl (lv_at hl 2 rfl) ?_
  refine x_cfVi E hw hl.1 (As := [.int (nI k)]) (rest := []) (c_X3_isCreaseN l G x tx o o1 o2 pa pt off ha tr r0 r1 r2 r3 r4 q0 n k (by omega) (by omega)) 1 gX3_mark_X3_isCrease rfl rfl rfl (by decide) ⟨Nat.le_of_ble_eq_true rfl, Nat.le_of_ble_eq_true rfl⟩ ⟨Nat.le_of_ble_eq_true rfl, Nat.le_of_ble_eq_true rfl⟩ rfl 0 (ci := 3) (C := RX3) (T := TX3) (N := 9) rfl rfl [0, 1, 2] [3, 4] rfl rfl rfl rfl rfl [2, 3, 4, 0, 1] [(x, .inr (3, [.ref tx, .ref o, .ref o1, .ref o2, .int (nI pa), .int (nI pt), .int (nI off), .int (nI ha), .long tr])), (o, .inr (0, [.ref r0, .ref r1, .ref r2, .ref r3, .ref r4])), (r0, .inr (1, [.ref q0, .int (nI n)])), (q0, .inl (cJ G, 23, .inr (.inl (fJ gw)))), (r3, .inr (1, [.ref q3, .int (nI nl)]))] rfl rfl rfl (Nat.le_of_ble_eq_true rfl) dX3_mark_2 (fun H locs hw => ?_)
  refine x_ifb_ne E (P := k < n) (tgt := 11) dX3_mark_5 (by decide) (fun c_1 => ?_) (fun c_1 => ?_)
  · refine lv_iload_n hx hb dX3_mark_11 rfl (lv_at hl 1 rfl) ?_
    rcases (show (5 : Int) = 5 by omega) with c_2
    · refine x_tsw E ((nI_toI (by decide)).trans c_2) (tgt := 82) dX3_mark_12 (by decide) (by decide) rfl (by decide) ?_
      refine lv_aload_n hx hb dX3_mark_82 rfl (lv_at hl 0 rfl) ?_
      refine lv_iload_n hx hb dX3_mark_83 rfl (lv_at hl 2 rfl) ?_
      refine x_cfVi E hw hl.1 (As := [.int (nI k)]) (rest := []) (c_X3_asSeam l G x tx o o1 o2 pa pt off ha tr k) 1 gX3_mark_X3_asSeam rfl rfl rfl (by decide) ⟨Nat.le_of_ble_eq_true rfl, Nat.le_of_ble_eq_true rfl⟩ ⟨Nat.le_of_ble_eq_true rfl, Nat.le_of_ble_eq_true rfl⟩ rfl 0 (ci := 3) (C := RX3) (T := TX3) (N := 9) rfl rfl [0] [1, 2, 3, 4] rfl rfl rfl rfl rfl [4, 0, 1, 2, 3] [(x, .inr (3, [.ref tx, .ref o, .ref o1, .ref o2, .int (nI pa), .int (nI pt), .int (nI off), .int (nI ha), .long (tr + lN 100001)])), (o, .inr (0, [.ref r0, .ref r1, .ref r2, .ref r3, .ref r4])), (r0, .inr (1, [.ref q0, .int (nI n)])), (q0, .inl (cJ G, 23, .inr (.inl (fJ gw)))), (r3, .inr (1, [.ref q3, .int (nI nl)]))] rfl rfl rfl (Nat.le_of_ble_eq_true rfl) dX3_mark_84 (fun H locs hw => ?_)
      exact hret (nI (k + pa)) () _ _ _ _ dX3_mark_87 rfl rfl hw
  · exfalso; omega

abbrev rm_X3_clear : Room := { frames := 1, cells := 0, slots := 0, locals := 21 }
set_option maxHeartbeats 4000000 in
set_option maxRecDepth 100000 in
theorem c_X3_clear (l : Launch) (G : XG) (x : Nat) (tx : Nat) (o : Nat) (o1 : Nat) (o2 : Nat) (pa : Nat) (pt : Nat) (off : Nat) (ha : Nat) (tr : Int64) (b0 : Nat) (f0 : Nat) (f1 : Nat) (t1 : Int32) (t2 : Int32) (t3 : Int32) (t4 : Int32) (t7 : Int32) (t8 : Int32) (t9 : Int32) (t10 : Int32) (t11 : Int32) (t12 : Int32) (t13 : Int32) (t14 : Int32) (d0 : Nat) (nb : Nat)  : CfI l yX3_clear wsX3_clear rm_X3_clear G [.ref x] [(x, .inr (3, [.ref tx, .ref o, .ref o1, .ref o2, .int (nI pa), .int (nI pt), .int (nI off), .int (nI ha), .long tr])), (tx, .inr (2, [.ref b0, .int t1, .int t2, .int t3, .int t4, .ref f0, .ref f1, .int t7, .int t8, .int t9, .int t10, .int t11, .int t12, .int t13, .int t14])), (b0, .inr (1, [.ref d0, .int (nI nb)]))] (nI nb) [(x, .inr (3, [.ref tx, .ref o, .ref o1, .ref o2, .int (nI pa), .int (nI pt), .int (nI off), .int (nI ha), .long tr])), (tx, .inr (2, [.ref b0, .int t1, .int t2, .int t3, .int t4, .ref f0, .ref f1, .int t7, .int t8, .int t9, .int t10, .int t11, .int t12, .int t13, .int t14])), (b0, .inr (1, [.ref d0, .int (nI 0)]))] := by
  refine CtI.go (cc := cX3_clear) (maxL := 1) RX3 rfl (by decide) rfl (Nat.le_of_ble_eq_true rfl) ?_
  intro p e s m args below meth c A Q ls E hw hl hret
  have hx := E.1
  have hb := E.2.1
  have hinX2 : ∀ w ∈ wsX20, w ∈ wsX3_clear := (fun w h => List.mem_cons_of_mem _ (List.mem_append_left _ (List.mem_append_right _ h)))
  have hinX3 : ∀ w ∈ wsX30, w ∈ wsX3_clear := (fun w h => List.mem_cons_of_mem _ (List.mem_append_left _ (List.mem_append_left _ (List.mem_append_right _ h))))
  have hl : lv_has ls 1 [(0, .ref x)] := hl
  refine lv_aload_n hx hb dX3_clear_0 rfl (lv_at hl 0 rfl) ?_
  refine x_get E hw (C := RX3) (T := TX3) (N := 9) hinX3 0 rfl rfl 0 (by decide) rfl (List.mem_of_getElem? (i := 1) rfl) dX3_clear_1 ?_
  refine x_getN E hw (C := RX2) (T := TX2) (N := 15) hinX2 1 rfl rfl 0 (by decide) rfl (List.mem_of_getElem? (i := 0) rfl) dX3_clear_4 ?_
  refine x_cfVi E hw hl.1 (As := []) (rest := []) (c_X1_empty l G b0 d0 nb) 0 gX3_clear_X1_empty rfl rfl rfl (by decide) ⟨Nat.le_of_ble_eq_true rfl, Nat.le_of_ble_eq_true rfl⟩ ⟨Nat.le_of_ble_eq_true rfl, Nat.le_of_ble_eq_true rfl⟩ rfl 2 (ci := 1) (C := RX1) (T := TX1) (N := 2) rfl rfl [2] [0, 1] rfl rfl rfl rfl rfl [0, 1, 2] [(x, .inr (3, [.ref tx, .ref o, .ref o1, .ref o2, .int (nI pa), .int (nI pt), .int (nI off), .int (nI ha), .long tr])), (tx, .inr (2, [.ref b0, .int t1, .int t2, .int t3, .int t4, .ref f0, .ref f1, .int t7, .int t8, .int t9, .int t10, .int t11, .int t12, .int t13, .int t14])), (b0, .inr (1, [.ref d0, .int (nI 0)]))] rfl rfl rfl (Nat.le_of_ble_eq_true rfl) dX3_clear_7 (fun H locs hw => ?_)
  exact hret (nI nb) () _ _ _ _ dX3_clear_10 rfl rfl hw

abbrev rm_X3_type_bad : Room := { frames := 0, cells := 0, slots := 0, locals := 0 }
set_option maxHeartbeats 4000000 in
set_option maxRecDepth 100000 in
theorem c_X3_type_bad (l : Launch) (G : XG) (x : Nat) (tx : Nat) (o : Nat) (o1 : Nat) (o2 : Nat) (pa : Nat) (pt : Nat) (off : Nat) (ha : Nat) (tr : Int64) (b0 : Nat) (f0 : Nat) (f1 : Nat) (t1 : Int32) (t2 : Int32) (t3 : Int32) (t4 : Int32) (t7 : Int32) (t8 : Int32) (t9 : Int32) (t10 : Int32) (t11 : Int32) (t12 : Int32) (t13 : Int32) (t14 : Int32) (d0 : Nat) (nb : Nat) (gb : Nat → Nat) (v : Int64) (k : Int32) (hbad : ¬ (1 ≤ k.toInt ∧ k.toInt ≤ 8)) : CfI l yX3_type wsX3_type rm_X3_type_bad G [.ref x, .long v, .int k] [(x, .inr (3, [.ref tx, .ref o, .ref o1, .ref o2, .int (nI pa), .int (nI pt), .int (nI off), .int (nI ha), .long tr])), (tx, .inr (2, [.ref b0, .int t1, .int t2, .int t3, .int t4, .ref f0, .ref f1, .int t7, .int t8, .int t9, .int t10, .int t11, .int t12, .int t13, .int t14])), (b0, .inr (1, [.ref d0, .int (nI nb)])), (d0, .inl (cJ G, 200, .inr (.inl (fJ gb))))] (-1 : Int32) [(x, .inr (3, [.ref tx, .ref o, .ref o1, .ref o2, .int (nI pa), .int (nI pt), .int (nI off), .int (nI ha), .long tr])), (tx, .inr (2, [.ref b0, .int t1, .int t2, .int t3, .int t4, .ref f0, .ref f1, .int t7, .int t8, .int t9, .int t10, .int t11, .int t12, .int t13, .int t14])), (b0, .inr (1, [.ref d0, .int (nI nb)])), (d0, .inl (cJ G, 200, .inr (.inl (fJ gb))))] := by
  refine CtI.go (cc := cX3_type) (maxL := 5) RX3 rfl (by decide) rfl (Nat.le_of_ble_eq_true rfl) ?_
  intro p e s m args below meth c A Q ls E hw hl hret
  have hx := E.1
  have hb := E.2.1
  have hl : lv_has ls 5 [(0, .ref x), (1, .long v), (3, .int k)] := hl
  refine lv_iload_n hx hb dX3_type_0 rfl (lv_at hl 2 rfl) ?_
  refine lv_iconst (v := (nI 1)) hx hb dX3_type_1 (by decide) ?_
  refine x_icmp_lt E rfl (nI_toI (by decide)) (tgt := 11) dX3_type_2 (by decide) (fun c_1 => ?_) (fun c_1 => ?_)
  · refine lv_iconst (v := (-1 : Int32)) hx hb dX3_type_11 (by decide) ?_
    exact hret (-1 : Int32) () _ _ _ _ dX3_type_12 rfl rfl hw
  · refine lv_iload_n hx hb dX3_type_5 rfl (lv_at hl 2 rfl) ?_
    refine lv_bipush (v := (nI 8)) hx hb dX3_type_6 (by decide) ?_
    refine x_icmp_le E rfl (nI_toI (by decide)) (tgt := 13) dX3_type_8 (by decide) (fun c_2 => ?_) (fun c_2 => ?_)
    · exfalso; omega
    · refine lv_iconst (v := (-1 : Int32)) hx hb dX3_type_11 (by decide) ?_
      exact hret (-1 : Int32) () _ _ _ _ dX3_type_12 rfl rfl hw

abbrev rm_X3_type_full : Room := { frames := 1, cells := 0, slots := 0, locals := 21 }
set_option maxHeartbeats 4000000 in
set_option maxRecDepth 100000 in
theorem c_X3_type_full (l : Launch) (G : XG) (x : Nat) (tx : Nat) (o : Nat) (o1 : Nat) (o2 : Nat) (pa : Nat) (pt : Nat) (off : Nat) (ha : Nat) (tr : Int64) (b0 : Nat) (f0 : Nat) (f1 : Nat) (t1 : Int32) (t2 : Int32) (t3 : Int32) (t4 : Int32) (t7 : Int32) (t8 : Int32) (t9 : Int32) (t10 : Int32) (t11 : Int32) (t12 : Int32) (t13 : Int32) (t14 : Int32) (d0 : Nat) (nb : Nat) (gb : Nat → Nat) (v : Int64) (k : Nat) (hk1 : 1 ≤ k) (hk8 : k ≤ 8) (hnb : nb ≤ 200) (hf : 200 < nb + k) : CfI l yX3_type wsX3_type rm_X3_type_full G [.ref x, .long v, .int (nI k)] [(x, .inr (3, [.ref tx, .ref o, .ref o1, .ref o2, .int (nI pa), .int (nI pt), .int (nI off), .int (nI ha), .long tr])), (tx, .inr (2, [.ref b0, .int t1, .int t2, .int t3, .int t4, .ref f0, .ref f1, .int t7, .int t8, .int t9, .int t10, .int t11, .int t12, .int t13, .int t14])), (b0, .inr (1, [.ref d0, .int (nI nb)])), (d0, .inl (cJ G, 200, .inr (.inl (fJ gb))))] (-3 : Int32) [(x, .inr (3, [.ref tx, .ref o, .ref o1, .ref o2, .int (nI pa), .int (nI pt), .int (nI off), .int (nI ha), .long tr])), (tx, .inr (2, [.ref b0, .int t1, .int t2, .int t3, .int t4, .ref f0, .ref f1, .int t7, .int t8, .int t9, .int t10, .int t11, .int t12, .int t13, .int t14])), (b0, .inr (1, [.ref d0, .int (nI nb)])), (d0, .inl (cJ G, 200, .inr (.inl (fJ gb))))] := by
  refine CtI.go (cc := cX3_type) (maxL := 5) RX3 rfl (by decide) rfl (Nat.le_of_ble_eq_true rfl) ?_
  intro p e s m args below meth c A Q ls E hw hl hret
  have hx := E.1
  have hb := E.2.1
  have hinX2 : ∀ w ∈ wsX20, w ∈ wsX3_type := (fun w h => List.mem_cons_of_mem _ (List.mem_append_left _ (List.mem_append_right _ h)))
  have hinX3 : ∀ w ∈ wsX30, w ∈ wsX3_type := (fun w h => List.mem_cons_of_mem _ (List.mem_append_left _ (List.mem_append_left _ (List.mem_append_right _ h))))
  have hl : lv_has ls 5 [(0, .ref x), (1, .long v), (3, .int (nI k))] := hl
  refine lv_iload_n hx hb dX3_type_0 rfl (lv_at hl 2 rfl) ?_
  refine lv_iconst (v := (nI 1)) hx hb dX3_type_1 (by decide) ?_
  refine x_icmp_lt E (nI_toI (show k < 2147483648 by omega)) (nI_toI (by decide)) (tgt := 11) dX3_type_2 (by decide) (fun c_1 => ?_) (fun c_1 => ?_)
  · exfalso; omega
  · refine lv_iload_n hx hb dX3_type_5 rfl (lv_at hl 2 rfl) ?_
    refine lv_bipush (v := (nI 8)) hx hb dX3_type_6 (by decide) ?_
    refine x_icmp_le E (nI_toI (show k < 2147483648 by omega)) (nI_toI (by decide)) (tgt := 13) dX3_type_8 (by decide) (fun c_2 => ?_) (fun c_2 => ?_)
    · refine lv_aload_n hx hb dX3_type_13 rfl (lv_at hl 0 rfl) ?_
      refine x_get E hw (C := RX3) (T := TX3) (N := 9) hinX3 0 rfl rfl 0 (by decide) rfl (List.mem_of_getElem? (i := 1) rfl) dX3_type_14 ?_
      refine x_getN E hw (C := RX2) (T := TX2) (N := 15) hinX2 1 rfl rfl 0 (by decide) rfl (List.mem_of_getElem? (i := 0) rfl) dX3_type_17 ?_
      refine lv_iload_n hx hb dX3_type_20 rfl (lv_at hl 2 rfl) ?_
      refine x_cfVi E hw hl.1 (As := [.int (nI k)]) (rest := []) (c_X1_hasRoom l G b0 d0 nb 200 k gb (by omega) (by omega)) 1 gX3_type_X1_hasRoom rfl rfl rfl (by decide) ⟨Nat.le_of_ble_eq_true rfl, Nat.le_of_ble_eq_true rfl⟩ ⟨Nat.le_of_ble_eq_true rfl, Nat.le_of_ble_eq_true rfl⟩ rfl 2 (ci := 1) (C := RX1) (T := TX1) (N := 2) rfl rfl [2, 3] [0, 1] rfl rfl rfl rfl rfl [0, 1, 2, 3] [(x, .inr (3, [.ref tx, .ref o, .ref o1, .ref o2, .int (nI pa), .int (nI pt), .int (nI off), .int (nI ha), .long tr])), (tx, .inr (2, [.ref b0, .int t1, .int t2, .int t3, .int t4, .ref f0, .ref f1, .int t7, .int t8, .int t9, .int t10, .int t11, .int t12, .int t13, .int t14])), (b0, .inr (1, [.ref d0, .int (nI nb)])), (d0, .inl (cJ G, 200, .inr (.inl (fJ gb))))] rfl rfl rfl (Nat.le_of_ble_eq_true rfl) dX3_type_21 (fun H locs hw => ?_)
      refine x_ifb_ne E (P := nb + k ≤ 200) (tgt := 30) dX3_type_24 (by decide) (fun c_3 => ?_) (fun c_3 => ?_)
      · exfalso; omega
      · refine lv_bipush (v := (-3 : Int32)) hx hb dX3_type_27 (by decide) ?_
        exact hret (-3 : Int32) () _ _ _ _ dX3_type_29 rfl rfl hw
    · exfalso; omega

abbrev rm_X3_type_ok : Room := { frames := 1, cells := 0, slots := 0, locals := 22 }
set_option maxHeartbeats 4000000 in
set_option maxRecDepth 100000 in
theorem c_X3_type_ok (l : Launch) (G : XG) (x : Nat) (tx : Nat) (o : Nat) (o1 : Nat) (o2 : Nat) (pa : Nat) (pt : Nat) (off : Nat) (ha : Nat) (tr : Int64) (b0 : Nat) (f0 : Nat) (f1 : Nat) (t1 : Int32) (t2 : Int32) (t3 : Int32) (t4 : Int32) (t7 : Int32) (t8 : Int32) (t9 : Int32) (t10 : Int32) (t11 : Int32) (t12 : Int32) (t13 : Int32) (t14 : Int32) (d0 : Nat) (nb : Nat) (gb : Nat → Nat) (v : Int64) (k : Nat) (hk1 : 1 ≤ k) (hk8 : k ≤ 8) (hf : nb + k ≤ 200) : CfI l yX3_type wsX3_type rm_X3_type_ok G [.ref x, .long v, .int (nI k)] [(x, .inr (3, [.ref tx, .ref o, .ref o1, .ref o2, .int (nI pa), .int (nI pt), .int (nI off), .int (nI ha), .long tr])), (tx, .inr (2, [.ref b0, .int t1, .int t2, .int t3, .int t4, .ref f0, .ref f1, .int t7, .int t8, .int t9, .int t10, .int t11, .int t12, .int t13, .int t14])), (b0, .inr (1, [.ref d0, .int (nI nb)])), (d0, .inl (cJ G, 200, .inr (.inl (fJ gb))))] (nI (nb + k)) [(x, .inr (3, [.ref tx, .ref o, .ref o1, .ref o2, .int (nI pa), .int (nI pt), .int (nI off), .int (nI ha), .long tr])), (tx, .inr (2, [.ref b0, .int t1, .int t2, .int t3, .int t4, .ref f0, .ref f1, .int t7, .int t8, .int t9, .int t10, .int t11, .int t12, .int t13, .int t14])), (b0, .inr (1, [.ref d0, .int (nI (nb + k))])), (d0, .inl (cJ G, 200, .inr (.inl (fJ (tyR v k gb nb)))))] := by
  refine CtI.go (cc := cX3_type) (maxL := 5) RX3 rfl (by decide) rfl (Nat.le_of_ble_eq_true rfl) ?_
  intro p e s m args below meth c A Q ls E hw hl hret
  have hx := E.1
  have hb := E.2.1
  have hinX2 : ∀ w ∈ wsX20, w ∈ wsX3_type := (fun w h => List.mem_cons_of_mem _ (List.mem_append_left _ (List.mem_append_right _ h)))
  have hinX3 : ∀ w ∈ wsX30, w ∈ wsX3_type := (fun w h => List.mem_cons_of_mem _ (List.mem_append_left _ (List.mem_append_left _ (List.mem_append_right _ h))))
  have hl : lv_has ls 5 [(0, .ref x), (1, .long v), (3, .int (nI k))] := hl
  refine lv_iload_n hx hb dX3_type_0 rfl (lv_at hl 2 rfl) ?_
  refine lv_iconst (v := (nI 1)) hx hb dX3_type_1 (by decide) ?_
  refine x_icmp_lt E (nI_toI (show k < 2147483648 by omega)) (nI_toI (by decide)) (tgt := 11) dX3_type_2 (by decide) (fun c_1 => ?_) (fun c_1 => ?_)
  · exfalso; omega
  · refine lv_iload_n hx hb dX3_type_5 rfl (lv_at hl 2 rfl) ?_
    refine lv_bipush (v := (nI 8)) hx hb dX3_type_6 (by decide) ?_
    refine x_icmp_le E (nI_toI (show k < 2147483648 by omega)) (nI_toI (by decide)) (tgt := 13) dX3_type_8 (by decide) (fun c_2 => ?_) (fun c_2 => ?_)
    · refine lv_aload_n hx hb dX3_type_13 rfl (lv_at hl 0 rfl) ?_
      refine x_get E hw (C := RX3) (T := TX3) (N := 9) hinX3 0 rfl rfl 0 (by decide) rfl (List.mem_of_getElem? (i := 1) rfl) dX3_type_14 ?_
      refine x_getN E hw (C := RX2) (T := TX2) (N := 15) hinX2 1 rfl rfl 0 (by decide) rfl (List.mem_of_getElem? (i := 0) rfl) dX3_type_17 ?_
      refine lv_iload_n hx hb dX3_type_20 rfl (lv_at hl 2 rfl) ?_
      refine x_cfVi E hw hl.1 (As := [.int (nI k)]) (rest := []) (c_X1_hasRoom l G b0 d0 nb 200 k gb (by omega) (by omega)) 1 gX3_type_X1_hasRoom rfl rfl rfl (by decide) ⟨Nat.le_of_ble_eq_true rfl, Nat.le_of_ble_eq_true rfl⟩ ⟨Nat.le_of_ble_eq_true rfl, Nat.le_of_ble_eq_true rfl⟩ rfl 2 (ci := 1) (C := RX1) (T := TX1) (N := 2) rfl rfl [2, 3] [0, 1] rfl rfl rfl rfl rfl [0, 1, 2, 3] [(x, .inr (3, [.ref tx, .ref o, .ref o1, .ref o2, .int (nI pa), .int (nI pt), .int (nI off), .int (nI ha), .long tr])), (tx, .inr (2, [.ref b0, .int t1, .int t2, .int t3, .int t4, .ref f0, .ref f1, .int t7, .int t8, .int t9, .int t10, .int t11, .int t12, .int t13, .int t14])), (b0, .inr (1, [.ref d0, .int (nI nb)])), (d0, .inl (cJ G, 200, .inr (.inl (fJ gb))))] rfl rfl rfl (Nat.le_of_ble_eq_true rfl) dX3_type_21 (fun H locs hw => ?_)
      refine x_ifb_ne E (P := nb + k ≤ 200) (tgt := 30) dX3_type_24 (by decide) (fun c_3 => ?_) (fun c_3 => ?_)
      · refine lv_iload_n hx hb dX3_type_30 rfl (lv_at hl 2 rfl) ?_
        refine lv_iconst (v := (nI 1)) hx hb dX3_type_31 (by decide) ?_
        refine x_isub E (v := (nI k + (-1))) dX3_type_32 (x_subm1 _) ?_
        refine lv_istore (lv' := [(4, .int (nI k + (-1))), (0, .ref x), (1, .long v), (3, .int (nI k))]) hx hb dX3_type_33 hl (by decide) rfl (fun ls hl => ?_)
        have loop_35 : ∀ (n : Nat) (h : Nat) (z : Nat) (gg : Nat → Nat), h ≤ 8 → z + h = nb + k → tyR v h gg z = tyR v k gb nb → h < n → ∀ (H : Heap) (locs : List Loc) (ls : Array Slot), Wd G s A [(x, .inr (3, [.ref tx, .ref o, .ref o1, .ref o2, .int (nI pa), .int (nI pt), .int (nI off), .int (nI ha), .long tr])), (tx, .inr (2, [.ref b0, .int t1, .int t2, .int t3, .int t4, .ref f0, .ref f1, .int t7, .int t8, .int t9, .int t10, .int t11, .int t12, .int t13, .int t14])), (b0, .inr (1, [.ref d0, .int (nI z)])), (d0, .inl (cJ G, 200, .inr (.inl (fJ gg))))] H locs → lv_has ls 5 [(0, .ref x), (1, .long v), (4, .int (nI h + (-1)))] → W p l e rm_X3_type_ok s m args below meth c H locs 0 0 Q (F0 m 35 ls []) := by
          intro n
          induction n with
          | zero =>
            intro h z gg hh hz hinv hmu
            exact absurd hmu (Nat.not_lt_zero _)
          | succ n ih_35 =>
            intro h z gg hh hz hinv hmu_35 H locs ls hw hl
            refine lv_iload hx hb dX3_type_35 (lv_at hl 2 rfl) ?_
            refine x_if_lt E (x_m1 (show h < 2147483648 by omega)) (tgt := 67) dX3_type_37 (by decide) (fun c_4 => ?_) (fun c_4 => ?_)
            · obtain rfl : h = 0 := by omega
              refine lv_aload_n hx hb dX3_type_67 rfl (lv_at hl 0 rfl) ?_
              refine x_get E hw (C := RX3) (T := TX3) (N := 9) hinX3 0 rfl rfl 0 (by decide) rfl (List.mem_of_getElem? (i := 1) rfl) dX3_type_68 ?_
              refine x_getN E hw (C := RX2) (T := TX2) (N := 15) hinX2 1 rfl rfl 0 (by decide) rfl (List.mem_of_getElem? (i := 0) rfl) dX3_type_71 ?_
              refine x_cfVi E hw hl.1 (As := []) (rest := []) (c_X1_size l G b0 d0 z) 0 gX3_type_X1_size rfl rfl rfl (by decide) ⟨Nat.le_of_ble_eq_true rfl, Nat.le_of_ble_eq_true rfl⟩ ⟨Nat.le_of_ble_eq_true rfl, Nat.le_of_ble_eq_true rfl⟩ rfl 2 (ci := 1) (C := RX1) (T := TX1) (N := 2) rfl rfl [2] [0, 1, 3] rfl rfl rfl rfl rfl [0, 1, 3, 2] [(x, .inr (3, [.ref tx, .ref o, .ref o1, .ref o2, .int (nI pa), .int (nI pt), .int (nI off), .int (nI ha), .long tr])), (tx, .inr (2, [.ref b0, .int t1, .int t2, .int t3, .int t4, .ref f0, .ref f1, .int t7, .int t8, .int t9, .int t10, .int t11, .int t12, .int t13, .int t14])), (b0, .inr (1, [.ref d0, .int (nI z)])), (d0, .inl (cJ G, 200, .inr (.inl (fJ gg))))] rfl rfl rfl (Nat.le_of_ble_eq_true rfl) dX3_type_74 (fun H locs hw => ?_)
              exact hret (nI z) () _ _ _ _ dX3_type_77 rfl (by rw [show z = nb + k by omega]) (hw.cast (by rw [← hinv, show z = nb + k by omega]; rfl))
            · obtain ⟨i, rfl⟩ : ∃ i, h = i + 1 := ⟨h - 1, by omega⟩
              rw [pk_m1] at hl
              refine lv_aload_n hx hb dX3_type_40 rfl (lv_at hl 0 rfl) ?_
              refine x_get E hw (C := RX3) (T := TX3) (N := 9) hinX3 0 rfl rfl 0 (by decide) rfl (List.mem_of_getElem? (i := 1) rfl) dX3_type_41 ?_
              refine x_getN E hw (C := RX2) (T := TX2) (N := 15) hinX2 1 rfl rfl 0 (by decide) rfl (List.mem_of_getElem? (i := 0) rfl) dX3_type_44 ?_
              refine lv_lload_n hx hb dX3_type_47 rfl (lv_at hl 1 rfl) ?_
              refine lv_bipush (v := (nI 8)) hx hb dX3_type_48 (by decide) ?_
              refine lv_iload hx hb dX3_type_50 (lv_at hl 2 rfl) ?_
              refine x_imul E (v := (nI (8 * i))) dX3_type_52 (pk_mul _ _) ?_
              refine lv_lshr (v := (v >>> ((nI (8 * i)).toInt64 &&& 63))) hx hb dX3_type_53 rfl ?_
              refine lv_ldc2 (v := (255)) hx hb E.2.2.2.1 (E.2.2.2.2 _ (List.mem_of_getElem? (i := 2) rfl)) dX3_type_54 ?_
              refine x_topl (v := lN 255) (by decide) ?_
              refine x_land E (v := (lN (by8 v i))) dX3_type_57 (by8_ok v i) ?_
              refine x_cfVv E hw hl.1 (As := [.long (lN (by8 v i))]) (rest := []) (c_X1_add l G b0 d0 z 200 (by8 v i) gg (by omega) (by omega)) 1 gX3_type_X1_add rfl rfl rfl (by decide) ⟨Nat.le_of_ble_eq_true rfl, Nat.le_of_ble_eq_true rfl⟩ ⟨Nat.le_of_ble_eq_true rfl, Nat.le_of_ble_eq_true rfl⟩ rfl 2 (ci := 1) (C := RX1) (T := TX1) (N := 2) rfl rfl [2, 3] [0, 1] rfl rfl rfl rfl rfl [0, 1, 2, 3] [(x, .inr (3, [.ref tx, .ref o, .ref o1, .ref o2, .int (nI pa), .int (nI pt), .int (nI off), .int (nI ha), .long tr])), (tx, .inr (2, [.ref b0, .int t1, .int t2, .int t3, .int t4, .ref f0, .ref f1, .int t7, .int t8, .int t9, .int t10, .int t11, .int t12, .int t13, .int t14])), (b0, .inr (1, [.ref d0, .int (nI (z + 1))])), (d0, .inl (cJ G, 200, .inr (.inl (fJ (va_up gg z (by8 v i))))))] rfl rfl rfl (Nat.le_of_ble_eq_true rfl) dX3_type_58 (fun H locs hw => ?_)
              refine lv_iinc (v := (nI i + (-1))) (lv' := [(4, .int (nI i + (-1))), (0, .ref x), (1, .long v)]) hx hb dX3_type_61 hl (k := 2) rfl (x_decm1 _) (by decide) rfl (fun ls hl => ?_)
              refine lv_goto (tgt := 35) hx hb dX3_type_64 (by decide) ?_
              exact ih_35 i (z + 1) (va_up gg z (by8 v i)) (by omega) (by omega) hinv (by omega) _ _ _ hw (lv_sub hl [1, 2, 0] rfl)
        exact loop_35 (k + 1) k nb gb (by omega) (by omega) rfl (Nat.lt_succ_self _) _ _ _ hw (lv_sub hl [1, 2, 0] rfl)
      · exfalso; omega
    · exfalso; omega
