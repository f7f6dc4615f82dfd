abbrev rm_X3_wrongLetter : Room := { frames := 2, cells := 0, slots := 0, locals := 41 }
set_option maxHeartbeats 4000000 in
set_option maxRecDepth 100000 in
theorem c_X3_wrongLetter (l : Launch) (G : XG) (x : Nat) (tx : Nat) (o : Nat) (o1 : Nat) (o2 : Nat) (pa : Nat) (pt : Nat) (off : Nat) (ha : Nat) (tr : Int64) (r0 : Nat) (r1 : Nat) (r2 : Nat) (r3 : Nat) (r4 : Nat) (q3 : Nat) (nl : Nat) (gl : Nat → Nat) (P : Nat) (j : Nat) (hnl : nl ≤ 12) (hgl : ∀ q, gl q ≤ 1) (hP : P ≤ 63) (hj : j < P) : CfI l yX3_wrongLetter wsX3_wrongLetter rm_X3_wrongLetter G [.ref x, .int (nI P), .int (nI j)] [(x, .inr (3, [.ref tx, .ref o, .ref o1, .ref o2, .int (nI pa), .int (nI pt), .int (nI off), .int (nI ha), .long tr])), (o, .inr (0, [.ref r0, .ref r1, .ref r2, .ref r3, .ref r4])), (r3, .inr (1, [.ref q3, .int (nI nl)])), (q3, .inl (cJ G, 12, .inr (.inl (fJ gl))))] (wlF gl nl P j) [(x, .inr (3, [.ref tx, .ref o, .ref o1, .ref o2, .int (nI pa), .int (nI pt), .int (nI off), .int (nI ha), .long tr])), (o, .inr (0, [.ref r0, .ref r1, .ref r2, .ref r3, .ref r4])), (r3, .inr (1, [.ref q3, .int (nI nl)])), (q3, .inl (cJ G, 12, .inr (.inl (fJ gl))))] := by
  refine CtI.go (cc := cX3_wrongLetter) (maxL := 5) RX3 rfl (by decide) rfl (Nat.le_of_ble_eq_true rfl) ?_
  intro p e s m args below meth c A Q ls E hw hl hret
  have hx := E.1
  have hb := E.2.1
  have hinX0 : ∀ w ∈ wsX00, w ∈ wsX3_wrongLetter := (fun w h => List.mem_cons_of_mem _ (List.mem_append_left _ (List.mem_append_right _ h)))
  have hinX3 : ∀ w ∈ wsX30, w ∈ wsX3_wrongLetter := (fun w h => List.mem_cons_of_mem _ (List.mem_append_left _ (List.mem_append_left _ (List.mem_append_right _ h))))
  have hl : lv_has ls 5 [(0, .ref x), (1, .int (nI P)), (2, .int (nI j))] := hl
  refine lv_iload_n hx hb dX3_wrongLetter_0 rfl (lv_at hl 2 rfl) ?_
  refine lv_istore_n (lv' := [(3, .int (nI j)), (0, .ref x), (1, .int (nI P)), (2, .int (nI j))]) hx hb dX3_wrongLetter_1 rfl hl (by decide) rfl (fun ls hl => ?_)
  refine lv_iconst (v := (nI 0)) hx hb dX3_wrongLetter_2 (by decide) ?_
  refine lv_istore (lv' := [(4, .int (nI 0)), (3, .int (nI j)), (0, .ref x), (1, .int (nI P)), (2, .int (nI j))]) hx hb dX3_wrongLetter_3 hl (by decide) rfl (fun ls hl => ?_)
  have loop_5 : ∀ (fu : Nat) (i : Nat) (y : Nat), i ≤ nl → y < P → wlL gl P (nl - i) i y = wlF gl nl P j → nl - i < fu → ∀ (H : Heap) (locs : List Loc) (ls : Array Slot), Wd G s A [(x, .inr (3, [.ref tx, .ref o, .ref o1, .ref o2, .int (nI pa), .int (nI pt), .int (nI off), .int (nI ha), .long tr])), (o, .inr (0, [.ref r0, .ref r1, .ref r2, .ref r3, .ref r4])), (r3, .inr (1, [.ref q3, .int (nI nl)])), (q3, .inl (cJ G, 12, .inr (.inl (fJ gl))))] H locs → lv_has ls 5 [(0, .ref x), (1, .int (nI P)), (3, .int (nI y)), (4, .int (nI i))] → W p l e rm_X3_wrongLetter s m args below meth c H locs 0 0 Q (F0 m 5 ls []) := by
    intro fu
    induction fu with
    | zero =>
      intro i y hi hyP hinv hmu
      exact absurd hmu (Nat.not_lt_zero _)
    | succ fu ih_5 =>
      intro i y hi hyP hinv hmu_5 H locs ls hw hl
      refine lv_iload hx hb dX3_wrongLetter_5 (lv_at hl 3 rfl) ?_
      refine lv_aload_n hx hb dX3_wrongLetter_7 rfl (lv_at hl 0 rfl) ?_
      refine x_get E hw (C := RX3) (T := TX3) (N := 9) hinX3 0 rfl rfl 1 (by decide) rfl (List.mem_of_getElem? (i := 1) rfl) dX3_wrongLetter_8 ?_
      refine x_getN E hw (C := RX0) (T := TX0) (N := 5) hinX0 1 rfl rfl 3 (by decide) rfl (List.mem_of_getElem? (i := 11) rfl) dX3_wrongLetter_11 ?_
      refine x_cfVi E hw hl.1 (As := []) (rest := [.int (nI i)]) (c_X1_size l G r3 q3 nl) 0 gX3_wrongLetter_X1_size rfl rfl rfl (by decide) ⟨Nat.le_of_ble_eq_true rfl, Nat.le_of_ble_eq_true rfl⟩ ⟨Nat.le_of_ble_eq_true rfl, Nat.le_of_ble_eq_true rfl⟩ rfl 2 (ci := 1) (C := RX1) (T := TX1) (N := 2) rfl rfl [2] [0, 1, 3] rfl rfl rfl rfl rfl [0, 1, 3, 2] [(x, .inr (3, [.ref tx, .ref o, .ref o1, .ref o2, .int (nI pa), .int (nI pt), .int (nI off), .int (nI ha), .long tr])), (o, .inr (0, [.ref r0, .ref r1, .ref r2, .ref r3, .ref r4])), (r3, .inr (1, [.ref q3, .int (nI nl)])), (q3, .inl (cJ G, 12, .inr (.inl (fJ gl))))] rfl rfl rfl (Nat.le_of_ble_eq_true rfl) dX3_wrongLetter_14 (fun H locs hw => ?_)
      refine x_icmp_ge E (nI_toI (show i < 2147483648 by omega)) (nI_toI (show nl < 2147483648 by omega)) (tgt := 56) dX3_wrongLetter_17 (by decide) (fun c_1 => ?_) (fun c_1 => ?_)
      · refine lv_bipush (v := (-9 : Int32)) hx hb dX3_wrongLetter_56 (by decide) ?_
        exact hret (-9 : Int32) () _ _ _ _ dX3_wrongLetter_58 rfl (by rw [← hinv, show nl - i = 0 by omega]; rfl) hw
      · refine lv_aload_n hx hb dX3_wrongLetter_20 rfl (lv_at hl 0 rfl) ?_
        refine x_get E hw (C := RX3) (T := TX3) (N := 9) hinX3 0 rfl rfl 1 (by decide) rfl (List.mem_of_getElem? (i := 1) rfl) dX3_wrongLetter_21 ?_
        refine x_getN E hw (C := RX0) (T := TX0) (N := 5) hinX0 1 rfl rfl 3 (by decide) rfl (List.mem_of_getElem? (i := 11) rfl) dX3_wrongLetter_24 ?_
        refine lv_iload hx hb dX3_wrongLetter_27 (lv_at hl 3 rfl) ?_
        refine x_cfVl E hw hl.1 (As := [.int (nI i)]) (rest := []) (c_X1_at l G r3 q3 nl 12 i gl (by omega) (by omega)) 1 gX3_wrongLetter_X1_at rfl rfl rfl (by decide) ⟨Nat.le_of_ble_eq_true rfl, Nat.le_of_ble_eq_true rfl⟩ ⟨Nat.le_of_ble_eq_true rfl, Nat.le_of_ble_eq_true rfl⟩ rfl 2 (ci := 1) (C := RX1) (T := TX1) (N := 2) rfl rfl [2, 3] [0, 1] rfl rfl rfl rfl rfl [0, 1, 2, 3] [(x, .inr (3, [.ref tx, .ref o, .ref o1, .ref o2, .int (nI pa), .int (nI pt), .int (nI off), .int (nI ha), .long tr])), (o, .inr (0, [.ref r0, .ref r1, .ref r2, .ref r3, .ref r4])), (r3, .inr (1, [.ref q3, .int (nI nl)])), (q3, .inl (cJ G, 12, .inr (.inl (fJ gl))))] rfl rfl rfl (Nat.le_of_ble_eq_true rfl) dX3_wrongLetter_29 (fun H locs hw => ?_)
        refine lv_iload_n hx hb dX3_wrongLetter_32 rfl (lv_at hl 2 rfl) ?_
        refine x_cfSi E hw hl.1 (As := [.int (nI y)]) (rest := [.long (lN (gl i))]) (c_X3_sideAt l G y (by omega)) 1 gX3_wrongLetter_X3_sideAt rfl rfl rfl (by decide) ⟨Nat.le_of_ble_eq_true rfl, Nat.le_of_ble_eq_true rfl⟩ ⟨Nat.le_of_ble_eq_true rfl, Nat.le_of_ble_eq_true rfl⟩ rfl [] [0, 1, 2, 3] rfl rfl rfl rfl rfl [0, 1, 2, 3] [(x, .inr (3, [.ref tx, .ref o, .ref o1, .ref o2, .int (nI pa), .int (nI pt), .int (nI off), .int (nI ha), .long tr])), (o, .inr (0, [.ref r0, .ref r1, .ref r2, .ref r3, .ref r4])), (r3, .inr (1, [.ref q3, .int (nI nl)])), (q3, .inl (cJ G, 12, .inr (.inl (fJ gl))))] rfl rfl rfl (Nat.le_of_ble_eq_true rfl) dX3_wrongLetter_33 (fun H locs hw => ?_)
        refine lv_i2l (v := (lN (y % 2))) hx hb dX3_wrongLetter_36 (nI_l (by omega)) ?_
        have hgli := hgl i
        refine x_lc_eq E (lN_toI (show gl i < 9223372036854775808 by omega)) (lN_toI (show y % 2 < 9223372036854775808 by omega)) (tgt := 44) dX3_wrongLetter_37 dX3_wrongLetter_38 (by decide) (fun c_2 => ?_) (fun c_2 => ?_)
        · have hy : gl i = y % 2 := by omega
          refine lv_iload_n hx hb dX3_wrongLetter_44 rfl (lv_at hl 1 rfl) ?_
          refine lv_iload_n hx hb dX3_wrongLetter_45 rfl (lv_at hl 2 rfl) ?_
          refine x_cfSi E hw hl.1 (As := [.int (nI P), .int (nI y)]) (rest := []) (c_X3_ruled l G P y (by omega)) 2 gX3_wrongLetter_X3_ruled rfl rfl rfl (by decide) ⟨Nat.le_of_ble_eq_true rfl, Nat.le_of_ble_eq_true rfl⟩ ⟨Nat.le_of_ble_eq_true rfl, Nat.le_of_ble_eq_true rfl⟩ rfl [] [0, 1, 2, 3] rfl rfl rfl rfl rfl [0, 1, 2, 3] [(x, .inr (3, [.ref tx, .ref o, .ref o1, .ref o2, .int (nI pa), .int (nI pt), .int (nI off), .int (nI ha), .long tr])), (o, .inr (0, [.ref r0, .ref r1, .ref r2, .ref r3, .ref r4])), (r3, .inr (1, [.ref q3, .int (nI nl)])), (q3, .inl (cJ G, 12, .inr (.inl (fJ gl))))] rfl rfl rfl (Nat.le_of_ble_eq_true rfl) dX3_wrongLetter_46 (fun H locs hw => ?_)
          refine lv_istore_n (lv' := [(3, .int (nI (gz P y))), (0, .ref x), (1, .int (nI P)), (4, .int (nI i))]) hx hb dX3_wrongLetter_49 rfl hl (by decide) rfl (fun ls hl => ?_)
          refine lv_iinc (v := (nI (i + 1))) (lv' := [(4, .int (nI (i + 1))), (3, .int (nI (gz P y))), (0, .ref x), (1, .int (nI P))]) hx hb dX3_wrongLetter_50 hl (k := 3) rfl (x_inc1 _) (by decide) rfl (fun ls hl => ?_)
          refine lv_goto (tgt := 5) hx hb dX3_wrongLetter_53 (by decide) ?_
          exact ih_5 (i + 1) (gz P y) (by omega) (gz_lt hyP) ((wlL_yes (by omega) hy).symm.trans hinv) (by omega) _ _ _ hw (lv_sub hl [2, 3, 1, 0] rfl)
        · have hy : ¬ gl i = y % 2 := by omega
          refine lv_iload hx hb dX3_wrongLetter_41 (lv_at hl 3 rfl) ?_
          exact hret (nI i) () _ _ _ _ dX3_wrongLetter_43 rfl (by rw [← hinv, wlL_no (by omega) hy]) hw
  exact loop_5 (nl - 0 + 1) 0 j (by omega) (by omega) rfl (Nat.lt_succ_self _) _ _ _ hw (lv_sub hl [2, 3, 1, 0] rfl)

abbrev rm_X3_wrong : Room := { frames := 3, cells := 0, slots := 0, locals := 65 }
set_option maxHeartbeats 4000000 in
set_option maxRecDepth 100000 in
theorem c_X3_wrong (l : Launch) (G : XG) (x : Nat) (tx : Nat) (o : Nat) (o1 : Nat) (o2 : Nat) (pa : Nat) (pt : Nat) (off : Nat) (ha : Nat) (tr : Int64) (r0 : Nat) (r1 : Nat) (r2 : Nat) (r3 : Nat) (r4 : Nat) (q3 : Nat) (nl : Nat) (gl : Nat → Nat) (hnl : nl ≤ 12) (hgl : ∀ q, gl q ≤ 1) (hpa : pa ≤ 63) (hpt : pt < pa) : CfI l yX3_wrong wsX3_wrong rm_X3_wrong G [.ref x] [(x, .inr (3, [.ref tx, .ref o, .ref o1, .ref o2, .int (nI pa), .int (nI pt), .int (nI off), .int (nI ha), .long tr])), (o, .inr (0, [.ref r0, .ref r1, .ref r2, .ref r3, .ref r4])), (r3, .inr (1, [.ref q3, .int (nI nl)])), (q3, .inl (cJ G, 12, .inr (.inl (fJ gl))))] (wlF gl nl pa pt) [(x, .inr (3, [.ref tx, .ref o, .ref o1, .ref o2, .int (nI pa), .int (nI pt), .int (nI off), .int (nI ha), .long tr])), (o, .inr (0, [.ref r0, .ref r1, .ref r2, .ref r3, .ref r4])), (r3, .inr (1, [.ref q3, .int (nI nl)])), (q3, .inl (cJ G, 12, .inr (.inl (fJ gl))))] := by
  refine CtI.go (cc := cX3_wrong) (maxL := 1) RX3 rfl (by decide) rfl (Nat.le_of_ble_eq_true rfl) ?_
  intro p e s m args below meth c A Q ls E hw hl hret
  have hx := E.1
  have hb := E.2.1
  have hinX3 : ∀ w ∈ wsX30, w ∈ wsX3_wrong := (fun w h => List.mem_cons_of_mem _ (List.mem_append_left _ (List.mem_append_left _ (List.mem_append_right _ h))))
  have hl : lv_has ls 1 [(0, .ref x)] := hl
  refine lv_aload_n hx hb dX3_wrong_0 rfl (lv_at hl 0 rfl) ?_
  refine lv_aload_n hx hb dX3_wrong_1 rfl (lv_at hl 0 rfl) ?_
  refine x_get E hw (C := RX3) (T := TX3) (N := 9) hinX3 0 rfl rfl 4 (by decide) rfl (List.mem_of_getElem? (i := 1) rfl) dX3_wrong_2 ?_
  refine lv_aload_n hx hb dX3_wrong_5 rfl (lv_at hl 0 rfl) ?_
  refine x_get E hw (C := RX3) (T := TX3) (N := 9) hinX3 0 rfl rfl 5 (by decide) rfl (List.mem_of_getElem? (i := 2) rfl) dX3_wrong_6 ?_
  refine x_cfVi E hw hl.1 (As := [.int (nI pa), .int (nI pt)]) (rest := []) (c_X3_wrongLetter l G x tx o o1 o2 pa pt off ha tr r0 r1 r2 r3 r4 q3 nl gl pa pt (by omega) hgl (by omega) (by omega)) 2 gX3_wrong_X3_wrongLetter rfl rfl rfl (by decide) ⟨Nat.le_of_ble_eq_true rfl, Nat.le_of_ble_eq_true rfl⟩ ⟨Nat.le_of_ble_eq_true rfl, Nat.le_of_ble_eq_true rfl⟩ rfl 0 (ci := 3) (C := RX3) (T := TX3) (N := 9) rfl rfl [0, 1, 2, 3] [] rfl rfl rfl rfl rfl [0, 1, 2, 3] [(x, .inr (3, [.ref tx, .ref o, .ref o1, .ref o2, .int (nI pa), .int (nI pt), .int (nI off), .int (nI ha), .long tr])), (o, .inr (0, [.ref r0, .ref r1, .ref r2, .ref r3, .ref r4])), (r3, .inr (1, [.ref q3, .int (nI nl)])), (q3, .inl (cJ G, 12, .inr (.inl (fJ gl))))] rfl rfl rfl (Nat.le_of_ble_eq_true rfl) dX3_wrong_9 (fun H locs hw => ?_)
  exact hret (wlF gl nl pa pt) () _ _ _ _ dX3_wrong_12 rfl rfl hw

abbrev rm_X3_meant : Room := { frames := 3, cells := 0, slots := 0, locals := 65 }
set_option maxHeartbeats 4000000 in
set_option maxRecDepth 100000 in
theorem c_X3_meant (l : Launch) (G : XG) (x : Nat) (tx : Nat) (o : Nat) (o1 : Nat) (o2 : Nat) (pa : Nat) (pt : Nat) (off : Nat) (ha : Nat) (tr : Int64) (r0 : Nat) (r1 : Nat) (r2 : Nat) (r3 : Nat) (r4 : Nat) (q3 : Nat) (nl : Nat) (gl : Nat → Nat) (a : Int32) (hnl : nl ≤ 12) (hgl : ∀ q, gl q ≤ 1) : CfI l yX3_meant wsX3_meant rm_X3_meant G [.ref x, .int a] [(x, .inr (3, [.ref tx, .ref o, .ref o1, .ref o2, .int (nI pa), .int (nI pt), .int (nI off), .int (nI ha), .long tr])), (o, .inr (0, [.ref r0, .ref r1, .ref r2, .ref r3, .ref r4])), (r3, .inr (1, [.ref q3, .int (nI nl)])), (q3, .inl (cJ G, 12, .inr (.inl (fJ gl))))] (meantF (xmP gl nl 31 3 (0, -9, -9)) a.toInt) [(x, .inr (3, [.ref tx, .ref o, .ref o1, .ref o2, .int (nI pa), .int (nI pt), .int (nI off), .int (nI ha), .long tr])), (o, .inr (0, [.ref r0, .ref r1, .ref r2, .ref r3, .ref r4])), (r3, .inr (1, [.ref q3, .int (nI nl)])), (q3, .inl (cJ G, 12, .inr (.inl (fJ gl))))] := by
  refine CtI.go (cc := cX3_meant) (maxL := 7) RX3 rfl (by decide) rfl (Nat.le_of_ble_eq_true rfl) ?_
  intro p e s m args below meth c A Q ls E hw hl hret
  have hx := E.1
  have hb := E.2.1
  have hl : lv_has ls 7 [(0, .ref x), (1, .int a)] := hl
  refine lv_iload_n hx hb dX3_meant_0 rfl (lv_at hl 1 rfl) ?_
  refine x_if_lt E rfl (tgt := 9) dX3_meant_1 (by decide) (fun c_1 => ?_) (fun c_1 => ?_)
  · refine lv_iconst (v := (-1 : Int32)) hx hb dX3_meant_9 (by decide) ?_
    exact hret (-1 : Int32) () _ _ _ _ dX3_meant_10 rfl (ifF (by omega) rfl) hw
  · refine lv_iload_n hx hb dX3_meant_4 rfl (lv_at hl 1 rfl) ?_
    refine lv_iconst (v := (nI 2)) hx hb dX3_meant_5 (by decide) ?_
    refine x_icmp_le E rfl (nI_toI (by decide)) (tgt := 11) dX3_meant_6 (by decide) (fun c_2 => ?_) (fun c_2 => ?_)
    · refine lv_iconst (v := (nI 0)) hx hb dX3_meant_11 (by decide) ?_
      refine lv_istore_n (lv' := [(2, .int (nI 0)), (0, .ref x), (1, .int a)]) hx hb dX3_meant_12 rfl hl (by decide) rfl (fun ls hl => ?_)
      refine lv_bipush (v := (-9 : Int32)) hx hb dX3_meant_13 (by decide) ?_
      refine lv_istore_n (lv' := [(3, .int (-9 : Int32)), (2, .int (nI 0)), (0, .ref x), (1, .int a)]) hx hb dX3_meant_15 rfl hl (by decide) rfl (fun ls hl => ?_)
      refine lv_bipush (v := (-9 : Int32)) hx hb dX3_meant_16 (by decide) ?_
      refine lv_istore (lv' := [(4, .int (-9 : Int32)), (3, .int (-9 : Int32)), (2, .int (nI 0)), (0, .ref x), (1, .int a)]) hx hb dX3_meant_18 hl (by decide) rfl (fun ls hl => ?_)
      refine lv_iconst (v := (nI 3)) hx hb dX3_meant_20 (by decide) ?_
      refine lv_istore (lv' := [(5, .int (nI 3)), (4, .int (-9 : Int32)), (3, .int (-9 : Int32)), (2, .int (nI 0)), (0, .ref x), (1, .int a)]) hx hb dX3_meant_21 hl (by decide) rfl (fun ls hl => ?_)
      have loop_23 : ∀ (fu : Nat) (f : Nat) (P : Nat) (n : Nat) (a1 : Int32) (b1 : Int32), P + 2 * f = 65 → 3 ≤ P → n ≤ 64 * P → xmP gl nl f P (n, a1, b1) = xmP gl nl 31 3 (0, -9, -9) → f < fu → ∀ (H : Heap) (locs : List Loc) (ls : Array Slot), Wd G s A [(x, .inr (3, [.ref tx, .ref o, .ref o1, .ref o2, .int (nI pa), .int (nI pt), .int (nI off), .int (nI ha), .long tr])), (o, .inr (0, [.ref r0, .ref r1, .ref r2, .ref r3, .ref r4])), (r3, .inr (1, [.ref q3, .int (nI nl)])), (q3, .inl (cJ G, 12, .inr (.inl (fJ gl))))] H locs → lv_has ls 7 [(0, .ref x), (1, .int a), (2, .int (nI n)), (3, .int a1), (4, .int b1), (5, .int (nI P))] → W p l e rm_X3_meant s m args below meth c H locs 0 0 Q (F0 m 23 ls []) := by
        intro fu
        induction fu with
        | zero =>
          intro f P n a1 b1 hPf hP3 hnb hout hmu
          exact absurd hmu (Nat.not_lt_zero _)
        | succ fu ih_23 =>
          intro f P n a1 b1 hPf hP3 hnb hout hmu_23 H locs ls hw hl
          refine lv_iload hx hb dX3_meant_23 (lv_at hl 5 rfl) ?_
          refine lv_bipush (v := (nI 63)) hx hb dX3_meant_25 (by decide) ?_
          refine x_icmp_gt E (nI_toI (show P < 2147483648 by omega)) (nI_toI (by decide)) (tgt := 92) dX3_meant_27 (by decide) (fun c_3 => ?_) (fun c_3 => ?_)
          · obtain rfl : f = 0 := by omega
            have hT : (n, a1, b1) = xmP gl nl 31 3 (0, -9, -9) := hout
            refine lv_iload_n hx hb dX3_meant_92 rfl (lv_at hl 1 rfl) ?_
            refine x_if_ne E rfl (tgt := 98) dX3_meant_93 (by decide) (fun c_4 => ?_) (fun c_4 => ?_)
            · refine lv_iload_n hx hb dX3_meant_98 rfl (lv_at hl 1 rfl) ?_
              refine lv_iconst (v := (nI 1)) hx hb dX3_meant_99 (by decide) ?_
              refine x_icmp_ne E rfl (nI_toI (by decide)) (tgt := 107) dX3_meant_100 (by decide) (fun c_5 => ?_) (fun c_5 => ?_)
              · refine lv_iload hx hb dX3_meant_107 (lv_at hl 4 rfl) ?_
                exact hret b1 () _ _ _ _ dX3_meant_109 rfl (by rw [← hT]; exact ifT (by omega) (ifF (by omega) (ifF (by omega) rfl))) hw
              · refine lv_iload_n hx hb dX3_meant_103 rfl (lv_at hl 3 rfl) ?_
                refine lv_goto (tgt := 109) hx hb dX3_meant_104 (by decide) ?_
                exact hret a1 () _ _ _ _ dX3_meant_109 rfl (by rw [← hT]; exact ifT (by omega) (ifF (by omega) (ifT (by omega) rfl))) hw
            · refine lv_iload_n hx hb dX3_meant_96 rfl (lv_at hl 2 rfl) ?_
              exact hret (nI n) () _ _ _ _ dX3_meant_97 rfl (by rw [← hT]; exact ifT (by omega) (ifT (by omega) rfl)) hw
          · obtain ⟨f2, rfl⟩ : ∃ f2, f = f2 + 1 := ⟨f - 1, by omega⟩
            refine lv_iconst (v := (nI 1)) hx hb dX3_meant_30 (by decide) ?_
            refine lv_istore (lv' := [(6, .int (nI 1)), (0, .ref x), (1, .int a), (2, .int (nI n)), (3, .int a1), (4, .int b1), (5, .int (nI P))]) hx hb dX3_meant_31 hl (by decide) rfl (fun ls hl => ?_)
            have loop_33 : ∀ (fu : Nat) (j : Nat) (m2 : Nat) (a2 : Int32) (b2 : Int32), 1 ≤ j → j ≤ P → m2 ≤ 64 * P + j → xmJ gl nl P (P - j) j (m2, a2, b2) = xmJ gl nl P (P - 1) 1 (n, a1, b1) → P - j < fu → ∀ (H : Heap) (locs : List Loc) (ls : Array Slot), Wd G s A [(x, .inr (3, [.ref tx, .ref o, .ref o1, .ref o2, .int (nI pa), .int (nI pt), .int (nI off), .int (nI ha), .long tr])), (o, .inr (0, [.ref r0, .ref r1, .ref r2, .ref r3, .ref r4])), (r3, .inr (1, [.ref q3, .int (nI nl)])), (q3, .inl (cJ G, 12, .inr (.inl (fJ gl))))] H locs → lv_has ls 7 [(0, .ref x), (1, .int a), (2, .int (nI m2)), (3, .int a2), (4, .int b2), (5, .int (nI P)), (6, .int (nI j))] → W p l e rm_X3_meant s m args below meth c H locs 0 0 Q (F0 m 33 ls []) := by
              intro fu
              induction fu with
              | zero =>
                intro j m2 a2 b2 hj1 hjP hmb hin hmu
                exact absurd hmu (Nat.not_lt_zero _)
              | succ fu ih_33 =>
                intro j m2 a2 b2 hj1 hjP hmb hin hmu_33 H locs ls hw hl
                refine lv_iload hx hb dX3_meant_33 (lv_at hl 6 rfl) ?_
                refine lv_iload hx hb dX3_meant_35 (lv_at hl 5 rfl) ?_
                refine x_icmp_ge E (nI_toI (show j < 2147483648 by omega)) (nI_toI (show P < 2147483648 by omega)) (tgt := 86) dX3_meant_37 (by decide) (fun c_6 => ?_) (fun c_6 => ?_)
                · refine lv_iinc (v := (nI (P + 2))) (lv' := [(5, .int (nI (P + 2))), (0, .ref x), (1, .int a), (2, .int (nI m2)), (3, .int a2), (4, .int b2), (6, .int (nI j))]) hx hb dX3_meant_86 hl (k := 5) rfl (x_incK _ 2 2 (by decide)) (by decide) rfl (fun ls hl => ?_)
                  refine lv_goto (tgt := 23) hx hb dX3_meant_89 (by decide) ?_
                  exact ih_23 f2 (P + 2) m2 a2 b2 (by omega) (by omega) (by omega) (by rw [← hout, xmP, ← hin, show P - j = 0 by omega, xmJ]) (by omega) _ _ _ hw (lv_sub hl [1, 2, 3, 4, 5, 0] rfl)
                · refine lv_aload_n hx hb dX3_meant_40 rfl (lv_at hl 0 rfl) ?_
                  refine lv_iload hx hb dX3_meant_41 (lv_at hl 5 rfl) ?_
                  refine lv_iload hx hb dX3_meant_43 (lv_at hl 6 rfl) ?_
                  refine x_cfVi E hw hl.1 (As := [.int (nI P), .int (nI j)]) (rest := []) (c_X3_wrongLetter l G x tx o o1 o2 pa pt off ha tr r0 r1 r2 r3 r4 q3 nl gl P j (by omega) hgl (by omega) (by omega)) 2 gX3_meant_X3_wrongLetter rfl rfl rfl (by decide) ⟨Nat.le_of_ble_eq_true rfl, Nat.le_of_ble_eq_true rfl⟩ ⟨Nat.le_of_ble_eq_true rfl, Nat.le_of_ble_eq_true rfl⟩ rfl 0 (ci := 3) (C := RX3) (T := TX3) (N := 9) rfl rfl [0, 1, 2, 3] [] rfl rfl rfl rfl rfl [0, 1, 2, 3] [(x, .inr (3, [.ref tx, .ref o, .ref o1, .ref o2, .int (nI pa), .int (nI pt), .int (nI off), .int (nI ha), .long tr])), (o, .inr (0, [.ref r0, .ref r1, .ref r2, .ref r3, .ref r4])), (r3, .inr (1, [.ref q3, .int (nI nl)])), (q3, .inl (cJ G, 12, .inr (.inl (fJ gl))))] rfl rfl rfl (Nat.le_of_ble_eq_true rfl) dX3_meant_45 (fun H locs hw => ?_)
                  refine lv_bipush (v := (-9 : Int32)) hx hb dX3_meant_48 (by decide) ?_
                  refine x_icmp_ne E rfl (show ((-9 : Int32)).toInt = -9 by decide) (tgt := 80) dX3_meant_50 (by decide) (fun hw9 => ?_) (fun hw9 => ?_)
                  · have hok := i_n9 hw9
                    refine lv_iinc (v := (nI (j + 1))) (lv' := [(6, .int (nI (j + 1))), (0, .ref x), (1, .int a), (2, .int (nI m2)), (3, .int a2), (4, .int b2), (5, .int (nI P))]) hx hb dX3_meant_80 hl (k := 6) rfl (x_inc1 _) (by decide) rfl (fun ls hl => ?_)
                    refine lv_goto (tgt := 33) hx hb dX3_meant_83 (by decide) ?_
                    exact ih_33 (j + 1) m2 a2 b2 (by omega) (by omega) (by omega) (by have h9 := xmJ_step (gl := gl) (nl := nl) (t := (m2, a2, b2)) (show j < P by omega); rw [if_neg hok, hin] at h9; exact h9.symm) (by omega) _ _ _ hw (lv_sub hl [1, 2, 3, 4, 5, 6, 0] rfl)
                  · have hok := i_m9 hw9
                    refine lv_iload_n hx hb dX3_meant_53 rfl (lv_at hl 2 rfl) ?_
                    refine x_if_ne E (nI_toI (show m2 < 2147483648 by omega)) (tgt := 62) dX3_meant_54 (by decide) (fun hn0 => ?_) (fun hn0 => ?_)
                    · refine lv_iload_n hx hb dX3_meant_62 rfl (lv_at hl 3 rfl) ?_
                      refine lv_istore_n (lv' := [(3, .int a2), (0, .ref x), (1, .int a), (2, .int (nI m2)), (4, .int b2), (5, .int (nI P)), (6, .int (nI j))]) hx hb dX3_meant_63 rfl hl (by decide) rfl (fun ls hl => ?_)
                      refine lv_iload_n hx hb dX3_meant_64 rfl (lv_at hl 3 rfl) ?_
                      refine x_if_ne E (nI_toI (show m2 < 2147483648 by omega)) (tgt := 73) dX3_meant_65 (by decide) (fun hn1 => ?_) (fun hn1 => ?_)
                      · refine lv_iload hx hb dX3_meant_73 (lv_at hl 4 rfl) ?_
                        refine lv_istore (lv' := [(4, .int b2), (3, .int a2), (0, .ref x), (1, .int a), (2, .int (nI m2)), (5, .int (nI P)), (6, .int (nI j))]) hx hb dX3_meant_75 hl (by decide) rfl (fun ls hl => ?_)
                        refine lv_iinc (v := (nI (m2 + 1))) (lv' := [(2, .int (nI (m2 + 1))), (4, .int b2), (3, .int a2), (0, .ref x), (1, .int a), (5, .int (nI P)), (6, .int (nI j))]) hx hb dX3_meant_77 hl (k := 4) rfl (x_inc1 _) (by decide) rfl (fun ls hl => ?_)
                        refine lv_iinc (v := (nI (j + 1))) (lv' := [(6, .int (nI (j + 1))), (2, .int (nI (m2 + 1))), (4, .int b2), (3, .int a2), (0, .ref x), (1, .int a), (5, .int (nI P))]) hx hb dX3_meant_80 hl (k := 6) rfl (x_inc1 _) (by decide) rfl (fun ls hl => ?_)
                        refine lv_goto (tgt := 33) hx hb dX3_meant_83 (by decide) ?_
                        exact ih_33 (j + 1) (m2 + 1) a2 b2 (by omega) (by omega) (by omega) (by have h9 := xmJ_step (gl := gl) (nl := nl) (t := (m2, a2, b2)) (show j < P by omega); rw [if_pos hok, hin] at h9; dsimp only at h9; rw [if_neg (show ¬ m2 = 0 by omega), if_neg (show ¬ m2 = 0 by omega)] at h9; exact h9.symm) (by omega) _ _ _ hw (lv_sub hl [4, 5, 1, 3, 2, 6, 0] rfl)
                      · exfalso; omega
                    · refine lv_iload hx hb dX3_meant_57 (lv_at hl 5 rfl) ?_
                      refine lv_goto (tgt := 63) hx hb dX3_meant_59 (by decide) ?_
                      refine lv_istore_n (lv' := [(3, .int (nI P)), (0, .ref x), (1, .int a), (2, .int (nI m2)), (4, .int b2), (5, .int (nI P)), (6, .int (nI j))]) hx hb dX3_meant_63 rfl hl (by decide) rfl (fun ls hl => ?_)
                      refine lv_iload_n hx hb dX3_meant_64 rfl (lv_at hl 3 rfl) ?_
                      refine x_if_ne E (nI_toI (show m2 < 2147483648 by omega)) (tgt := 73) dX3_meant_65 (by decide) (fun hn1 => ?_) (fun hn1 => ?_)
                      · exfalso; omega
                      · refine lv_iload hx hb dX3_meant_68 (lv_at hl 6 rfl) ?_
                        refine lv_goto (tgt := 75) hx hb dX3_meant_70 (by decide) ?_
                        refine lv_istore (lv' := [(4, .int (nI j)), (3, .int (nI P)), (0, .ref x), (1, .int a), (2, .int (nI m2)), (5, .int (nI P)), (6, .int (nI j))]) hx hb dX3_meant_75 hl (by decide) rfl (fun ls hl => ?_)
                        refine lv_iinc (v := (nI (m2 + 1))) (lv' := [(2, .int (nI (m2 + 1))), (4, .int (nI j)), (3, .int (nI P)), (0, .ref x), (1, .int a), (5, .int (nI P)), (6, .int (nI j))]) hx hb dX3_meant_77 hl (k := 4) rfl (x_inc1 _) (by decide) rfl (fun ls hl => ?_)
                        refine lv_iinc (v := (nI (j + 1))) (lv' := [(6, .int (nI (j + 1))), (2, .int (nI (m2 + 1))), (4, .int (nI j)), (3, .int (nI P)), (0, .ref x), (1, .int a), (5, .int (nI P))]) hx hb dX3_meant_80 hl (k := 6) rfl (x_inc1 _) (by decide) rfl (fun ls hl => ?_)
                        refine lv_goto (tgt := 33) hx hb dX3_meant_83 (by decide) ?_
                        exact ih_33 (j + 1) (m2 + 1) (nI P) (nI j) (by omega) (by omega) (by omega) (by have h9 := xmJ_step (gl := gl) (nl := nl) (t := (m2, a2, b2)) (show j < P by omega); rw [if_pos hok, hin] at h9; dsimp only at h9; rw [if_pos (show m2 = 0 by omega), if_pos (show m2 = 0 by omega)] at h9; exact h9.symm) (by omega) _ _ _ hw (lv_sub hl [4, 5, 1, 3, 2, 6, 0] rfl)
            exact loop_33 (P - 1 + 1) 1 n a1 b1 (by omega) (by omega) (by omega) rfl (Nat.lt_succ_self _) _ _ _ hw (lv_sub hl [1, 2, 3, 4, 5, 6, 0] rfl)
      exact loop_23 (31 + 1) 31 3 0 (-9 : Int32) (-9 : Int32) (by omega) (by omega) (by omega) rfl (Nat.lt_succ_self _) _ _ _ hw (lv_sub hl [4, 5, 3, 2, 1, 0] rfl)
    · refine lv_iconst (v := (-1 : Int32)) hx hb dX3_meant_9 (by decide) ?_
      exact hret (-1 : Int32) () _ _ _ _ dX3_meant_10 rfl (ifF (by omega) rfl) hw

abbrev rm_X3_waysFrom : Room := { frames := 2, cells := 0, slots := 0, locals := 41 }
set_option maxHeartbeats 4000000 in
set_option maxRecDepth 100000 in
theorem c_X3_waysFrom (l : Launch) (G : XG) (x : Nat) (tx : Nat) (o : Nat) (o1 : Nat) (o2 : Nat) (pa : Nat) (pt : Nat) (off : Nat) (ha : Nat) (tr : Int64) (j : Nat) (S : Nat) (hpa : pa ≤ 63) (hj : j < pa) (hS : S < 9223372036854775808) : CfI l yX3_waysFrom wsX3_waysFrom rm_X3_waysFrom G [.ref x, .int (nI j), .long (lN S)] [(x, .inr (3, [.ref tx, .ref o, .ref o1, .ref o2, .int (nI pa), .int (nI pt), .int (nI off), .int (nI ha), .long tr]))] (nI (wf pa S j)) [(x, .inr (3, [.ref tx, .ref o, .ref o1, .ref o2, .int (nI pa), .int (nI pt), .int (nI off), .int (nI ha), .long tr]))] := by
  refine CtI.go (cc := cX3_waysFrom) (maxL := 9) RX3 rfl (by decide) rfl (Nat.le_of_ble_eq_true rfl) ?_
  intro p e s m args below meth c A Q ls E hw hl hret
  have hx := E.1
  have hb := E.2.1
  have hinX3 : ∀ w ∈ wsX30, w ∈ wsX3_waysFrom := (fun w h => List.mem_cons_of_mem _ (List.mem_append_right _ h))
  have hl : lv_has ls 9 [(0, .ref x), (1, .int (nI j)), (2, .long (lN S))] := hl
  refine lv_lconst (v := (lN 0)) hx hb dX3_waysFrom_0 (by decide) ?_
  refine lv_lstore (lv' := [(4, .long (lN 0)), (0, .ref x), (1, .int (nI j)), (2, .long (lN S))]) hx hb dX3_waysFrom_1 hl (by decide) rfl (fun ls hl => ?_)
  refine lv_iconst (v := (nI 0)) hx hb dX3_waysFrom_3 (by decide) ?_
  refine lv_istore (lv' := [(6, .int (nI 0)), (4, .long (lN 0)), (0, .ref x), (1, .int (nI j)), (2, .long (lN S))]) hx hb dX3_waysFrom_4 hl (by decide) rfl (fun ls hl => ?_)
  refine lv_iload_n hx hb dX3_waysFrom_6 rfl (lv_at hl 3 rfl) ?_
  refine lv_istore (lv' := [(7, .int (nI j)), (6, .int (nI 0)), (4, .long (lN 0)), (0, .ref x), (1, .int (nI j)), (2, .long (lN S))]) hx hb dX3_waysFrom_7 hl (by decide) rfl (fun ls hl => ?_)
  refine lv_iconst (v := (nI 0)) hx hb dX3_waysFrom_9 (by decide) ?_
  refine lv_istore (lv' := [(8, .int (nI 0)), (7, .int (nI j)), (6, .int (nI 0)), (4, .long (lN 0)), (0, .ref x), (1, .int (nI j)), (2, .long (lN S))]) hx hb dX3_waysFrom_10 hl (by decide) rfl (fun ls hl => ?_)
  have loop_12 : ∀ (fu : Nat) (d : Nat) (u : Nat) (y : Nat) (k : Nat), k ≤ 21 → y < pa → d < 9223372036854775808 → wfL pa S (21 - k) d y u = wf pa S j → 21 - k < fu → ∀ (H : Heap) (locs : List Loc) (ls : Array Slot), Wd G s A [(x, .inr (3, [.ref tx, .ref o, .ref o1, .ref o2, .int (nI pa), .int (nI pt), .int (nI off), .int (nI ha), .long tr]))] H locs → lv_has ls 9 [(0, .ref x), (2, .long (lN S)), (4, .long (lN d)), (6, .int (nI u)), (7, .int (nI y)), (8, .int (nI k))] → W p l e rm_X3_waysFrom s m args below meth c H locs 0 0 Q (F0 m 12 ls []) := by
    intro fu
    induction fu with
    | zero =>
      intro d u y k hk hy hd hinv hmu
      exact absurd hmu (Nat.not_lt_zero _)
    | succ fu ih_12 =>
      intro d u y k hk hy hd hinv hmu_12 H locs ls hw hl
      refine lv_iload hx hb dX3_waysFrom_12 (lv_at hl 5 rfl) ?_
      refine lv_bipush (v := (nI 20)) hx hb dX3_waysFrom_14 (by decide) ?_
      refine x_icmp_gt E (nI_toI (show k < 2147483648 by omega)) (nI_toI (by decide)) (tgt := 56) dX3_waysFrom_16 (by decide) (fun c_1 => ?_) (fun c_1 => ?_)
      · refine lv_iload hx hb dX3_waysFrom_56 (lv_at hl 3 rfl) ?_
        exact hret (nI u) () _ _ _ _ dX3_waysFrom_58 rfl (by rw [← hinv, show 21 - k = 0 by omega, wfL]) hw
      · refine lv_lload hx hb dX3_waysFrom_19 (lv_at hl 2 rfl) ?_
        refine lv_iload hx hb dX3_waysFrom_21 (lv_at hl 4 rfl) ?_
        refine x_cfSl E hw hl.1 (As := [.int (nI y)]) (rest := [.long (lN d)]) (c_X3_bit l G y (by omega)) 1 gX3_waysFrom_X3_bit rfl rfl rfl (by decide) ⟨Nat.le_of_ble_eq_true rfl, Nat.le_of_ble_eq_true rfl⟩ ⟨Nat.le_of_ble_eq_true rfl, Nat.le_of_ble_eq_true rfl⟩ rfl [] [0] rfl rfl rfl rfl rfl [0] [(x, .inr (3, [.ref tx, .ref o, .ref o1, .ref o2, .int (nI pa), .int (nI pt), .int (nI off), .int (nI ha), .long tr]))] rfl rfl rfl (Nat.le_of_ble_eq_true rfl) dX3_waysFrom_23 (fun H locs hw => ?_)
        have hor := or63 hd (show y < 63 by omega)
        refine x_lor E (v := (lN (d ||| (2 ^ y)))) dX3_waysFrom_26 (x_orL _ _) ?_
        refine lv_lstore (lv' := [(4, .long (lN (d ||| (2 ^ y)))), (0, .ref x), (2, .long (lN S)), (6, .int (nI u)), (7, .int (nI y)), (8, .int (nI k))]) hx hb dX3_waysFrom_27 hl (by decide) rfl (fun ls hl => ?_)
        refine lv_lload hx hb dX3_waysFrom_29 (lv_at hl 0 rfl) ?_
        refine lv_lload_n hx hb dX3_waysFrom_31 rfl (lv_at hl 2 rfl) ?_
        refine x_lc_ne E (lN_toI (show d ||| (2 ^ y) < 9223372036854775808 by omega)) (lN_toI (show S < 9223372036854775808 by omega)) (tgt := 39) dX3_waysFrom_32 dX3_waysFrom_33 (by decide) (fun c_2 => ?_) (fun c_2 => ?_)
        · have hdS : ¬ d ||| 2 ^ y = S := by omega
          refine lv_aload_n hx hb dX3_waysFrom_39 rfl (lv_at hl 1 rfl) ?_
          refine x_get E hw (C := RX3) (T := TX3) (N := 9) hinX3 0 rfl rfl 4 (by decide) rfl (List.mem_of_getElem? (i := 1) rfl) dX3_waysFrom_40 ?_
          refine lv_iload hx hb dX3_waysFrom_43 (lv_at hl 4 rfl) ?_
          refine x_cfSi E hw hl.1 (As := [.int (nI pa), .int (nI y)]) (rest := []) (c_X3_ruled l G pa y (by omega)) 2 gX3_waysFrom_X3_ruled rfl rfl rfl (by decide) ⟨Nat.le_of_ble_eq_true rfl, Nat.le_of_ble_eq_true rfl⟩ ⟨Nat.le_of_ble_eq_true rfl, Nat.le_of_ble_eq_true rfl⟩ rfl [] [0] rfl rfl rfl rfl rfl [0] [(x, .inr (3, [.ref tx, .ref o, .ref o1, .ref o2, .int (nI pa), .int (nI pt), .int (nI off), .int (nI ha), .long tr]))] rfl rfl rfl (Nat.le_of_ble_eq_true rfl) dX3_waysFrom_45 (fun H locs hw => ?_)
          refine lv_istore (lv' := [(7, .int (nI (gz pa y))), (4, .long (lN (d ||| (2 ^ y)))), (0, .ref x), (2, .long (lN S)), (6, .int (nI u)), (8, .int (nI k))]) hx hb dX3_waysFrom_48 hl (by decide) rfl (fun ls hl => ?_)
          refine lv_iinc (v := (nI (k + 1))) (lv' := [(8, .int (nI (k + 1))), (7, .int (nI (gz pa y))), (4, .long (lN (d ||| (2 ^ y)))), (0, .ref x), (2, .long (lN S)), (6, .int (nI u))]) hx hb dX3_waysFrom_50 hl (k := 5) rfl (x_inc1 _) (by decide) rfl (fun ls hl => ?_)
          refine lv_goto (tgt := 12) hx hb dX3_waysFrom_53 (by decide) ?_
          exact ih_12 (d ||| (2 ^ y)) u (gz pa y) (k + 1) (by omega) (gz_lt hy) (by omega) (by have h9 := wfL_step (P := pa) (S := S) (d := d) (x := y) (w := u) (show k < 21 by omega); rw [hinv] at h9; rw [if_neg hdS] at h9; exact h9.symm) (by omega) _ _ _ hw (lv_sub hl [3, 4, 2, 5, 1, 0] rfl)
        · have hdS : d ||| 2 ^ y = S := by omega
          refine lv_iinc (v := (nI (u + 1))) (lv' := [(6, .int (nI (u + 1))), (4, .long (lN (d ||| (2 ^ y)))), (0, .ref x), (2, .long (lN S)), (7, .int (nI y)), (8, .int (nI k))]) hx hb dX3_waysFrom_36 hl (k := 3) rfl (x_inc1 _) (by decide) rfl (fun ls hl => ?_)
          refine lv_aload_n hx hb dX3_waysFrom_39 rfl (lv_at hl 2 rfl) ?_
          refine x_get E hw (C := RX3) (T := TX3) (N := 9) hinX3 0 rfl rfl 4 (by decide) rfl (List.mem_of_getElem? (i := 1) rfl) dX3_waysFrom_40 ?_
          refine lv_iload hx hb dX3_waysFrom_43 (lv_at hl 4 rfl) ?_
          refine x_cfSi E hw hl.1 (As := [.int (nI pa), .int (nI y)]) (rest := []) (c_X3_ruled l G pa y (by omega)) 2 gX3_waysFrom_X3_ruled rfl rfl rfl (by decide) ⟨Nat.le_of_ble_eq_true rfl, Nat.le_of_ble_eq_true rfl⟩ ⟨Nat.le_of_ble_eq_true rfl, Nat.le_of_ble_eq_true rfl⟩ rfl [] [0] rfl rfl rfl rfl rfl [0] [(x, .inr (3, [.ref tx, .ref o, .ref o1, .ref o2, .int (nI pa), .int (nI pt), .int (nI off), .int (nI ha), .long tr]))] rfl rfl rfl (Nat.le_of_ble_eq_true rfl) dX3_waysFrom_45 (fun H locs hw => ?_)
          refine lv_istore (lv' := [(7, .int (nI (gz pa y))), (6, .int (nI (u + 1))), (4, .long (lN (d ||| (2 ^ y)))), (0, .ref x), (2, .long (lN S)), (8, .int (nI k))]) hx hb dX3_waysFrom_48 hl (by decide) rfl (fun ls hl => ?_)
          refine lv_iinc (v := (nI (k + 1))) (lv' := [(8, .int (nI (k + 1))), (7, .int (nI (gz pa y))), (6, .int (nI (u + 1))), (4, .long (lN (d ||| (2 ^ y)))), (0, .ref x), (2, .long (lN S))]) hx hb dX3_waysFrom_50 hl (k := 5) rfl (x_inc1 _) (by decide) rfl (fun ls hl => ?_)
          refine lv_goto (tgt := 12) hx hb dX3_waysFrom_53 (by decide) ?_
          exact ih_12 (d ||| (2 ^ y)) (u + 1) (gz pa y) (k + 1) (by omega) (gz_lt hy) (by omega) (by have h9 := wfL_step (P := pa) (S := S) (d := d) (x := y) (w := u) (show k < 21 by omega); rw [hinv] at h9; rw [if_pos hdS] at h9; exact h9.symm) (by omega) _ _ _ hw (lv_sub hl [4, 5, 3, 2, 1, 0] rfl)
  exact loop_12 (21 - 0 + 1) 0 0 j 0 (by omega) (by omega) (by omega) rfl (Nat.lt_succ_self _) _ _ _ hw (lv_sub hl [4, 6, 3, 2, 1, 0] rfl)

abbrev rm_X3_seenSet : Room := { frames := 1, cells := 0, slots := 0, locals := 21 }
set_option maxHeartbeats 4000000 in
set_option maxRecDepth 100000 in
theorem c_X3_seenSet (l : Launch) (G : XG) (x : Nat) (tx : Nat) (o : Nat) (o1 : Nat) (o2 : Nat) (pa : Nat) (pt : Nat) (off : Nat) (ha : Nat) (tr : Int64) (r0 : Nat) (r1 : Nat) (r2 : Nat) (r3 : Nat) (r4 : Nat) (q4 : Nat) (ns : Nat) (gs : Nat → Nat) (hns : ns ≤ 8) (hgs : ∀ q, gs q < 63) : CfL l yX3_seenSet wsX3_seenSet rm_X3_seenSet G [.ref x] [(x, .inr (3, [.ref tx, .ref o, .ref o1, .ref o2, .int (nI pa), .int (nI pt), .int (nI off), .int (nI ha), .long tr])), (o, .inr (0, [.ref r0, .ref r1, .ref r2, .ref r3, .ref r4])), (r4, .inr (1, [.ref q4, .int (nI ns)])), (q4, .inl (cJ G, 8, .inr (.inl (fJ gs))))] (lN (ssN gs ns)) [(x, .inr (3, [.ref tx, .ref o, .ref o1, .ref o2, .int (nI pa), .int (nI pt), .int (nI off), .int (nI ha), .long tr])), (o, .inr (0, [.ref r0, .ref r1, .ref r2, .ref r3, .ref r4])), (r4, .inr (1, [.ref q4, .int (nI ns)])), (q4, .inl (cJ G, 8, .inr (.inl (fJ gs))))] := by
  refine CtL.go (cc := cX3_seenSet) (maxL := 4) RX3 rfl (by decide) rfl (Nat.le_of_ble_eq_true rfl) ?_
  intro p e s m args below meth c A Q ls E hw hl hret
  have hx := E.1
  have hb := E.2.1
  have hinX0 : ∀ w ∈ wsX00, w ∈ wsX3_seenSet := (fun w h => List.mem_cons_of_mem _ (List.mem_append_left _ (List.mem_append_right _ h)))
  have hinX3 : ∀ w ∈ wsX30, w ∈ wsX3_seenSet := (fun w h => List.mem_cons_of_mem _ (List.mem_append_left _ (List.mem_append_left _ (List.mem_append_right _ h))))
  have hl : lv_has ls 4 [(0, .ref x)] := hl
  refine lv_lconst (v := (lN 0)) hx hb dX3_seenSet_0 (by decide) ?_
  refine lv_lstore_n (lv' := [(1, .long (lN 0)), (0, .ref x)]) hx hb dX3_seenSet_1 rfl hl (by decide) rfl (fun ls hl => ?_)
  refine lv_iconst (v := (nI 0)) hx hb dX3_seenSet_2 (by decide) ?_
  refine lv_istore_n (lv' := [(3, .int (nI 0)), (1, .long (lN 0)), (0, .ref x)]) hx hb dX3_seenSet_3 rfl hl (by decide) rfl (fun ls hl => ?_)
  have loop_4 : ∀ (fu : Nat) (i : Nat), i ≤ ns → ns - i < fu → ∀ (H : Heap) (locs : List Loc) (ls : Array Slot), Wd G s A [(x, .inr (3, [.ref tx, .ref o, .ref o1, .ref o2, .int (nI pa), .int (nI pt), .int (nI off), .int (nI ha), .long tr])), (o, .inr (0, [.ref r0, .ref r1, .ref r2, .ref r3, .ref r4])), (r4, .inr (1, [.ref q4, .int (nI ns)])), (q4, .inl (cJ G, 8, .inr (.inl (fJ gs))))] H locs → lv_has ls 4 [(0, .ref x), (1, .long (lN (ssN gs i))), (3, .int (nI i))] → W p l e rm_X3_seenSet s m args below meth c H locs 0 0 Q (F0 m 4 ls []) := by
    intro fu
    induction fu with
    | zero =>
      intro i hi hmu
      exact absurd hmu (Nat.not_lt_zero _)
    | succ fu ih_4 =>
      intro i hi hmu_4 H locs ls hw hl
      refine lv_iload_n hx hb dX3_seenSet_4 rfl (lv_at hl 2 rfl) ?_
      refine lv_aload_n hx hb dX3_seenSet_5 rfl (lv_at hl 0 rfl) ?_
      refine x_get E hw (C := RX3) (T := TX3) (N := 9) hinX3 0 rfl rfl 1 (by decide) rfl (List.mem_of_getElem? (i := 1) rfl) dX3_seenSet_6 ?_
      refine x_getN E hw (C := RX0) (T := TX0) (N := 5) hinX0 1 rfl rfl 4 (by decide) rfl (List.mem_of_getElem? (i := 12) rfl) dX3_seenSet_9 ?_
      refine x_cfVi E hw hl.1 (As := []) (rest := [.int (nI i)]) (c_X1_size l G r4 q4 ns) 0 gX3_seenSet_X1_size rfl rfl rfl (by decide) ⟨Nat.le_of_ble_eq_true rfl, Nat.le_of_ble_eq_true rfl⟩ ⟨Nat.le_of_ble_eq_true rfl, Nat.le_of_ble_eq_true rfl⟩ rfl 2 (ci := 1) (C := RX1) (T := TX1) (N := 2) rfl rfl [2] [0, 1, 3] rfl rfl rfl rfl rfl [0, 1, 3, 2] [(x, .inr (3, [.ref tx, .ref o, .ref o1, .ref o2, .int (nI pa), .int (nI pt), .int (nI off), .int (nI ha), .long tr])), (o, .inr (0, [.ref r0, .ref r1, .ref r2, .ref r3, .ref r4])), (r4, .inr (1, [.ref q4, .int (nI ns)])), (q4, .inl (cJ G, 8, .inr (.inl (fJ gs))))] rfl rfl rfl (Nat.le_of_ble_eq_true rfl) dX3_seenSet_12 (fun H locs hw => ?_)
      refine x_icmp_ge E (nI_toI (show i < 2147483648 by omega)) (nI_toI (show ns < 2147483648 by omega)) (tgt := 42) dX3_seenSet_15 (by decide) (fun c_1 => ?_) (fun c_1 => ?_)
      · refine lv_lload_n hx hb dX3_seenSet_42 rfl (lv_at hl 1 rfl) ?_
        exact hret (lN (ssN gs i)) () _ _ _ _ dX3_seenSet_43 (by rw [show i = ns by omega]) hw
      · refine lv_lload_n hx hb dX3_seenSet_18 rfl (lv_at hl 1 rfl) ?_
        refine lv_aload_n hx hb dX3_seenSet_19 rfl (lv_at hl 0 rfl) ?_
        refine x_get E hw (C := RX3) (T := TX3) (N := 9) hinX3 0 rfl rfl 1 (by decide) rfl (List.mem_of_getElem? (i := 1) rfl) dX3_seenSet_20 ?_
        refine x_getN E hw (C := RX0) (T := TX0) (N := 5) hinX0 1 rfl rfl 4 (by decide) rfl (List.mem_of_getElem? (i := 12) rfl) dX3_seenSet_23 ?_
        refine lv_iload_n hx hb dX3_seenSet_26 rfl (lv_at hl 2 rfl) ?_
        refine x_cfVl E hw hl.1 (As := [.int (nI i)]) (rest := [.long (lN (ssN gs i))]) (c_X1_at l G r4 q4 ns 8 i gs (by omega) (by omega)) 1 gX3_seenSet_X1_at rfl rfl rfl (by decide) ⟨Nat.le_of_ble_eq_true rfl, Nat.le_of_ble_eq_true rfl⟩ ⟨Nat.le_of_ble_eq_true rfl, Nat.le_of_ble_eq_true rfl⟩ rfl 2 (ci := 1) (C := RX1) (T := TX1) (N := 2) rfl rfl [2, 3] [0, 1] rfl rfl rfl rfl rfl [0, 1, 2, 3] [(x, .inr (3, [.ref tx, .ref o, .ref o1, .ref o2, .int (nI pa), .int (nI pt), .int (nI off), .int (nI ha), .long tr])), (o, .inr (0, [.ref r0, .ref r1, .ref r2, .ref r3, .ref r4])), (r4, .inr (1, [.ref q4, .int (nI ns)])), (q4, .inl (cJ G, 8, .inr (.inl (fJ gs))))] rfl rfl rfl (Nat.le_of_ble_eq_true rfl) dX3_seenSet_27 (fun H locs hw => ?_)
        refine lv_l2i (v := (nI (gs i))) hx hb dX3_seenSet_30 (lN_i _) ?_
        refine x_cfSl E hw hl.1 (As := [.int (nI (gs i))]) (rest := [.long (lN (ssN gs i))]) (c_X3_bit l G (gs i) (Nat.lt_trans (hgs _) (by decide))) 1 gX3_seenSet_X3_bit rfl rfl rfl (by decide) ⟨Nat.le_of_ble_eq_true rfl, Nat.le_of_ble_eq_true rfl⟩ ⟨Nat.le_of_ble_eq_true rfl, Nat.le_of_ble_eq_true rfl⟩ rfl [] [0, 1, 2, 3] rfl rfl rfl rfl rfl [0, 1, 2, 3] [(x, .inr (3, [.ref tx, .ref o, .ref o1, .ref o2, .int (nI pa), .int (nI pt), .int (nI off), .int (nI ha), .long tr])), (o, .inr (0, [.ref r0, .ref r1, .ref r2, .ref r3, .ref r4])), (r4, .inr (1, [.ref q4, .int (nI ns)])), (q4, .inl (cJ G, 8, .inr (.inl (fJ gs))))] rfl rfl rfl (Nat.le_of_ble_eq_true rfl) dX3_seenSet_31 (fun H locs hw => ?_)
        refine x_lor E (v := (lN ((ssN gs i) ||| (2 ^ (gs i))))) dX3_seenSet_34 (x_orL _ _) ?_
        refine lv_lstore_n (lv' := [(1, .long (lN ((ssN gs i) ||| (2 ^ (gs i))))), (0, .ref x), (3, .int (nI i))]) hx hb dX3_seenSet_35 rfl hl (by decide) rfl (fun ls hl => ?_)
        refine lv_iinc (v := (nI (i + 1))) (lv' := [(3, .int (nI (i + 1))), (1, .long (lN ((ssN gs i) ||| (2 ^ (gs i))))), (0, .ref x)]) hx hb dX3_seenSet_36 hl (k := 2) rfl (x_inc1 _) (by decide) rfl (fun ls hl => ?_)
        refine lv_goto (tgt := 4) hx hb dX3_seenSet_39 (by decide) ?_
        exact ih_4 (i + 1) (by omega) (by omega) _ _ _ hw (lv_sub hl [2, 1, 0] rfl)
  exact loop_4 (ns - 0 + 1) 0 (by omega) (Nat.lt_succ_self _) _ _ _ hw (lv_sub hl [2, 1, 0] rfl)

abbrev rm_X3_from : Room := { frames := 3, cells := 0, slots := 0, locals := 69 }
set_option maxHeartbeats 4000000 in
set_option maxRecDepth 100000 in
theorem c_X3_from (l : Launch) (G : XG) (x : Nat) (tx : Nat) (o : Nat) (o1 : Nat) (o2 : Nat) (pa : Nat) (pt : Nat) (off : Nat) (ha : Nat) (tr : Int64) (r0 : Nat) (r1 : Nat) (r2 : Nat) (r3 : Nat) (r4 : Nat) (q4 : Nat) (ns : Nat) (gs : Nat → Nat) (a : Int32) (hns : ns ≤ 8) (hgs : ∀ q, gs q < 63) (hpa : pa ≤ 63) (hpa3 : 3 ≤ pa) : CfI l yX3_from wsX3_from rm_X3_from G [.ref x, .int a] [(x, .inr (3, [.ref tx, .ref o, .ref o1, .ref o2, .int (nI pa), .int (nI pt), .int (nI off), .int (nI ha), .long tr])), (o, .inr (0, [.ref r0, .ref r1, .ref r2, .ref r3, .ref r4])), (r4, .inr (1, [.ref q4, .int (nI ns)])), (q4, .inl (cJ G, 8, .inr (.inl (fJ gs))))] (fromF (frX pa (ssN gs ns) (pa - 1) 1 (0, -9)) a.toInt) [(x, .inr (3, [.ref tx, .ref o, .ref o1, .ref o2, .int (nI pa), .int (nI pt), .int (nI off), .int (nI ha), .long tr])), (o, .inr (0, [.ref r0, .ref r1, .ref r2, .ref r3, .ref r4])), (r4, .inr (1, [.ref q4, .int (nI ns)])), (q4, .inl (cJ G, 8, .inr (.inl (fJ gs))))] := by
  refine CtI.go (cc := cX3_from) (maxL := 8) RX3 rfl (by decide) rfl (Nat.le_of_ble_eq_true rfl) ?_
  intro p e s m args below meth c A Q ls E hw hl hret
  have hx := E.1
  have hb := E.2.1
  have hinX3 : ∀ w ∈ wsX30, w ∈ wsX3_from := (fun w h => List.mem_cons_of_mem _ (List.mem_append_left _ (List.mem_append_left _ (List.mem_append_right _ h))))
  have hl : lv_has ls 8 [(0, .ref x), (1, .int a)] := hl
  refine lv_iload_n hx hb dX3_from_0 rfl (lv_at hl 1 rfl) ?_
  refine x_if_eq E rfl (tgt := 11) dX3_from_1 (by decide) (fun c_1 => ?_) (fun c_1 => ?_)
  · refine lv_aload_n hx hb dX3_from_11 rfl (lv_at hl 0 rfl) ?_
    refine x_cfVl E hw hl.1 (As := []) (rest := []) (c_X3_seenSet l G x tx o o1 o2 pa pt off ha tr r0 r1 r2 r3 r4 q4 ns gs (by omega) hgs) 0 gX3_from_X3_seenSet rfl rfl rfl (by decide) ⟨Nat.le_of_ble_eq_true rfl, Nat.le_of_ble_eq_true rfl⟩ ⟨Nat.le_of_ble_eq_true rfl, Nat.le_of_ble_eq_true rfl⟩ rfl 0 (ci := 3) (C := RX3) (T := TX3) (N := 9) rfl rfl [0, 1, 2, 3] [] rfl rfl rfl rfl rfl [0, 1, 2, 3] [(x, .inr (3, [.ref tx, .ref o, .ref o1, .ref o2, .int (nI pa), .int (nI pt), .int (nI off), .int (nI ha), .long tr])), (o, .inr (0, [.ref r0, .ref r1, .ref r2, .ref r3, .ref r4])), (r4, .inr (1, [.ref q4, .int (nI ns)])), (q4, .inl (cJ G, 8, .inr (.inl (fJ gs))))] rfl rfl rfl (Nat.le_of_ble_eq_true rfl) dX3_from_12 (fun H locs hw => ?_)
    refine lv_lstore_n (lv' := [(2, .long (lN (ssN gs ns))), (0, .ref x), (1, .int a)]) hx hb dX3_from_15 rfl hl (by decide) rfl (fun ls hl => ?_)
    refine lv_iconst (v := (nI 0)) hx hb dX3_from_16 (by decide) ?_
    refine lv_istore (lv' := [(4, .int (nI 0)), (2, .long (lN (ssN gs ns))), (0, .ref x), (1, .int a)]) hx hb dX3_from_17 hl (by decide) rfl (fun ls hl => ?_)
    refine lv_bipush (v := (-9 : Int32)) hx hb dX3_from_19 (by decide) ?_
    refine lv_istore (lv' := [(5, .int (-9 : Int32)), (4, .int (nI 0)), (2, .long (lN (ssN gs ns))), (0, .ref x), (1, .int a)]) hx hb dX3_from_21 hl (by decide) rfl (fun ls hl => ?_)
    refine lv_iconst (v := (nI 1)) hx hb dX3_from_23 (by decide) ?_
    refine lv_istore (lv' := [(6, .int (nI 1)), (5, .int (-9 : Int32)), (4, .int (nI 0)), (2, .long (lN (ssN gs ns))), (0, .ref x), (1, .int a)]) hx hb dX3_from_24 hl (by decide) rfl (fun ls hl => ?_)
    have loop_26 : ∀ (fu : Nat) (k : Nat) (u : Nat) (b : Int32), 1 ≤ k → k ≤ pa → frX pa (ssN gs ns) (pa - k) k (u, b) = frX pa (ssN gs ns) (pa - 1) 1 (0, -9) → pa - k < fu → ∀ (H : Heap) (locs : List Loc) (ls : Array Slot), Wd G s A [(x, .inr (3, [.ref tx, .ref o, .ref o1, .ref o2, .int (nI pa), .int (nI pt), .int (nI off), .int (nI ha), .long tr])), (o, .inr (0, [.ref r0, .ref r1, .ref r2, .ref r3, .ref r4])), (r4, .inr (1, [.ref q4, .int (nI ns)])), (q4, .inl (cJ G, 8, .inr (.inl (fJ gs))))] H locs → lv_has ls 8 [(0, .ref x), (1, .int a), (2, .long (lN (ssN gs ns))), (4, .int (nI u)), (5, .int b), (6, .int (nI k))] → W p l e rm_X3_from s m args below meth c H locs 0 0 Q (F0 m 26 ls []) := by
      intro fu
      induction fu with
      | zero =>
        intro k u b hk1 hk hinv hmu
        exact absurd hmu (Nat.not_lt_zero _)
      | succ fu ih_26 =>
        intro k u b hk1 hk hinv hmu_26 H locs ls hw hl
        refine lv_iload hx hb dX3_from_26 (lv_at hl 5 rfl) ?_
        refine lv_aload_n hx hb dX3_from_28 rfl (lv_at hl 0 rfl) ?_
        refine x_get E hw (C := RX3) (T := TX3) (N := 9) hinX3 0 rfl rfl 4 (by decide) rfl (List.mem_of_getElem? (i := 1) rfl) dX3_from_29 ?_
        refine x_icmp_ge E (nI_toI (show k < 2147483648 by omega)) (nI_toI (show pa < 2147483648 by omega)) (tgt := 73) dX3_from_32 (by decide) (fun c_2 => ?_) (fun c_2 => ?_)
        · have hT : (u, b) = frX pa (ssN gs ns) (pa - 1) 1 (0, -9) := by rw [← hinv, show pa - k = 0 by omega, frX]
          refine lv_iload_n hx hb dX3_from_73 rfl (lv_at hl 1 rfl) ?_
          refine x_if_ne E rfl (tgt := 82) dX3_from_74 (by decide) (fun c_3 => ?_) (fun c_3 => ?_)
          · refine lv_iload hx hb dX3_from_82 (lv_at hl 4 rfl) ?_
            exact hret b () _ _ _ _ dX3_from_84 rfl (by rw [← hT]; exact ifT (by omega) (ifF (by omega) rfl)) hw
          · refine lv_iload hx hb dX3_from_77 (lv_at hl 3 rfl) ?_
            refine lv_goto (tgt := 84) hx hb dX3_from_79 (by decide) ?_
            exact hret (nI u) () _ _ _ _ dX3_from_84 rfl (by rw [← hT]; exact ifT (by omega) (ifT (by omega) rfl)) hw
        · refine lv_aload_n hx hb dX3_from_35 rfl (lv_at hl 0 rfl) ?_
          refine lv_iload hx hb dX3_from_36 (lv_at hl 5 rfl) ?_
          refine lv_lload_n hx hb dX3_from_38 rfl (lv_at hl 2 rfl) ?_
          refine x_cfVi E hw hl.1 (As := [.int (nI k), .long (lN (ssN gs ns))]) (rest := []) (c_X3_waysFrom l G x tx o o1 o2 pa pt off ha tr k (ssN gs ns) (by omega) (by omega) (ssN_lt hgs _)) 2 gX3_from_X3_waysFrom rfl rfl rfl (by decide) ⟨Nat.le_of_ble_eq_true rfl, Nat.le_of_ble_eq_true rfl⟩ ⟨Nat.le_of_ble_eq_true rfl, Nat.le_of_ble_eq_true rfl⟩ rfl 0 (ci := 3) (C := RX3) (T := TX3) (N := 9) rfl rfl [0] [1, 2, 3] rfl rfl rfl rfl rfl [3, 0, 1, 2] [(x, .inr (3, [.ref tx, .ref o, .ref o1, .ref o2, .int (nI pa), .int (nI pt), .int (nI off), .int (nI ha), .long tr])), (o, .inr (0, [.ref r0, .ref r1, .ref r2, .ref r3, .ref r4])), (r4, .inr (1, [.ref q4, .int (nI ns)])), (q4, .inl (cJ G, 8, .inr (.inl (fJ gs))))] rfl rfl rfl (Nat.le_of_ble_eq_true rfl) dX3_from_39 (fun H locs hw => ?_)
          refine lv_istore (lv' := [(7, .int (nI (wf pa (ssN gs ns) k))), (0, .ref x), (1, .int a), (2, .long (lN (ssN gs ns))), (4, .int (nI u)), (5, .int b), (6, .int (nI k))]) hx hb dX3_from_42 hl (by decide) rfl (fun ls hl => ?_)
          have hwl := wf_le pa (ssN gs ns) k
          refine lv_iload hx hb dX3_from_44 (lv_at hl 0 rfl) ?_
          refine x_if_le E (nI_toI (show wf pa (ssN gs ns) k < 2147483648 by omega)) (tgt := 60) dX3_from_46 (by decide) (fun hmo => ?_) (fun hmo => ?_)
          · refine lv_iload hx hb dX3_from_60 (lv_at hl 4 rfl) ?_
            refine lv_iload hx hb dX3_from_62 (lv_at hl 0 rfl) ?_
            refine x_iadd E (v := (nI (u + (wf pa (ssN gs ns) k)))) dX3_from_64 (nI_add _ _) ?_
            refine lv_istore (lv' := [(4, .int (nI (u + (wf pa (ssN gs ns) k)))), (7, .int (nI (wf pa (ssN gs ns) k))), (0, .ref x), (1, .int a), (2, .long (lN (ssN gs ns))), (5, .int b), (6, .int (nI k))]) hx hb dX3_from_65 hl (by decide) rfl (fun ls hl => ?_)
            refine lv_iinc (v := (nI (k + 1))) (lv' := [(6, .int (nI (k + 1))), (4, .int (nI (u + (wf pa (ssN gs ns) k)))), (7, .int (nI (wf pa (ssN gs ns) k))), (0, .ref x), (1, .int a), (2, .long (lN (ssN gs ns))), (5, .int b)]) hx hb dX3_from_67 hl (k := 6) rfl (x_inc1 _) (by decide) rfl (fun ls hl => ?_)
            refine lv_goto (tgt := 26) hx hb dX3_from_70 (by decide) ?_
            exact ih_26 (k + 1) (u + (wf pa (ssN gs ns) k)) b (by omega) (by omega) (by have h9 := frX_step (S := ssN gs ns) (t := (u, b)) (show k < pa by omega); rw [hinv] at h9; dsimp only at h9; rw [if_neg (by omega)] at h9; exact h9.symm) (by omega) _ _ _ hw (lv_sub hl [3, 4, 5, 1, 6, 0] rfl)
          · refine lv_iload hx hb dX3_from_49 (lv_at hl 5 rfl) ?_
            refine lv_bipush (v := (-9 : Int32)) hx hb dX3_from_51 (by decide) ?_
            refine x_icmp_ne E rfl (show ((-9 : Int32)).toInt = -9 by decide) (tgt := 60) dX3_from_53 (by decide) (fun hb9 => ?_) (fun hb9 => ?_)
            · have hbn := i_n9 hb9
              refine lv_iload hx hb dX3_from_60 (lv_at hl 4 rfl) ?_
              refine lv_iload hx hb dX3_from_62 (lv_at hl 0 rfl) ?_
              refine x_iadd E (v := (nI (u + (wf pa (ssN gs ns) k)))) dX3_from_64 (nI_add _ _) ?_
              refine lv_istore (lv' := [(4, .int (nI (u + (wf pa (ssN gs ns) k)))), (7, .int (nI (wf pa (ssN gs ns) k))), (0, .ref x), (1, .int a), (2, .long (lN (ssN gs ns))), (5, .int b), (6, .int (nI k))]) hx hb dX3_from_65 hl (by decide) rfl (fun ls hl => ?_)
              refine lv_iinc (v := (nI (k + 1))) (lv' := [(6, .int (nI (k + 1))), (4, .int (nI (u + (wf pa (ssN gs ns) k)))), (7, .int (nI (wf pa (ssN gs ns) k))), (0, .ref x), (1, .int a), (2, .long (lN (ssN gs ns))), (5, .int b)]) hx hb dX3_from_67 hl (k := 6) rfl (x_inc1 _) (by decide) rfl (fun ls hl => ?_)
              refine lv_goto (tgt := 26) hx hb dX3_from_70 (by decide) ?_
              exact ih_26 (k + 1) (u + (wf pa (ssN gs ns) k)) b (by omega) (by omega) (by have h9 := frX_step (S := ssN gs ns) (t := (u, b)) (show k < pa by omega); rw [hinv] at h9; dsimp only at h9; rw [if_neg (fun h => hbn h.2)] at h9; exact h9.symm) (by omega) _ _ _ hw (lv_sub hl [3, 4, 5, 1, 6, 0] rfl)
            · have hbn := i_m9 hb9
              refine lv_iload hx hb dX3_from_56 (lv_at hl 6 rfl) ?_
              refine lv_istore (lv' := [(5, .int (nI k)), (7, .int (nI (wf pa (ssN gs ns) k))), (0, .ref x), (1, .int a), (2, .long (lN (ssN gs ns))), (4, .int (nI u)), (6, .int (nI k))]) hx hb dX3_from_58 hl (by decide) rfl (fun ls hl => ?_)
              refine lv_iload hx hb dX3_from_60 (lv_at hl 5 rfl) ?_
              refine lv_iload hx hb dX3_from_62 (lv_at hl 1 rfl) ?_
              refine x_iadd E (v := (nI (u + (wf pa (ssN gs ns) k)))) dX3_from_64 (nI_add _ _) ?_
              refine lv_istore (lv' := [(4, .int (nI (u + (wf pa (ssN gs ns) k)))), (5, .int (nI k)), (7, .int (nI (wf pa (ssN gs ns) k))), (0, .ref x), (1, .int a), (2, .long (lN (ssN gs ns))), (6, .int (nI k))]) hx hb dX3_from_65 hl (by decide) rfl (fun ls hl => ?_)
              refine lv_iinc (v := (nI (k + 1))) (lv' := [(6, .int (nI (k + 1))), (4, .int (nI (u + (wf pa (ssN gs ns) k)))), (5, .int (nI k)), (7, .int (nI (wf pa (ssN gs ns) k))), (0, .ref x), (1, .int a), (2, .long (lN (ssN gs ns)))]) hx hb dX3_from_67 hl (k := 6) rfl (x_inc1 _) (by decide) rfl (fun ls hl => ?_)
              refine lv_goto (tgt := 26) hx hb dX3_from_70 (by decide) ?_
              exact ih_26 (k + 1) (u + (wf pa (ssN gs ns) k)) (nI k) (by omega) (by omega) (by have h9 := frX_step (S := ssN gs ns) (t := (u, b)) (show k < pa by omega); rw [hinv] at h9; dsimp only at h9; rw [if_pos ⟨by omega, hbn⟩] at h9; exact h9.symm) (by omega) _ _ _ hw (lv_sub hl [4, 5, 6, 1, 2, 0] rfl)
    exact loop_26 (pa - 1 + 1) 1 0 (-9 : Int32) (by omega) (by omega) rfl (Nat.lt_succ_self _) _ _ _ hw (lv_sub hl [4, 5, 3, 2, 1, 0] rfl)
  · refine lv_iload_n hx hb dX3_from_4 rfl (lv_at hl 1 rfl) ?_
    refine lv_iconst (v := (nI 1)) hx hb dX3_from_5 (by decide) ?_
    refine x_icmp_eq E rfl (nI_toI (by decide)) (tgt := 11) dX3_from_6 (by decide) (fun c_4 => ?_) (fun c_4 => ?_)
    · refine lv_aload_n hx hb dX3_from_11 rfl (lv_at hl 0 rfl) ?_
      refine x_cfVl E hw hl.1 (As := []) (rest := []) (c_X3_seenSet l G x tx o o1 o2 pa pt off ha tr r0 r1 r2 r3 r4 q4 ns gs (by omega) hgs) 0 gX3_from_X3_seenSet rfl rfl rfl (by decide) ⟨Nat.le_of_ble_eq_true rfl, Nat.le_of_ble_eq_true rfl⟩ ⟨Nat.le_of_ble_eq_true rfl, Nat.le_of_ble_eq_true rfl⟩ rfl 0 (ci := 3) (C := RX3) (T := TX3) (N := 9) rfl rfl [0, 1, 2, 3] [] rfl rfl rfl rfl rfl [0, 1, 2, 3] [(x, .inr (3, [.ref tx, .ref o, .ref o1, .ref o2, .int (nI pa), .int (nI pt), .int (nI off), .int (nI ha), .long tr])), (o, .inr (0, [.ref r0, .ref r1, .ref r2, .ref r3, .ref r4])), (r4, .inr (1, [.ref q4, .int (nI ns)])), (q4, .inl (cJ G, 8, .inr (.inl (fJ gs))))] rfl rfl rfl (Nat.le_of_ble_eq_true rfl) dX3_from_12 (fun H locs hw => ?_)
      refine lv_lstore_n (lv' := [(2, .long (lN (ssN gs ns))), (0, .ref x), (1, .int a)]) hx hb dX3_from_15 rfl hl (by decide) rfl (fun ls hl => ?_)
      refine lv_iconst (v := (nI 0)) hx hb dX3_from_16 (by decide) ?_
      refine lv_istore (lv' := [(4, .int (nI 0)), (2, .long (lN (ssN gs ns))), (0, .ref x), (1, .int a)]) hx hb dX3_from_17 hl (by decide) rfl (fun ls hl => ?_)
      refine lv_bipush (v := (-9 : Int32)) hx hb dX3_from_19 (by decide) ?_
      refine lv_istore (lv' := [(5, .int (-9 : Int32)), (4, .int (nI 0)), (2, .long (lN (ssN gs ns))), (0, .ref x), (1, .int a)]) hx hb dX3_from_21 hl (by decide) rfl (fun ls hl => ?_)
      refine lv_iconst (v := (nI 1)) hx hb dX3_from_23 (by decide) ?_
      refine lv_istore (lv' := [(6, .int (nI 1)), (5, .int (-9 : Int32)), (4, .int (nI 0)), (2, .long (lN (ssN gs ns))), (0, .ref x), (1, .int a)]) hx hb dX3_from_24 hl (by decide) rfl (fun ls hl => ?_)
      have loop_26 : ∀ (fu : Nat) (k : Nat) (u : Nat) (b : Int32), 1 ≤ k → k ≤ pa → frX pa (ssN gs ns) (pa - k) k (u, b) = frX pa (ssN gs ns) (pa - 1) 1 (0, -9) → pa - k < fu → ∀ (H : Heap) (locs : List Loc) (ls : Array Slot), Wd G s A [(x, .inr (3, [.ref tx, .ref o, .ref o1, .ref o2, .int (nI pa), .int (nI pt), .int (nI off), .int (nI ha), .long tr])), (o, .inr (0, [.ref r0, .ref r1, .ref r2, .ref r3, .ref r4])), (r4, .inr (1, [.ref q4, .int (nI ns)])), (q4, .inl (cJ G, 8, .inr (.inl (fJ gs))))] H locs → lv_has ls 8 [(0, .ref x), (1, .int a), (2, .long (lN (ssN gs ns))), (4, .int (nI u)), (5, .int b), (6, .int (nI k))] → W p l e rm_X3_from s m args below meth c H locs 0 0 Q (F0 m 26 ls []) := by
        intro fu
        induction fu with
        | zero =>
          intro k u b hk1 hk hinv hmu
          exact absurd hmu (Nat.not_lt_zero _)
        | succ fu ih_26 =>
          intro k u b hk1 hk hinv hmu_26 H locs ls hw hl
          refine lv_iload hx hb dX3_from_26 (lv_at hl 5 rfl) ?_
          refine lv_aload_n hx hb dX3_from_28 rfl (lv_at hl 0 rfl) ?_
          refine x_get E hw (C := RX3) (T := TX3) (N := 9) hinX3 0 rfl rfl 4 (by decide) rfl (List.mem_of_getElem? (i := 1) rfl) dX3_from_29 ?_
          refine x_icmp_ge E (nI_toI (show k < 2147483648 by omega)) (nI_toI (show pa < 2147483648 by omega)) (tgt := 73) dX3_from_32 (by decide) (fun c_5 => ?_) (fun c_5 => ?_)
          · have hT : (u, b) = frX pa (ssN gs ns) (pa - 1) 1 (0, -9) := by rw [← hinv, show pa - k = 0 by omega, frX]
            refine lv_iload_n hx hb dX3_from_73 rfl (lv_at hl 1 rfl) ?_
            refine x_if_ne E rfl (tgt := 82) dX3_from_74 (by decide) (fun c_6 => ?_) (fun c_6 => ?_)
            · refine lv_iload hx hb dX3_from_82 (lv_at hl 4 rfl) ?_
              exact hret b () _ _ _ _ dX3_from_84 rfl (by rw [← hT]; exact ifT (by omega) (ifF (by omega) rfl)) hw
            · refine lv_iload hx hb dX3_from_77 (lv_at hl 3 rfl) ?_
              refine lv_goto (tgt := 84) hx hb dX3_from_79 (by decide) ?_
              exact hret (nI u) () _ _ _ _ dX3_from_84 rfl (by rw [← hT]; exact ifT (by omega) (ifT (by omega) rfl)) hw
          · refine lv_aload_n hx hb dX3_from_35 rfl (lv_at hl 0 rfl) ?_
            refine lv_iload hx hb dX3_from_36 (lv_at hl 5 rfl) ?_
            refine lv_lload_n hx hb dX3_from_38 rfl (lv_at hl 2 rfl) ?_
            refine x_cfVi E hw hl.1 (As := [.int (nI k), .long (lN (ssN gs ns))]) (rest := []) (c_X3_waysFrom l G x tx o o1 o2 pa pt off ha tr k (ssN gs ns) (by omega) (by omega) (ssN_lt hgs _)) 2 gX3_from_X3_waysFrom rfl rfl rfl (by decide) ⟨Nat.le_of_ble_eq_true rfl, Nat.le_of_ble_eq_true rfl⟩ ⟨Nat.le_of_ble_eq_true rfl, Nat.le_of_ble_eq_true rfl⟩ rfl 0 (ci := 3) (C := RX3) (T := TX3) (N := 9) rfl rfl [0] [1, 2, 3] rfl rfl rfl rfl rfl [3, 0, 1, 2] [(x, .inr (3, [.ref tx, .ref o, .ref o1, .ref o2, .int (nI pa), .int (nI pt), .int (nI off), .int (nI ha), .long tr])), (o, .inr (0, [.ref r0, .ref r1, .ref r2, .ref r3, .ref r4])), (r4, .inr (1, [.ref q4, .int (nI ns)])), (q4, .inl (cJ G, 8, .inr (.inl (fJ gs))))] rfl rfl rfl (Nat.le_of_ble_eq_true rfl) dX3_from_39 (fun H locs hw => ?_)
            refine lv_istore (lv' := [(7, .int (nI (wf pa (ssN gs ns) k))), (0, .ref x), (1, .int a), (2, .long (lN (ssN gs ns))), (4, .int (nI u)), (5, .int b), (6, .int (nI k))]) hx hb dX3_from_42 hl (by decide) rfl (fun ls hl => ?_)
            have hwl := wf_le pa (ssN gs ns) k
            refine lv_iload hx hb dX3_from_44 (lv_at hl 0 rfl) ?_
            refine x_if_le E (nI_toI (show wf pa (ssN gs ns) k < 2147483648 by omega)) (tgt := 60) dX3_from_46 (by decide) (fun hmo => ?_) (fun hmo => ?_)
            · refine lv_iload hx hb dX3_from_60 (lv_at hl 4 rfl) ?_
              refine lv_iload hx hb dX3_from_62 (lv_at hl 0 rfl) ?_
              refine x_iadd E (v := (nI (u + (wf pa (ssN gs ns) k)))) dX3_from_64 (nI_add _ _) ?_
              refine lv_istore (lv' := [(4, .int (nI (u + (wf pa (ssN gs ns) k)))), (7, .int (nI (wf pa (ssN gs ns) k))), (0, .ref x), (1, .int a), (2, .long (lN (ssN gs ns))), (5, .int b), (6, .int (nI k))]) hx hb dX3_from_65 hl (by decide) rfl (fun ls hl => ?_)
              refine lv_iinc (v := (nI (k + 1))) (lv' := [(6, .int (nI (k + 1))), (4, .int (nI (u + (wf pa (ssN gs ns) k)))), (7, .int (nI (wf pa (ssN gs ns) k))), (0, .ref x), (1, .int a), (2, .long (lN (ssN gs ns))), (5, .int b)]) hx hb dX3_from_67 hl (k := 6) rfl (x_inc1 _) (by decide) rfl (fun ls hl => ?_)
              refine lv_goto (tgt := 26) hx hb dX3_from_70 (by decide) ?_
              exact ih_26 (k + 1) (u + (wf pa (ssN gs ns) k)) b (by omega) (by omega) (by have h9 := frX_step (S := ssN gs ns) (t := (u, b)) (show k < pa by omega); rw [hinv] at h9; dsimp only at h9; rw [if_neg (by omega)] at h9; exact h9.symm) (by omega) _ _ _ hw (lv_sub hl [3, 4, 5, 1, 6, 0] rfl)
            · refine lv_iload hx hb dX3_from_49 (lv_at hl 5 rfl) ?_
              refine lv_bipush (v := (-9 : Int32)) hx hb dX3_from_51 (by decide) ?_
              refine x_icmp_ne E rfl (show ((-9 : Int32)).toInt = -9 by decide) (tgt := 60) dX3_from_53 (by decide) (fun hb9 => ?_) (fun hb9 => ?_)
              · have hbn := i_n9 hb9
                refine lv_iload hx hb dX3_from_60 (lv_at hl 4 rfl) ?_
                refine lv_iload hx hb dX3_from_62 (lv_at hl 0 rfl) ?_
                refine x_iadd E (v := (nI (u + (wf pa (ssN gs ns) k)))) dX3_from_64 (nI_add _ _) ?_
                refine lv_istore (lv' := [(4, .int (nI (u + (wf pa (ssN gs ns) k)))), (7, .int (nI (wf pa (ssN gs ns) k))), (0, .ref x), (1, .int a), (2, .long (lN (ssN gs ns))), (5, .int b), (6, .int (nI k))]) hx hb dX3_from_65 hl (by decide) rfl (fun ls hl => ?_)
                refine lv_iinc (v := (nI (k + 1))) (lv' := [(6, .int (nI (k + 1))), (4, .int (nI (u + (wf pa (ssN gs ns) k)))), (7, .int (nI (wf pa (ssN gs ns) k))), (0, .ref x), (1, .int a), (2, .long (lN (ssN gs ns))), (5, .int b)]) hx hb dX3_from_67 hl (k := 6) rfl (x_inc1 _) (by decide) rfl (fun ls hl => ?_)
                refine lv_goto (tgt := 26) hx hb dX3_from_70 (by decide) ?_
                exact ih_26 (k + 1) (u + (wf pa (ssN gs ns) k)) b (by omega) (by omega) (by have h9 := frX_step (S := ssN gs ns) (t := (u, b)) (show k < pa by omega); rw [hinv] at h9; dsimp only at h9; rw [if_neg (fun h => hbn h.2)] at h9; exact h9.symm) (by omega) _ _ _ hw (lv_sub hl [3, 4, 5, 1, 6, 0] rfl)
              · have hbn := i_m9 hb9
                refine lv_iload hx hb dX3_from_56 (lv_at hl 6 rfl) ?_
                refine lv_istore (lv' := [(5, .int (nI k)), (7, .int (nI (wf pa (ssN gs ns) k))), (0, .ref x), (1, .int a), (2, .long (lN (ssN gs ns))), (4, .int (nI u)), (6, .int (nI k))]) hx hb dX3_from_58 hl (by decide) rfl (fun ls hl => ?_)
                refine lv_iload hx hb dX3_from_60 (lv_at hl 5 rfl) ?_
                refine lv_iload hx hb dX3_from_62 (lv_at hl 1 rfl) ?_
                refine x_iadd E (v := (nI (u + (wf pa (ssN gs ns) k)))) dX3_from_64 (nI_add _ _) ?_
                refine lv_istore (lv' := [(4, .int (nI (u + (wf pa (ssN gs ns) k)))), (5, .int (nI k)), (7, .int (nI (wf pa (ssN gs ns) k))), (0, .ref x), (1, .int a), (2, .long (lN (ssN gs ns))), (6, .int (nI k))]) hx hb dX3_from_65 hl (by decide) rfl (fun ls hl => ?_)
                refine lv_iinc (v := (nI (k + 1))) (lv' := [(6, .int (nI (k + 1))), (4, .int (nI (u + (wf pa (ssN gs ns) k)))), (5, .int (nI k)), (7, .int (nI (wf pa (ssN gs ns) k))), (0, .ref x), (1, .int a), (2, .long (lN (ssN gs ns)))]) hx hb dX3_from_67 hl (k := 6) rfl (x_inc1 _) (by decide) rfl (fun ls hl => ?_)
                refine lv_goto (tgt := 26) hx hb dX3_from_70 (by decide) ?_
                exact ih_26 (k + 1) (u + (wf pa (ssN gs ns) k)) (nI k) (by omega) (by omega) (by have h9 := frX_step (S := ssN gs ns) (t := (u, b)) (show k < pa by omega); rw [hinv] at h9; dsimp only at h9; rw [if_pos ⟨by omega, hbn⟩] at h9; exact h9.symm) (by omega) _ _ _ hw (lv_sub hl [4, 5, 6, 1, 2, 0] rfl)
      exact loop_26 (pa - 1 + 1) 1 0 (-9 : Int32) (by omega) (by omega) rfl (Nat.lt_succ_self _) _ _ _ hw (lv_sub hl [4, 5, 3, 2, 1, 0] rfl)
    · refine lv_iconst (v := (-1 : Int32)) hx hb dX3_from_9 (by decide) ?_
      exact hret (-1 : Int32) () _ _ _ _ dX3_from_10 rfl (ifF (by omega) rfl) hw

abbrev rm_X3_ringOf : Room := { frames := 2, cells := 0, slots := 0, locals := 41 }
set_option maxHeartbeats 4000000 in
set_option maxRecDepth 100000 in
theorem c_X3_ringOf (l : Launch) (G : XG) (x : Nat) (tx : Nat) (o : Nat) (o1 : Nat) (o2 : Nat) (pa : Nat) (pt : Nat) (off : Nat) (ha : Nat) (tr : Int64) (j : Nat) (hpa : pa ≤ 63) (hj : j < pa) : CfL l yX3_ringOf wsX3_ringOf rm_X3_ringOf G [.ref x, .int (nI j)] [(x, .inr (3, [.ref tx, .ref o, .ref o1, .ref o2, .int (nI pa), .int (nI pt), .int (nI off), .int (nI ha), .long tr]))] (lN (rgL pa 63 0 j)) [(x, .inr (3, [.ref tx, .ref o, .ref o1, .ref o2, .int (nI pa), .int (nI pt), .int (nI off), .int (nI ha), .long tr]))] := by
  refine CtL.go (cc := cX3_ringOf) (maxL := 6) RX3 rfl (by decide) rfl (Nat.le_of_ble_eq_true rfl) ?_
  intro p e s m args below meth c A Q ls E hw hl hret
  have hx := E.1
  have hb := E.2.1
  have hinX3 : ∀ w ∈ wsX30, w ∈ wsX3_ringOf := (fun w h => List.mem_cons_of_mem _ (List.mem_append_right _ h))
  have hl : lv_has ls 6 [(0, .ref x), (1, .int (nI j))] := hl
  refine lv_lconst (v := (lN 0)) hx hb dX3_ringOf_0 (by decide) ?_
  refine lv_lstore_n (lv' := [(2, .long (lN 0)), (0, .ref x), (1, .int (nI j))]) hx hb dX3_ringOf_1 rfl hl (by decide) rfl (fun ls hl => ?_)
  refine lv_iload_n hx hb dX3_ringOf_2 rfl (lv_at hl 2 rfl) ?_
  refine lv_istore (lv' := [(4, .int (nI j)), (2, .long (lN 0)), (0, .ref x), (1, .int (nI j))]) hx hb dX3_ringOf_3 hl (by decide) rfl (fun ls hl => ?_)
  refine lv_iconst (v := (nI 0)) hx hb dX3_ringOf_5 (by decide) ?_
  refine lv_istore (lv' := [(5, .int (nI 0)), (4, .int (nI j)), (2, .long (lN 0)), (0, .ref x), (1, .int (nI j))]) hx hb dX3_ringOf_6 hl (by decide) rfl (fun ls hl => ?_)
  have loop_8 : ∀ (fu : Nat) (d : Nat) (y : Nat) (k : Nat), k ≤ 63 → y < pa → rgL pa (63 - k) d y = rgL pa 63 0 j → 63 - k < fu → ∀ (H : Heap) (locs : List Loc) (ls : Array Slot), Wd G s A [(x, .inr (3, [.ref tx, .ref o, .ref o1, .ref o2, .int (nI pa), .int (nI pt), .int (nI off), .int (nI ha), .long tr]))] H locs → lv_has ls 6 [(0, .ref x), (2, .long (lN d)), (4, .int (nI y)), (5, .int (nI k))] → W p l e rm_X3_ringOf s m args below meth c H locs 0 0 Q (F0 m 8 ls []) := by
    intro fu
    induction fu with
    | zero =>
      intro d y k hk hy hinv hmu
      exact absurd hmu (Nat.not_lt_zero _)
    | succ fu ih_8 =>
      intro d y k hk hy hinv hmu_8 H locs ls hw hl
      refine lv_iload hx hb dX3_ringOf_8 (lv_at hl 3 rfl) ?_
      refine lv_bipush (v := (nI 63)) hx hb dX3_ringOf_10 (by decide) ?_
      refine x_icmp_ge E (nI_toI (show k < 2147483648 by omega)) (nI_toI (by decide)) (tgt := 40) dX3_ringOf_12 (by decide) (fun c_1 => ?_) (fun c_1 => ?_)
      · refine lv_lload_n hx hb dX3_ringOf_40 rfl (lv_at hl 1 rfl) ?_
        exact hret (lN d) () _ _ _ _ dX3_ringOf_41 (by rw [← hinv, show 63 - k = 0 by omega, rgL]) hw
      · refine lv_lload_n hx hb dX3_ringOf_15 rfl (lv_at hl 1 rfl) ?_
        refine lv_iload hx hb dX3_ringOf_16 (lv_at hl 2 rfl) ?_
        refine x_cfSl E hw hl.1 (As := [.int (nI y)]) (rest := [.long (lN d)]) (c_X3_bit l G y (by omega)) 1 gX3_ringOf_X3_bit rfl rfl rfl (by decide) ⟨Nat.le_of_ble_eq_true rfl, Nat.le_of_ble_eq_true rfl⟩ ⟨Nat.le_of_ble_eq_true rfl, Nat.le_of_ble_eq_true rfl⟩ rfl [] [0] rfl rfl rfl rfl rfl [0] [(x, .inr (3, [.ref tx, .ref o, .ref o1, .ref o2, .int (nI pa), .int (nI pt), .int (nI off), .int (nI ha), .long tr]))] rfl rfl rfl (Nat.le_of_ble_eq_true rfl) dX3_ringOf_18 (fun H locs hw => ?_)
        refine x_lor E (v := (lN (d ||| (2 ^ y)))) dX3_ringOf_21 (x_orL _ _) ?_
        refine lv_lstore_n (lv' := [(2, .long (lN (d ||| (2 ^ y)))), (0, .ref x), (4, .int (nI y)), (5, .int (nI k))]) hx hb dX3_ringOf_22 rfl hl (by decide) rfl (fun ls hl => ?_)
        refine lv_aload_n hx hb dX3_ringOf_23 rfl (lv_at hl 1 rfl) ?_
        refine x_get E hw (C := RX3) (T := TX3) (N := 9) hinX3 0 rfl rfl 4 (by decide) rfl (List.mem_of_getElem? (i := 1) rfl) dX3_ringOf_24 ?_
        refine lv_iload hx hb dX3_ringOf_27 (lv_at hl 2 rfl) ?_
        refine x_cfSi E hw hl.1 (As := [.int (nI pa), .int (nI y)]) (rest := []) (c_X3_ruled l G pa y (by omega)) 2 gX3_ringOf_X3_ruled rfl rfl rfl (by decide) ⟨Nat.le_of_ble_eq_true rfl, Nat.le_of_ble_eq_true rfl⟩ ⟨Nat.le_of_ble_eq_true rfl, Nat.le_of_ble_eq_true rfl⟩ rfl [] [0] rfl rfl rfl rfl rfl [0] [(x, .inr (3, [.ref tx, .ref o, .ref o1, .ref o2, .int (nI pa), .int (nI pt), .int (nI off), .int (nI ha), .long tr]))] rfl rfl rfl (Nat.le_of_ble_eq_true rfl) dX3_ringOf_29 (fun H locs hw => ?_)
        refine lv_istore (lv' := [(4, .int (nI (gz pa y))), (2, .long (lN (d ||| (2 ^ y)))), (0, .ref x), (5, .int (nI k))]) hx hb dX3_ringOf_32 hl (by decide) rfl (fun ls hl => ?_)
        refine lv_iinc (v := (nI (k + 1))) (lv' := [(5, .int (nI (k + 1))), (4, .int (nI (gz pa y))), (2, .long (lN (d ||| (2 ^ y)))), (0, .ref x)]) hx hb dX3_ringOf_34 hl (k := 3) rfl (x_inc1 _) (by decide) rfl (fun ls hl => ?_)
        refine lv_goto (tgt := 8) hx hb dX3_ringOf_37 (by decide) ?_
        exact ih_8 (d ||| (2 ^ y)) (gz pa y) (k + 1) (by omega) (gz_lt hy) ((rgL_step (by omega)).symm.trans hinv) (by omega) _ _ _ hw (lv_sub hl [3, 2, 1, 0] rfl)
  exact loop_8 (63 - 0 + 1) 0 j 0 (by omega) (by omega) rfl (Nat.lt_succ_self _) _ _ _ hw (lv_sub hl [3, 2, 1, 0] rfl)

abbrev rm_X3_starts : Room := { frames := 3, cells := 0, slots := 0, locals := 66 }
set_option maxHeartbeats 4000000 in
set_option maxRecDepth 100000 in
theorem c_X3_starts (l : Launch) (G : XG) (x : Nat) (tx : Nat) (o : Nat) (o1 : Nat) (o2 : Nat) (pa : Nat) (pt : Nat) (off : Nat) (ha : Nat) (tr : Int64) (hpa : pa ≤ 63) (hpa3 : 3 ≤ pa) : CfI l yX3_starts wsX3_starts rm_X3_starts G [.ref x] [(x, .inr (3, [.ref tx, .ref o, .ref o1, .ref o2, .int (nI pa), .int (nI pt), .int (nI off), .int (nI ha), .long tr]))] (nI (startsX pa)) [(x, .inr (3, [.ref tx, .ref o, .ref o1, .ref o2, .int (nI pa), .int (nI pt), .int (nI off), .int (nI ha), .long tr]))] := by
  refine CtI.go (cc := cX3_starts) (maxL := 5) RX3 rfl (by decide) rfl (Nat.le_of_ble_eq_true rfl) ?_
  intro p e s m args below meth c A Q ls E hw hl hret
  have hx := E.1
  have hb := E.2.1
  have hinX3 : ∀ w ∈ wsX30, w ∈ wsX3_starts := (fun w h => List.mem_cons_of_mem _ (List.mem_append_right _ h))
  have hl : lv_has ls 5 [(0, .ref x)] := hl
  refine lv_lconst (v := (lN 0)) hx hb dX3_starts_0 (by decide) ?_
  refine lv_lstore_n (lv' := [(1, .long (lN 0)), (0, .ref x)]) hx hb dX3_starts_1 rfl hl (by decide) rfl (fun ls hl => ?_)
  refine lv_iconst (v := (nI 0)) hx hb dX3_starts_2 (by decide) ?_
  refine lv_istore_n (lv' := [(3, .int (nI 0)), (1, .long (lN 0)), (0, .ref x)]) hx hb dX3_starts_3 rfl hl (by decide) rfl (fun ls hl => ?_)
  refine lv_iconst (v := (nI 1)) hx hb dX3_starts_4 (by decide) ?_
  refine lv_istore (lv' := [(4, .int (nI 1)), (3, .int (nI 0)), (1, .long (lN 0)), (0, .ref x)]) hx hb dX3_starts_5 hl (by decide) rfl (fun ls hl => ?_)
  have loop_7 : ∀ (fu : Nat) (d : Nat) (u : Nat) (k : Nat), 1 ≤ k → k ≤ pa → d < 9223372036854775808 → stL pa (pa - k) k d u = stL pa (pa - 1) 1 0 0 → pa - k < fu → ∀ (H : Heap) (locs : List Loc) (ls : Array Slot), Wd G s A [(x, .inr (3, [.ref tx, .ref o, .ref o1, .ref o2, .int (nI pa), .int (nI pt), .int (nI off), .int (nI ha), .long tr]))] H locs → lv_has ls 5 [(0, .ref x), (1, .long (lN d)), (3, .int (nI u)), (4, .int (nI k))] → W p l e rm_X3_starts s m args below meth c H locs 0 0 Q (F0 m 7 ls []) := by
    intro fu
    induction fu with
    | zero =>
      intro d u k hk1 hk hd hinv hmu
      exact absurd hmu (Nat.not_lt_zero _)
    | succ fu ih_7 =>
      intro d u k hk1 hk hd hinv hmu_7 H locs ls hw hl
      refine lv_iload hx hb dX3_starts_7 (lv_at hl 3 rfl) ?_
      refine lv_aload_n hx hb dX3_starts_9 rfl (lv_at hl 0 rfl) ?_
      refine x_get E hw (C := RX3) (T := TX3) (N := 9) hinX3 0 rfl rfl 4 (by decide) rfl (List.mem_of_getElem? (i := 1) rfl) dX3_starts_10 ?_
      refine x_icmp_ge E (nI_toI (show k < 2147483648 by omega)) (nI_toI (show pa < 2147483648 by omega)) (tgt := 46) dX3_starts_13 (by decide) (fun c_1 => ?_) (fun c_1 => ?_)
      · refine lv_iload_n hx hb dX3_starts_46 rfl (lv_at hl 2 rfl) ?_
        exact hret (nI u) () _ _ _ _ dX3_starts_47 rfl (by rw [← show stL pa (pa - 1) 1 0 0 = startsX pa from rfl, ← hinv, show pa - k = 0 by omega, stL]) hw
      · refine lv_lload_n hx hb dX3_starts_16 rfl (lv_at hl 1 rfl) ?_
        refine lv_iload hx hb dX3_starts_17 (lv_at hl 3 rfl) ?_
        refine x_cfSl E hw hl.1 (As := [.int (nI k)]) (rest := [.long (lN d)]) (c_X3_bit l G k (by omega)) 1 gX3_starts_X3_bit rfl rfl rfl (by decide) ⟨Nat.le_of_ble_eq_true rfl, Nat.le_of_ble_eq_true rfl⟩ ⟨Nat.le_of_ble_eq_true rfl, Nat.le_of_ble_eq_true rfl⟩ rfl [] [0] rfl rfl rfl rfl rfl [0] [(x, .inr (3, [.ref tx, .ref o, .ref o1, .ref o2, .int (nI pa), .int (nI pt), .int (nI off), .int (nI ha), .long tr]))] rfl rfl rfl (Nat.le_of_ble_eq_true rfl) dX3_starts_19 (fun H locs hw => ?_)
        have hle : d &&& 2 ^ k < 9223372036854775808 := Nat.lt_of_le_of_lt Nat.and_le_left hd
        refine x_land E (v := (lN (d &&& (2 ^ k)))) dX3_starts_22 (x_andL _ _) ?_
        refine lv_lconst (v := (lN 0)) hx hb dX3_starts_23 (by decide) ?_
        refine x_lc_ne E (lN_toI (show d &&& (2 ^ k) < 9223372036854775808 by omega)) (lN_toI (by decide)) (tgt := 40) dX3_starts_24 dX3_starts_25 (by decide) (fun c_2 => ?_) (fun c_2 => ?_)
        · have hb0 : ¬ d &&& 2 ^ k = 0 := by omega
          refine lv_iinc (v := (nI (k + 1))) (lv' := [(4, .int (nI (k + 1))), (0, .ref x), (1, .long (lN d)), (3, .int (nI u))]) hx hb dX3_starts_40 hl (k := 3) rfl (x_inc1 _) (by decide) rfl (fun ls hl => ?_)
          refine lv_goto (tgt := 7) hx hb dX3_starts_43 (by decide) ?_
          exact ih_7 d u (k + 1) (by omega) (by omega) (by omega) ((stL_no (by omega) hb0).symm.trans hinv) (by omega) _ _ _ hw (lv_sub hl [1, 2, 3, 0] rfl)
        · have hb0 : d &&& 2 ^ k = 0 := by omega
          refine lv_iinc (v := (nI (u + 1))) (lv' := [(3, .int (nI (u + 1))), (0, .ref x), (1, .long (lN d)), (4, .int (nI k))]) hx hb dX3_starts_28 hl (k := 2) rfl (x_inc1 _) (by decide) rfl (fun ls hl => ?_)
          refine lv_lload_n hx hb dX3_starts_31 rfl (lv_at hl 2 rfl) ?_
          refine lv_aload_n hx hb dX3_starts_32 rfl (lv_at hl 1 rfl) ?_
          refine lv_iload hx hb dX3_starts_33 (lv_at hl 3 rfl) ?_
          refine x_cfVl E hw hl.1 (As := [.int (nI k)]) (rest := [.long (lN d)]) (c_X3_ringOf l G x tx o o1 o2 pa pt off ha tr k (by omega) (by omega)) 1 gX3_starts_X3_ringOf rfl rfl rfl (by decide) ⟨Nat.le_of_ble_eq_true rfl, Nat.le_of_ble_eq_true rfl⟩ ⟨Nat.le_of_ble_eq_true rfl, Nat.le_of_ble_eq_true rfl⟩ rfl 0 (ci := 3) (C := RX3) (T := TX3) (N := 9) rfl rfl [0] [] rfl rfl rfl rfl rfl [0] [(x, .inr (3, [.ref tx, .ref o, .ref o1, .ref o2, .int (nI pa), .int (nI pt), .int (nI off), .int (nI ha), .long tr]))] rfl rfl rfl (Nat.le_of_ble_eq_true rfl) dX3_starts_35 (fun H locs hw => ?_)
          refine x_lor E (v := (lN (d ||| (rgL pa 63 0 k)))) dX3_starts_38 (x_orL _ _) ?_
          refine lv_lstore_n (lv' := [(1, .long (lN (d ||| (rgL pa 63 0 k)))), (3, .int (nI (u + 1))), (0, .ref x), (4, .int (nI k))]) hx hb dX3_starts_39 rfl hl (by decide) rfl (fun ls hl => ?_)
          refine lv_iinc (v := (nI (k + 1))) (lv' := [(4, .int (nI (k + 1))), (1, .long (lN (d ||| (rgL pa 63 0 k)))), (3, .int (nI (u + 1))), (0, .ref x)]) hx hb dX3_starts_40 hl (k := 3) rfl (x_inc1 _) (by decide) rfl (fun ls hl => ?_)
          refine lv_goto (tgt := 7) hx hb dX3_starts_43 (by decide) ?_
          exact ih_7 (d ||| (rgL pa 63 0 k)) (u + 1) (k + 1) (by omega) (by omega) (orr63 hd (rgL_lt hpa _ _ _ (by decide) (by omega))) ((stL_yes (by omega) hb0).symm.trans hinv) (by omega) _ _ _ hw (lv_sub hl [3, 1, 2, 0] rfl)
  exact loop_7 (pa - 1 + 1) 0 0 1 (by omega) (by omega) (by omega) rfl (Nat.lt_succ_self _) _ _ _ hw (lv_sub hl [3, 2, 1, 0] rfl)

abbrev rm_X3_comes : Room := { frames := 4, cells := 0, slots := 0, locals := 90 }
set_option maxHeartbeats 4000000 in
set_option maxRecDepth 100000 in
theorem c_X3_comes (l : Launch) (G : XG) (x : Nat) (tx : Nat) (o : Nat) (o1 : Nat) (o2 : Nat) (pa : Nat) (pt : Nat) (off : Nat) (ha : Nat) (tr : Int64) (a : Int32) (hpa : pa ≤ 63) (hpa3 : 3 ≤ pa) (hpt : pt < pa) : CfI l yX3_comes wsX3_comes rm_X3_comes G [.ref x, .int a] [(x, .inr (3, [.ref tx, .ref o, .ref o1, .ref o2, .int (nI pa), .int (nI pt), .int (nI off), .int (nI ha), .long tr]))] (comesX pa pt a.toInt) [(x, .inr (3, [.ref tx, .ref o, .ref o1, .ref o2, .int (nI pa), .int (nI pt), .int (nI off), .int (nI ha), .long tr]))] := by
  refine CtI.go (cc := cX3_comes) (maxL := 2) RX3 rfl (by decide) rfl (Nat.le_of_ble_eq_true rfl) ?_
  intro p e s m args below meth c A Q ls E hw hl hret
  have hx := E.1
  have hb := E.2.1
  have hinX3 : ∀ w ∈ wsX30, w ∈ wsX3_comes := (fun w h => List.mem_cons_of_mem _ (List.mem_append_right _ h))
  have hl : lv_has ls 2 [(0, .ref x), (1, .int a)] := hl
  refine lv_iload_n hx hb dX3_comes_0 rfl (lv_at hl 1 rfl) ?_
  rcases (show a.toInt = 0 ∨ a.toInt = 1 ∨ (¬ a.toInt = 0 ∧ ¬ a.toInt = 1) by omega) with c_1 | c_1 | c_1
  · refine x_lk E (rfl.trans c_1) (L := [(0, 27), (1, 36)]) (off := 27) (tgt := 28) dX3_comes_1 rfl rfl (by decide) (by decide) ?_
    refine lv_aload_n hx hb dX3_comes_28 rfl (lv_at hl 0 rfl) ?_
    refine lv_aload_n hx hb dX3_comes_29 rfl (lv_at hl 0 rfl) ?_
    refine x_get E hw (C := RX3) (T := TX3) (N := 9) hinX3 0 rfl rfl 5 (by decide) rfl (List.mem_of_getElem? (i := 1) rfl) dX3_comes_30 ?_
    refine x_cfVi E hw hl.1 (As := [.int (nI pt)]) (rest := []) (c_X3_foldsAround l G x tx o o1 o2 pa pt off ha tr pt (by omega) (by omega)) 1 gX3_comes_X3_foldsAround rfl rfl rfl (by decide) ⟨Nat.le_of_ble_eq_true rfl, Nat.le_of_ble_eq_true rfl⟩ ⟨Nat.le_of_ble_eq_true rfl, Nat.le_of_ble_eq_true rfl⟩ rfl 0 (ci := 3) (C := RX3) (T := TX3) (N := 9) rfl rfl [0] [] rfl rfl rfl rfl rfl [0] [(x, .inr (3, [.ref tx, .ref o, .ref o1, .ref o2, .int (nI pa), .int (nI pt), .int (nI off), .int (nI ha), .long tr]))] rfl rfl rfl (Nat.le_of_ble_eq_true rfl) dX3_comes_33 (fun H locs hw => ?_)
    exact hret (nI (faX pa pt)) () _ _ _ _ dX3_comes_36 rfl (ifT (by omega) rfl) hw
  · refine x_lk E (rfl.trans c_1) (L := [(0, 27), (1, 36)]) (off := 36) (tgt := 37) dX3_comes_1 rfl rfl (by decide) (by decide) ?_
    refine lv_aload_n hx hb dX3_comes_37 rfl (lv_at hl 0 rfl) ?_
    refine x_cfVi E hw hl.1 (As := []) (rest := []) (c_X3_starts l G x tx o o1 o2 pa pt off ha tr (by omega) (by omega)) 0 gX3_comes_X3_starts rfl rfl rfl (by decide) ⟨Nat.le_of_ble_eq_true rfl, Nat.le_of_ble_eq_true rfl⟩ ⟨Nat.le_of_ble_eq_true rfl, Nat.le_of_ble_eq_true rfl⟩ rfl 0 (ci := 3) (C := RX3) (T := TX3) (N := 9) rfl rfl [0] [] rfl rfl rfl rfl rfl [0] [(x, .inr (3, [.ref tx, .ref o, .ref o1, .ref o2, .int (nI pa), .int (nI pt), .int (nI off), .int (nI ha), .long tr]))] rfl rfl rfl (Nat.le_of_ble_eq_true rfl) dX3_comes_38 (fun H locs hw => ?_)
    exact hret (nI (startsX pa)) () _ _ _ _ dX3_comes_41 rfl (ifF (by omega) (ifT (by omega) rfl)) hw
  · refine x_lk E rfl (L := [(0, 27), (1, 36)]) (off := 41) (tgt := 42) dX3_comes_1 rfl rfl (by rw [Op.lookupswitch.offset_cons, if_neg (fun q => c_1.1 q.symm)]; rw [Op.lookupswitch.offset_cons, if_neg (fun q => c_1.2 q.symm)]; rfl) (by decide) ?_
    refine lv_iconst (v := (-1 : Int32)) hx hb dX3_comes_42 (by decide) ?_
    exact hret (-1 : Int32) () _ _ _ _ dX3_comes_43 rfl (ifF (by omega) (ifF (by omega) rfl)) hw

abbrev rm_X3_got : Room := { frames := 2, cells := 0, slots := 0, locals := 55 }
set_option maxHeartbeats 4000000 in
set_option maxRecDepth 100000 in
theorem c_X3_got (l : Launch) (G : XG) (x : Nat) (tx : Nat) (o : Nat) (o1 : Nat) (o2 : Nat) (pa : Nat) (pt : Nat) (off : Nat) (ha : Nat) (tr : Int64) (r0 : Nat) (r1 : Nat) (r2 : Nat) (r3 : Nat) (r4 : Nat) (q3 : Nat) (nl : Nat) (gl : Nat → Nat) (a : Int32) (hnl : nl ≤ 12) (hgl : ∀ q, gl q ≤ 1) (hpa : pa ≤ 63) (hpa3 : 3 ≤ pa) (hpt : pt < pa) : CfL l yX3_got wsX3_got rm_X3_got G [.ref x, .int a] [(x, .inr (3, [.ref tx, .ref o, .ref o1, .ref o2, .int (nI pa), .int (nI pt), .int (nI off), .int (nI ha), .long tr])), (o, .inr (0, [.ref r0, .ref r1, .ref r2, .ref r3, .ref r4])), (r3, .inr (1, [.ref q3, .int (nI nl)])), (q3, .inl (cJ G, 12, .inr (.inl (fJ gl))))] (gotF gl nl pa pt a.toInt) [(x, .inr (3, [.ref tx, .ref o, .ref o1, .ref o2, .int (nI pa), .int (nI pt), .int (nI off), .int (nI ha), .long tr])), (o, .inr (0, [.ref r0, .ref r1, .ref r2, .ref r3, .ref r4])), (r3, .inr (1, [.ref q3, .int (nI nl)])), (q3, .inl (cJ G, 12, .inr (.inl (fJ gl))))] := by
  refine CtL.go (cc := cX3_got) (maxL := 7) RX3 rfl (by decide) rfl (Nat.le_of_ble_eq_true rfl) ?_
  intro p e s m args below meth c A Q ls E hw hl hret
  have hx := E.1
  have hb := E.2.1
  have hinX0 : ∀ w ∈ wsX00, w ∈ wsX3_got := (fun w h => List.mem_cons_of_mem _ (List.mem_append_left _ (List.mem_append_right _ h)))
  have hinX3 : ∀ w ∈ wsX30, w ∈ wsX3_got := (fun w h => List.mem_cons_of_mem _ (List.mem_append_left _ (List.mem_append_left _ (List.mem_append_right _ h))))
  have hl : lv_has ls 7 [(0, .ref x), (1, .int a)] := hl
  refine lv_iload_n hx hb dX3_got_0 rfl (lv_at hl 1 rfl) ?_
  refine x_if_eq E rfl (tgt := 13) dX3_got_1 (by decide) (fun c_1 => ?_) (fun c_1 => ?_)
  · refine lv_aload_n hx hb dX3_got_13 rfl (lv_at hl 0 rfl) ?_
    refine x_get E hw (C := RX3) (T := TX3) (N := 9) hinX3 0 rfl rfl 4 (by decide) rfl (List.mem_of_getElem? (i := 2) rfl) dX3_got_14 ?_
    refine lv_i2l (v := (lN pa)) hx hb dX3_got_17 (nI_l (by omega)) ?_
    refine lv_ldc2 (v := (1048576)) hx hb E.2.2.2.1 (E.2.2.2.2 _ (List.mem_of_getElem? (i := 3) rfl)) dX3_got_18 ?_
    refine x_topl (v := lN 1048576) (by decide) ?_
    refine x_lmul E (v := (lN (pa * 1048576))) dX3_got_21 (lN_mul _ _) ?_
    refine lv_lstore_n (lv' := [(2, .long (lN (pa * 1048576))), (0, .ref x), (1, .int a)]) hx hb dX3_got_22 rfl hl (by decide) rfl (fun ls hl => ?_)
    refine lv_aload_n hx hb dX3_got_23 rfl (lv_at hl 1 rfl) ?_
    refine x_get E hw (C := RX3) (T := TX3) (N := 9) hinX3 0 rfl rfl 5 (by decide) rfl (List.mem_of_getElem? (i := 4) rfl) dX3_got_24 ?_
    refine lv_i2l (v := (lN pt)) hx hb dX3_got_27 (nI_l (by omega)) ?_
    refine lv_ldc2 (v := (1048576)) hx hb E.2.2.2.1 (E.2.2.2.2 _ (List.mem_of_getElem? (i := 3) rfl)) dX3_got_28 ?_
    refine x_topl (v := lN 1048576) (by decide) ?_
    refine x_lmul E (v := (lN (pt * 1048576))) dX3_got_31 (lN_mul _ _) ?_
    refine lv_lstore (lv' := [(4, .long (lN (pt * 1048576))), (2, .long (lN (pa * 1048576))), (0, .ref x), (1, .int a)]) hx hb dX3_got_32 hl (by decide) rfl (fun ls hl => ?_)
    refine lv_iconst (v := (nI 0)) hx hb dX3_got_34 (by decide) ?_
    refine lv_istore (lv' := [(6, .int (nI 0)), (4, .long (lN (pt * 1048576))), (2, .long (lN (pa * 1048576))), (0, .ref x), (1, .int a)]) hx hb dX3_got_35 hl (by decide) rfl (fun ls hl => ?_)
    have loop_37 : ∀ (fu : Nat) (y : Nat) (i : Nat), i ≤ nl → y ≤ pa * 1048576 → gotR gl pa (nl - i) i y = gotR gl pa nl 0 (pt * 1048576) → nl - i < fu → ∀ (H : Heap) (locs : List Loc) (ls : Array Slot), Wd G s A [(x, .inr (3, [.ref tx, .ref o, .ref o1, .ref o2, .int (nI pa), .int (nI pt), .int (nI off), .int (nI ha), .long tr])), (o, .inr (0, [.ref r0, .ref r1, .ref r2, .ref r3, .ref r4])), (r3, .inr (1, [.ref q3, .int (nI nl)])), (q3, .inl (cJ G, 12, .inr (.inl (fJ gl))))] H locs → lv_has ls 7 [(0, .ref x), (1, .int a), (2, .long (lN (pa * 1048576))), (4, .long (lN y)), (6, .int (nI i))] → W p l e rm_X3_got s m args below meth c H locs 0 0 Q (F0 m 37 ls []) := by
      intro fu
      induction fu with
      | zero =>
        intro y i hi hy hinv hmu
        exact absurd hmu (Nat.not_lt_zero _)
      | succ fu ih_37 =>
        intro y i hi hy hinv hmu_37 H locs ls hw hl
        refine lv_iload hx hb dX3_got_37 (lv_at hl 4 rfl) ?_
        refine lv_aload_n hx hb dX3_got_39 rfl (lv_at hl 0 rfl) ?_
        refine x_get E hw (C := RX3) (T := TX3) (N := 9) hinX3 0 rfl rfl 1 (by decide) rfl (List.mem_of_getElem? (i := 5) rfl) dX3_got_40 ?_
        refine x_getN E hw (C := RX0) (T := TX0) (N := 5) hinX0 1 rfl rfl 3 (by decide) rfl (List.mem_of_getElem? (i := 11) rfl) dX3_got_43 ?_
        refine x_cfVi E hw hl.1 (As := []) (rest := [.int (nI i)]) (c_X1_size l G r3 q3 nl) 0 gX3_got_X1_size rfl rfl rfl (by decide) ⟨Nat.le_of_ble_eq_true rfl, Nat.le_of_ble_eq_true rfl⟩ ⟨Nat.le_of_ble_eq_true rfl, Nat.le_of_ble_eq_true rfl⟩ rfl 2 (ci := 1) (C := RX1) (T := TX1) (N := 2) rfl rfl [2] [0, 1, 3] rfl rfl rfl rfl rfl [0, 1, 3, 2] [(x, .inr (3, [.ref tx, .ref o, .ref o1, .ref o2, .int (nI pa), .int (nI pt), .int (nI off), .int (nI ha), .long tr])), (o, .inr (0, [.ref r0, .ref r1, .ref r2, .ref r3, .ref r4])), (r3, .inr (1, [.ref q3, .int (nI nl)])), (q3, .inl (cJ G, 12, .inr (.inl (fJ gl))))] rfl rfl rfl (Nat.le_of_ble_eq_true rfl) dX3_got_46 (fun H locs hw => ?_)
        refine x_icmp_ge E (nI_toI (show i < 2147483648 by omega)) (nI_toI (show nl < 2147483648 by omega)) (tgt := 90) dX3_got_49 (by decide) (fun c_2 => ?_) (fun c_2 => ?_)
        · have hT : gotR gl pa nl 0 (pt * 1048576) = y := by rw [← hinv, show nl - i = 0 by omega, gotR]
          refine lv_iload_n hx hb dX3_got_90 rfl (lv_at hl 1 rfl) ?_
          refine x_if_ne E rfl (tgt := 103) dX3_got_91 (by decide) (fun c_3 => ?_) (fun c_3 => ?_)
          · refine lv_lload hx hb dX3_got_103 (lv_at hl 3 rfl) ?_
            refine lv_lload_n hx hb dX3_got_105 rfl (lv_at hl 2 rfl) ?_
            refine x_cfSl E hw hl.1 (As := [.long (lN y), .long (lN (pa * 1048576))]) (rest := []) (c_X3_leastLower l G y (pa * 1048576) (by omega) (by omega) (by omega)) 2 gX3_got_X3_leastLower rfl rfl rfl (by decide) ⟨Nat.le_of_ble_eq_true rfl, Nat.le_of_ble_eq_true rfl⟩ ⟨Nat.le_of_ble_eq_true rfl, Nat.le_of_ble_eq_true rfl⟩ rfl [] [0, 1, 2, 3] rfl rfl rfl rfl rfl [0, 1, 2, 3] [(x, .inr (3, [.ref tx, .ref o, .ref o1, .ref o2, .int (nI pa), .int (nI pt), .int (nI off), .int (nI ha), .long tr])), (o, .inr (0, [.ref r0, .ref r1, .ref r2, .ref r3, .ref r4])), (r3, .inr (1, [.ref q3, .int (nI nl)])), (q3, .inl (cJ G, 12, .inr (.inl (fJ gl))))] rfl rfl rfl (Nat.le_of_ble_eq_true rfl) dX3_got_106 (fun H locs hw => ?_)
            exact hret (lN ((pa * 1048576) / Nat.gcd y (pa * 1048576))) () _ _ _ _ dX3_got_109 (by unfold gotF; rw [hT, if_pos (by omega), if_neg (by omega)]) hw
          · refine lv_lload hx hb dX3_got_94 (lv_at hl 3 rfl) ?_
            refine lv_lload_n hx hb dX3_got_96 rfl (lv_at hl 2 rfl) ?_
            refine x_cfSl E hw hl.1 (As := [.long (lN y), .long (lN (pa * 1048576))]) (rest := []) (c_X3_leastUpper l G y (pa * 1048576) (by omega) (by omega) (by omega)) 2 gX3_got_X3_leastUpper rfl rfl rfl (by decide) ⟨Nat.le_of_ble_eq_true rfl, Nat.le_of_ble_eq_true rfl⟩ ⟨Nat.le_of_ble_eq_true rfl, Nat.le_of_ble_eq_true rfl⟩ rfl [] [0, 1, 2, 3] rfl rfl rfl rfl rfl [0, 1, 2, 3] [(x, .inr (3, [.ref tx, .ref o, .ref o1, .ref o2, .int (nI pa), .int (nI pt), .int (nI off), .int (nI ha), .long tr])), (o, .inr (0, [.ref r0, .ref r1, .ref r2, .ref r3, .ref r4])), (r3, .inr (1, [.ref q3, .int (nI nl)])), (q3, .inl (cJ G, 12, .inr (.inl (fJ gl))))] rfl rfl rfl (Nat.le_of_ble_eq_true rfl) dX3_got_97 (fun H locs hw => ?_)
            refine lv_goto (tgt := 109) hx hb dX3_got_100 (by decide) ?_
            exact hret (lN (y / Nat.gcd y (pa * 1048576))) () _ _ _ _ dX3_got_109 (by unfold gotF; rw [hT, if_pos (by omega), if_pos (by omega)]) hw
        · refine lv_aload_n hx hb dX3_got_52 rfl (lv_at hl 0 rfl) ?_
          refine x_get E hw (C := RX3) (T := TX3) (N := 9) hinX3 0 rfl rfl 1 (by decide) rfl (List.mem_of_getElem? (i := 5) rfl) dX3_got_53 ?_
          refine x_getN E hw (C := RX0) (T := TX0) (N := 5) hinX0 1 rfl rfl 3 (by decide) rfl (List.mem_of_getElem? (i := 11) rfl) dX3_got_56 ?_
          refine lv_iload hx hb dX3_got_59 (lv_at hl 4 rfl) ?_
          refine x_cfVl E hw hl.1 (As := [.int (nI i)]) (rest := []) (c_X1_at l G r3 q3 nl 12 i gl (by omega) (by omega)) 1 gX3_got_X1_at rfl rfl rfl (by decide) ⟨Nat.le_of_ble_eq_true rfl, Nat.le_of_ble_eq_true rfl⟩ ⟨Nat.le_of_ble_eq_true rfl, Nat.le_of_ble_eq_true rfl⟩ rfl 2 (ci := 1) (C := RX1) (T := TX1) (N := 2) rfl rfl [2, 3] [0, 1] rfl rfl rfl rfl rfl [0, 1, 2, 3] [(x, .inr (3, [.ref tx, .ref o, .ref o1, .ref o2, .int (nI pa), .int (nI pt), .int (nI off), .int (nI ha), .long tr])), (o, .inr (0, [.ref r0, .ref r1, .ref r2, .ref r3, .ref r4])), (r3, .inr (1, [.ref q3, .int (nI nl)])), (q3, .inl (cJ G, 12, .inr (.inl (fJ gl))))] rfl rfl rfl (Nat.le_of_ble_eq_true rfl) dX3_got_61 (fun H locs hw => ?_)
          have hgli := hgl i
          refine lv_lconst (v := (lN 0)) hx hb dX3_got_64 (by decide) ?_
          refine x_lc_ne E (lN_toI (show gl i < 9223372036854775808 by omega)) (lN_toI (by decide)) (tgt := 74) dX3_got_65 dX3_got_66 (by decide) (fun hl0 => ?_) (fun hl0 => ?_)
          · have hg1 : gl i = 1 := by omega
            refine lv_lload hx hb dX3_got_74 (lv_at hl 3 rfl) ?_
            refine lv_lload_n hx hb dX3_got_76 rfl (lv_at hl 2 rfl) ?_
            refine x_ladd E (v := (lN (y + (pa * 1048576)))) dX3_got_77 (lN_add _ _) ?_
            refine lv_ldc2 (v := (2)) hx hb E.2.2.2.1 (E.2.2.2.2 _ (List.mem_of_getElem? (i := 6) rfl)) dX3_got_78 ?_
            refine x_topl (v := lN 2) (by decide) ?_
            refine x_ldiv E (v := (lN ((y + (pa * 1048576)) / 2))) dX3_got_81 (by decide) (pk_lDiv (by omega) (by omega) (by omega)) ?_
            refine lv_lstore (lv' := [(4, .long (lN ((y + (pa * 1048576)) / 2))), (0, .ref x), (1, .int a), (2, .long (lN (pa * 1048576))), (6, .int (nI i))]) hx hb dX3_got_82 hl (by decide) rfl (fun ls hl => ?_)
            refine lv_iinc (v := (nI (i + 1))) (lv' := [(6, .int (nI (i + 1))), (4, .long (lN ((y + (pa * 1048576)) / 2))), (0, .ref x), (1, .int a), (2, .long (lN (pa * 1048576)))]) hx hb dX3_got_84 hl (k := 4) rfl (x_inc1 _) (by decide) rfl (fun ls hl => ?_)
            refine lv_goto (tgt := 37) hx hb dX3_got_87 (by decide) ?_
            exact ih_37 ((y + (pa * 1048576)) / 2) (i + 1) (by omega) (by omega) (by have h9 := gotR_step (gl := gl) (P := pa) (x := y) (show i < nl by omega); rw [hinv] at h9; rw [hg1, Nat.one_mul] at h9; exact h9.symm) (by omega) _ _ _ hw (lv_sub hl [2, 3, 4, 1, 0] rfl)
          · have hg0 : gl i = 0 := by omega
            refine lv_lload hx hb dX3_got_69 (lv_at hl 3 rfl) ?_
            refine lv_goto (tgt := 78) hx hb dX3_got_71 (by decide) ?_
            refine lv_ldc2 (v := (2)) hx hb E.2.2.2.1 (E.2.2.2.2 _ (List.mem_of_getElem? (i := 6) rfl)) dX3_got_78 ?_
            refine x_topl (v := lN 2) (by decide) ?_
            refine x_ldiv E (v := (lN (y / 2))) dX3_got_81 (by decide) (pk_lDiv (by omega) (by omega) (by omega)) ?_
            refine lv_lstore (lv' := [(4, .long (lN (y / 2))), (0, .ref x), (1, .int a), (2, .long (lN (pa * 1048576))), (6, .int (nI i))]) hx hb dX3_got_82 hl (by decide) rfl (fun ls hl => ?_)
            refine lv_iinc (v := (nI (i + 1))) (lv' := [(6, .int (nI (i + 1))), (4, .long (lN (y / 2))), (0, .ref x), (1, .int a), (2, .long (lN (pa * 1048576)))]) hx hb dX3_got_84 hl (k := 4) rfl (x_inc1 _) (by decide) rfl (fun ls hl => ?_)
            refine lv_goto (tgt := 37) hx hb dX3_got_87 (by decide) ?_
            exact ih_37 (y / 2) (i + 1) (by omega) (by omega) (by have h9 := gotR_step (gl := gl) (P := pa) (x := y) (show i < nl by omega); rw [hinv] at h9; rw [hg0, Nat.zero_mul, Nat.add_zero] at h9; exact h9.symm) (by omega) _ _ _ hw (lv_sub hl [2, 3, 4, 1, 0] rfl)
    exact loop_37 (nl - 0 + 1) (pt * 1048576) 0 (by omega) (by omega) rfl (Nat.lt_succ_self _) _ _ _ hw (lv_sub hl [3, 4, 2, 1, 0] rfl)
  · refine lv_iload_n hx hb dX3_got_4 rfl (lv_at hl 1 rfl) ?_
    refine lv_iconst (v := (nI 1)) hx hb dX3_got_5 (by decide) ?_
    refine x_icmp_eq E rfl (nI_toI (by decide)) (tgt := 13) dX3_got_6 (by decide) (fun c_4 => ?_) (fun c_4 => ?_)
    · refine lv_aload_n hx hb dX3_got_13 rfl (lv_at hl 0 rfl) ?_
      refine x_get E hw (C := RX3) (T := TX3) (N := 9) hinX3 0 rfl rfl 4 (by decide) rfl (List.mem_of_getElem? (i := 2) rfl) dX3_got_14 ?_
      refine lv_i2l (v := (lN pa)) hx hb dX3_got_17 (nI_l (by omega)) ?_
      refine lv_ldc2 (v := (1048576)) hx hb E.2.2.2.1 (E.2.2.2.2 _ (List.mem_of_getElem? (i := 3) rfl)) dX3_got_18 ?_
      refine x_topl (v := lN 1048576) (by decide) ?_
      refine x_lmul E (v := (lN (pa * 1048576))) dX3_got_21 (lN_mul _ _) ?_
      refine lv_lstore_n (lv' := [(2, .long (lN (pa * 1048576))), (0, .ref x), (1, .int a)]) hx hb dX3_got_22 rfl hl (by decide) rfl (fun ls hl => ?_)
      refine lv_aload_n hx hb dX3_got_23 rfl (lv_at hl 1 rfl) ?_
      refine x_get E hw (C := RX3) (T := TX3) (N := 9) hinX3 0 rfl rfl 5 (by decide) rfl (List.mem_of_getElem? (i := 4) rfl) dX3_got_24 ?_
      refine lv_i2l (v := (lN pt)) hx hb dX3_got_27 (nI_l (by omega)) ?_
      refine lv_ldc2 (v := (1048576)) hx hb E.2.2.2.1 (E.2.2.2.2 _ (List.mem_of_getElem? (i := 3) rfl)) dX3_got_28 ?_
      refine x_topl (v := lN 1048576) (by decide) ?_
      refine x_lmul E (v := (lN (pt * 1048576))) dX3_got_31 (lN_mul _ _) ?_
      refine lv_lstore (lv' := [(4, .long (lN (pt * 1048576))), (2, .long (lN (pa * 1048576))), (0, .ref x), (1, .int a)]) hx hb dX3_got_32 hl (by decide) rfl (fun ls hl => ?_)
      refine lv_iconst (v := (nI 0)) hx hb dX3_got_34 (by decide) ?_
      refine lv_istore (lv' := [(6, .int (nI 0)), (4, .long (lN (pt * 1048576))), (2, .long (lN (pa * 1048576))), (0, .ref x), (1, .int a)]) hx hb dX3_got_35 hl (by decide) rfl (fun ls hl => ?_)
      have loop_37 : ∀ (fu : Nat) (y : Nat) (i : Nat), i ≤ nl → y ≤ pa * 1048576 → gotR gl pa (nl - i) i y = gotR gl pa nl 0 (pt * 1048576) → nl - i < fu → ∀ (H : Heap) (locs : List Loc) (ls : Array Slot), Wd G s A [(x, .inr (3, [.ref tx, .ref o, .ref o1, .ref o2, .int (nI pa), .int (nI pt), .int (nI off), .int (nI ha), .long tr])), (o, .inr (0, [.ref r0, .ref r1, .ref r2, .ref r3, .ref r4])), (r3, .inr (1, [.ref q3, .int (nI nl)])), (q3, .inl (cJ G, 12, .inr (.inl (fJ gl))))] H locs → lv_has ls 7 [(0, .ref x), (1, .int a), (2, .long (lN (pa * 1048576))), (4, .long (lN y)), (6, .int (nI i))] → W p l e rm_X3_got s m args below meth c H locs 0 0 Q (F0 m 37 ls []) := by
        intro fu
        induction fu with
        | zero =>
          intro y i hi hy hinv hmu
          exact absurd hmu (Nat.not_lt_zero _)
        | succ fu ih_37 =>
          intro y i hi hy hinv hmu_37 H locs ls hw hl
          refine lv_iload hx hb dX3_got_37 (lv_at hl 4 rfl) ?_
          refine lv_aload_n hx hb dX3_got_39 rfl (lv_at hl 0 rfl) ?_
          refine x_get E hw (C := RX3) (T := TX3) (N := 9) hinX3 0 rfl rfl 1 (by decide) rfl (List.mem_of_getElem? (i := 5) rfl) dX3_got_40 ?_
          refine x_getN E hw (C := RX0) (T := TX0) (N := 5) hinX0 1 rfl rfl 3 (by decide) rfl (List.mem_of_getElem? (i := 11) rfl) dX3_got_43 ?_
          refine x_cfVi E hw hl.1 (As := []) (rest := [.int (nI i)]) (c_X1_size l G r3 q3 nl) 0 gX3_got_X1_size rfl rfl rfl (by decide) ⟨Nat.le_of_ble_eq_true rfl, Nat.le_of_ble_eq_true rfl⟩ ⟨Nat.le_of_ble_eq_true rfl, Nat.le_of_ble_eq_true rfl⟩ rfl 2 (ci := 1) (C := RX1) (T := TX1) (N := 2) rfl rfl [2] [0, 1, 3] rfl rfl rfl rfl rfl [0, 1, 3, 2] [(x, .inr (3, [.ref tx, .ref o, .ref o1, .ref o2, .int (nI pa), .int (nI pt), .int (nI off), .int (nI ha), .long tr])), (o, .inr (0, [.ref r0, .ref r1, .ref r2, .ref r3, .ref r4])), (r3, .inr (1, [.ref q3, .int (nI nl)])), (q3, .inl (cJ G, 12, .inr (.inl (fJ gl))))] rfl rfl rfl (Nat.le_of_ble_eq_true rfl) dX3_got_46 (fun H locs hw => ?_)
          refine x_icmp_ge E (nI_toI (show i < 2147483648 by omega)) (nI_toI (show nl < 2147483648 by omega)) (tgt := 90) dX3_got_49 (by decide) (fun c_5 => ?_) (fun c_5 => ?_)
          · have hT : gotR gl pa nl 0 (pt * 1048576) = y := by rw [← hinv, show nl - i = 0 by omega, gotR]
            refine lv_iload_n hx hb dX3_got_90 rfl (lv_at hl 1 rfl) ?_
            refine x_if_ne E rfl (tgt := 103) dX3_got_91 (by decide) (fun c_6 => ?_) (fun c_6 => ?_)
            · refine lv_lload hx hb dX3_got_103 (lv_at hl 3 rfl) ?_
              refine lv_lload_n hx hb dX3_got_105 rfl (lv_at hl 2 rfl) ?_
              refine x_cfSl E hw hl.1 (As := [.long (lN y), .long (lN (pa * 1048576))]) (rest := []) (c_X3_leastLower l G y (pa * 1048576) (by omega) (by omega) (by omega)) 2 gX3_got_X3_leastLower rfl rfl rfl (by decide) ⟨Nat.le_of_ble_eq_true rfl, Nat.le_of_ble_eq_true rfl⟩ ⟨Nat.le_of_ble_eq_true rfl, Nat.le_of_ble_eq_true rfl⟩ rfl [] [0, 1, 2, 3] rfl rfl rfl rfl rfl [0, 1, 2, 3] [(x, .inr (3, [.ref tx, .ref o, .ref o1, .ref o2, .int (nI pa), .int (nI pt), .int (nI off), .int (nI ha), .long tr])), (o, .inr (0, [.ref r0, .ref r1, .ref r2, .ref r3, .ref r4])), (r3, .inr (1, [.ref q3, .int (nI nl)])), (q3, .inl (cJ G, 12, .inr (.inl (fJ gl))))] rfl rfl rfl (Nat.le_of_ble_eq_true rfl) dX3_got_106 (fun H locs hw => ?_)
              exact hret (lN ((pa * 1048576) / Nat.gcd y (pa * 1048576))) () _ _ _ _ dX3_got_109 (by unfold gotF; rw [hT, if_pos (by omega), if_neg (by omega)]) hw
            · refine lv_lload hx hb dX3_got_94 (lv_at hl 3 rfl) ?_
              refine lv_lload_n hx hb dX3_got_96 rfl (lv_at hl 2 rfl) ?_
              refine x_cfSl E hw hl.1 (As := [.long (lN y), .long (lN (pa * 1048576))]) (rest := []) (c_X3_leastUpper l G y (pa * 1048576) (by omega) (by omega) (by omega)) 2 gX3_got_X3_leastUpper rfl rfl rfl (by decide) ⟨Nat.le_of_ble_eq_true rfl, Nat.le_of_ble_eq_true rfl⟩ ⟨Nat.le_of_ble_eq_true rfl, Nat.le_of_ble_eq_true rfl⟩ rfl [] [0, 1, 2, 3] rfl rfl rfl rfl rfl [0, 1, 2, 3] [(x, .inr (3, [.ref tx, .ref o, .ref o1, .ref o2, .int (nI pa), .int (nI pt), .int (nI off), .int (nI ha), .long tr])), (o, .inr (0, [.ref r0, .ref r1, .ref r2, .ref r3, .ref r4])), (r3, .inr (1, [.ref q3, .int (nI nl)])), (q3, .inl (cJ G, 12, .inr (.inl (fJ gl))))] rfl rfl rfl (Nat.le_of_ble_eq_true rfl) dX3_got_97 (fun H locs hw => ?_)
              refine lv_goto (tgt := 109) hx hb dX3_got_100 (by decide) ?_
              exact hret (lN (y / Nat.gcd y (pa * 1048576))) () _ _ _ _ dX3_got_109 (by unfold gotF; rw [hT, if_pos (by omega), if_pos (by omega)]) hw
          · refine lv_aload_n hx hb dX3_got_52 rfl (lv_at hl 0 rfl) ?_
            refine x_get E hw (C := RX3) (T := TX3) (N := 9) hinX3 0 rfl rfl 1 (by decide) rfl (List.mem_of_getElem? (i := 5) rfl) dX3_got_53 ?_
            refine x_getN E hw (C := RX0) (T := TX0) (N := 5) hinX0 1 rfl rfl 3 (by decide) rfl (List.mem_of_getElem? (i := 11) rfl) dX3_got_56 ?_
            refine lv_iload hx hb dX3_got_59 (lv_at hl 4 rfl) ?_
            refine x_cfVl E hw hl.1 (As := [.int (nI i)]) (rest := []) (c_X1_at l G r3 q3 nl 12 i gl (by omega) (by omega)) 1 gX3_got_X1_at rfl rfl rfl (by decide) ⟨Nat.le_of_ble_eq_true rfl, Nat.le_of_ble_eq_true rfl⟩ ⟨Nat.le_of_ble_eq_true rfl, Nat.le_of_ble_eq_true rfl⟩ rfl 2 (ci := 1) (C := RX1) (T := TX1) (N := 2) rfl rfl [2, 3] [0, 1] rfl rfl rfl rfl rfl [0, 1, 2, 3] [(x, .inr (3, [.ref tx, .ref o, .ref o1, .ref o2, .int (nI pa), .int (nI pt), .int (nI off), .int (nI ha), .long tr])), (o, .inr (0, [.ref r0, .ref r1, .ref r2, .ref r3, .ref r4])), (r3, .inr (1, [.ref q3, .int (nI nl)])), (q3, .inl (cJ G, 12, .inr (.inl (fJ gl))))] rfl rfl rfl (Nat.le_of_ble_eq_true rfl) dX3_got_61 (fun H locs hw => ?_)
            have hgli := hgl i
            refine lv_lconst (v := (lN 0)) hx hb dX3_got_64 (by decide) ?_
            refine x_lc_ne E (lN_toI (show gl i < 9223372036854775808 by omega)) (lN_toI (by decide)) (tgt := 74) dX3_got_65 dX3_got_66 (by decide) (fun hl0 => ?_) (fun hl0 => ?_)
            · have hg1 : gl i = 1 := by omega
              refine lv_lload hx hb dX3_got_74 (lv_at hl 3 rfl) ?_
              refine lv_lload_n hx hb dX3_got_76 rfl (lv_at hl 2 rfl) ?_
              refine x_ladd E (v := (lN (y + (pa * 1048576)))) dX3_got_77 (lN_add _ _) ?_
              refine lv_ldc2 (v := (2)) hx hb E.2.2.2.1 (E.2.2.2.2 _ (List.mem_of_getElem? (i := 6) rfl)) dX3_got_78 ?_
              refine x_topl (v := lN 2) (by decide) ?_
              refine x_ldiv E (v := (lN ((y + (pa * 1048576)) / 2))) dX3_got_81 (by decide) (pk_lDiv (by omega) (by omega) (by omega)) ?_
              refine lv_lstore (lv' := [(4, .long (lN ((y + (pa * 1048576)) / 2))), (0, .ref x), (1, .int a), (2, .long (lN (pa * 1048576))), (6, .int (nI i))]) hx hb dX3_got_82 hl (by decide) rfl (fun ls hl => ?_)
              refine lv_iinc (v := (nI (i + 1))) (lv' := [(6, .int (nI (i + 1))), (4, .long (lN ((y + (pa * 1048576)) / 2))), (0, .ref x), (1, .int a), (2, .long (lN (pa * 1048576)))]) hx hb dX3_got_84 hl (k := 4) rfl (x_inc1 _) (by decide) rfl (fun ls hl => ?_)
              refine lv_goto (tgt := 37) hx hb dX3_got_87 (by decide) ?_
              exact ih_37 ((y + (pa * 1048576)) / 2) (i + 1) (by omega) (by omega) (by have h9 := gotR_step (gl := gl) (P := pa) (x := y) (show i < nl by omega); rw [hinv] at h9; rw [hg1, Nat.one_mul] at h9; exact h9.symm) (by omega) _ _ _ hw (lv_sub hl [2, 3, 4, 1, 0] rfl)
            · have hg0 : gl i = 0 := by omega
              refine lv_lload hx hb dX3_got_69 (lv_at hl 3 rfl) ?_
              refine lv_goto (tgt := 78) hx hb dX3_got_71 (by decide) ?_
              refine lv_ldc2 (v := (2)) hx hb E.2.2.2.1 (E.2.2.2.2 _ (List.mem_of_getElem? (i := 6) rfl)) dX3_got_78 ?_
              refine x_topl (v := lN 2) (by decide) ?_
              refine x_ldiv E (v := (lN (y / 2))) dX3_got_81 (by decide) (pk_lDiv (by omega) (by omega) (by omega)) ?_
              refine lv_lstore (lv' := [(4, .long (lN (y / 2))), (0, .ref x), (1, .int a), (2, .long (lN (pa * 1048576))), (6, .int (nI i))]) hx hb dX3_got_82 hl (by decide) rfl (fun ls hl => ?_)
              refine lv_iinc (v := (nI (i + 1))) (lv' := [(6, .int (nI (i + 1))), (4, .long (lN (y / 2))), (0, .ref x), (1, .int a), (2, .long (lN (pa * 1048576)))]) hx hb dX3_got_84 hl (k := 4) rfl (x_inc1 _) (by decide) rfl (fun ls hl => ?_)
              refine lv_goto (tgt := 37) hx hb dX3_got_87 (by decide) ?_
              exact ih_37 (y / 2) (i + 1) (by omega) (by omega) (by have h9 := gotR_step (gl := gl) (P := pa) (x := y) (show i < nl by omega); rw [hinv] at h9; rw [hg0, Nat.zero_mul, Nat.add_zero] at h9; exact h9.symm) (by omega) _ _ _ hw (lv_sub hl [2, 3, 4, 1, 0] rfl)
      exact loop_37 (nl - 0 + 1) (pt * 1048576) 0 (by omega) (by omega) rfl (Nat.lt_succ_self _) _ _ _ hw (lv_sub hl [3, 4, 2, 1, 0] rfl)
    · refine lv_ldc2 (v := (-1)) hx hb E.2.2.2.1 (E.2.2.2.2 _ (List.mem_of_getElem? (i := 1) rfl)) dX3_got_9 ?_
      exact hret (-1 : Int64) () _ _ _ _ dX3_got_12 (ifF (by omega) rfl) hw

abbrev rm_X3_creasesAtNoPart : Room := { frames := 2, cells := 0, slots := 0, locals := 44 }
set_option maxHeartbeats 4000000 in
set_option maxRecDepth 100000 in
theorem c_X3_creasesAtNoPart (l : Launch) (G : XG) (x : Nat) (tx : Nat) (o : Nat) (o1 : Nat) (o2 : Nat) (pa : Nat) (pt : Nat) (off : Nat) (ha : Nat) (tr : Int64) (r0 : Nat) (r1 : Nat) (r2 : Nat) (r3 : Nat) (r4 : Nat) (q0 : Nat) (n : Nat) (gw : Nat → Nat) (hn : n ≤ 23) (hn3 : 3 ≤ n) (hgw : ∀ q, gw q < 1073741824) : CfI l yX3_creasesAtNoPart wsX3_creasesAtNoPart rm_X3_creasesAtNoPart G [.ref x] [(x, .inr (3, [.ref tx, .ref o, .ref o1, .ref o2, .int (nI pa), .int (nI pt), .int (nI off), .int (nI ha), .long tr])), (o, .inr (0, [.ref r0, .ref r1, .ref r2, .ref r3, .ref r4])), (r0, .inr (1, [.ref q0, .int (nI n)])), (q0, .inl (cJ G, 23, .inr (.inl (fJ gw))))] (nI (wsN gw (n - 2))) [(x, .inr (3, [.ref tx, .ref o, .ref o1, .ref o2, .int (nI pa), .int (nI pt), .int (nI off), .int (nI ha), .long tr])), (o, .inr (0, [.ref r0, .ref r1, .ref r2, .ref r3, .ref r4])), (r0, .inr (1, [.ref q0, .int (nI n)])), (q0, .inl (cJ G, 23, .inr (.inl (fJ gw))))] := by
  refine CtI.go (cc := cX3_creasesAtNoPart) (maxL := 3) RX3 rfl (by decide) rfl (Nat.le_of_ble_eq_true rfl) ?_
  intro p e s m args below meth c A Q ls E hw hl hret
  have hx := E.1
  have hb := E.2.1
  have hinX3 : ∀ w ∈ wsX30, w ∈ wsX3_creasesAtNoPart := (fun w h => List.mem_cons_of_mem _ (List.mem_append_left _ (List.mem_append_left _ (List.mem_append_right _ h))))
  have hl : lv_has ls 3 [(0, .ref x)] := hl
  refine lv_iconst (v := (nI 0)) hx hb dX3_creasesAtNoPart_0 (by decide) ?_
  refine lv_istore_n (lv' := [(1, .int (nI 0)), (0, .ref x)]) hx hb dX3_creasesAtNoPart_1 rfl hl (by decide) rfl (fun ls hl => ?_)
  refine lv_iconst (v := (nI 2)) hx hb dX3_creasesAtNoPart_2 (by decide) ?_
  refine lv_istore_n (lv' := [(2, .int (nI 2)), (1, .int (nI 0)), (0, .ref x)]) hx hb dX3_creasesAtNoPart_3 rfl hl (by decide) rfl (fun ls hl => ?_)
  have loop_4 : ∀ (fu : Nat) (i : Nat), i + 2 ≤ n → n - i < fu → ∀ (H : Heap) (locs : List Loc) (ls : Array Slot), Wd G s A [(x, .inr (3, [.ref tx, .ref o, .ref o1, .ref o2, .int (nI pa), .int (nI pt), .int (nI off), .int (nI ha), .long tr])), (o, .inr (0, [.ref r0, .ref r1, .ref r2, .ref r3, .ref r4])), (r0, .inr (1, [.ref q0, .int (nI n)])), (q0, .inl (cJ G, 23, .inr (.inl (fJ gw))))] H locs → lv_has ls 3 [(0, .ref x), (1, .int (nI (wsN gw i))), (2, .int (nI (i + 2)))] → W p l e rm_X3_creasesAtNoPart s m args below meth c H locs 0 0 Q (F0 m 4 ls []) := by
    intro fu
    induction fu with
    | zero =>
      intro i hi hmu
      exact absurd hmu (Nat.not_lt_zero _)
    | succ fu ih_4 =>
      intro i hi hmu_4 H locs ls hw hl
      refine lv_iload_n hx hb dX3_creasesAtNoPart_4 rfl (lv_at hl 2 rfl) ?_
      refine lv_aload_n hx hb dX3_creasesAtNoPart_5 rfl (lv_at hl 0 rfl) ?_
      refine x_get E hw (C := RX3) (T := TX3) (N := 9) hinX3 0 rfl rfl 1 (by decide) rfl (List.mem_of_getElem? (i := 1) rfl) dX3_creasesAtNoPart_6 ?_
      refine x_cfVi E hw hl.1 (As := []) (rest := [.int (nI (i + 2))]) (c_X0_creases l G o r0 r1 r2 r3 r4 q0 n) 0 gX3_creasesAtNoPart_X0_creases rfl rfl rfl (by decide) ⟨Nat.le_of_ble_eq_true rfl, Nat.le_of_ble_eq_true rfl⟩ ⟨Nat.le_of_ble_eq_true rfl, Nat.le_of_ble_eq_true rfl⟩ rfl 1 (ci := 0) (C := RX0) (T := TX0) (N := 5) rfl rfl [1, 2] [0, 3] rfl rfl rfl rfl rfl [0, 2, 3, 1] [(x, .inr (3, [.ref tx, .ref o, .ref o1, .ref o2, .int (nI pa), .int (nI pt), .int (nI off), .int (nI ha), .long tr])), (o, .inr (0, [.ref r0, .ref r1, .ref r2, .ref r3, .ref r4])), (r0, .inr (1, [.ref q0, .int (nI n)])), (q0, .inl (cJ G, 23, .inr (.inl (fJ gw))))] rfl rfl rfl (Nat.le_of_ble_eq_true rfl) dX3_creasesAtNoPart_9 (fun H locs hw => ?_)
      refine x_icmp_ge E (nI_toI (show i + 2 < 2147483648 by omega)) (nI_toI (show n < 2147483648 by omega)) (tgt := 34) dX3_creasesAtNoPart_12 (by decide) (fun c_1 => ?_) (fun c_1 => ?_)
      · refine lv_iload_n hx hb dX3_creasesAtNoPart_34 rfl (lv_at hl 1 rfl) ?_
        exact hret (nI (wsN gw i)) () _ _ _ _ dX3_creasesAtNoPart_35 rfl (by rw [show i = n - 2 by omega]) hw
      · have hgk := hgw (i + 2)
        by_cases hm : gw (i + 2) % 1048576 = 0
        · have hgk := hgw (i + 2)
          refine lv_aload_n hx hb dX3_creasesAtNoPart_15 rfl (lv_at hl 0 rfl) ?_
          refine lv_iload_n hx hb dX3_creasesAtNoPart_16 rfl (lv_at hl 2 rfl) ?_
          refine x_cfVi E hw hl.1 (As := [.int (nI (i + 2))]) (rest := []) (c_X3_partOfY l G x tx o o1 o2 pa pt off ha tr r0 r1 r2 r3 r4 q0 n (i + 2) gw (by omega) (hgw _) (by assumption)) 1 gX3_creasesAtNoPart_X3_partOf rfl rfl rfl (by decide) ⟨Nat.le_of_ble_eq_true rfl, Nat.le_of_ble_eq_true rfl⟩ ⟨Nat.le_of_ble_eq_true rfl, Nat.le_of_ble_eq_true rfl⟩ rfl 0 (ci := 3) (C := RX3) (T := TX3) (N := 9) rfl rfl [0, 1, 2, 3] [] rfl rfl rfl rfl rfl [0, 1, 2, 3] [(x, .inr (3, [.ref tx, .ref o, .ref o1, .ref o2, .int (nI pa), .int (nI pt), .int (nI off), .int (nI ha), .long tr])), (o, .inr (0, [.ref r0, .ref r1, .ref r2, .ref r3, .ref r4])), (r0, .inr (1, [.ref q0, .int (nI n)])), (q0, .inl (cJ G, 23, .inr (.inl (fJ gw))))] rfl rfl rfl (Nat.le_of_ble_eq_true rfl) dX3_creasesAtNoPart_17 (fun H locs hw => ?_)
          refine lv_bipush (v := (-9 : Int32)) hx hb dX3_creasesAtNoPart_20 (by decide) ?_
          refine x_icmp_ne E (nI_toI (show gw (i + 2) / 1048576 < 2147483648 by omega)) (show ((-9 : Int32)).toInt = -9 by decide) (tgt := 28) dX3_creasesAtNoPart_22 (by decide) (fun c_2 => ?_) (fun c_2 => ?_)
          · refine lv_iinc (v := (nI (i + 2 + 1))) (lv' := [(2, .int (nI (i + 2 + 1))), (0, .ref x), (1, .int (nI (wsN gw i)))]) hx hb dX3_creasesAtNoPart_28 hl (k := 2) rfl (x_inc1 _) (by decide) rfl (fun ls hl => ?_)
            refine lv_goto (tgt := 4) hx hb dX3_creasesAtNoPart_31 (by decide) ?_
            have hws : wsN gw (i + 1) = wsN gw i := by rw [wsN, if_pos hm, Nat.add_zero]
            rw [← hws, show i + 2 + 1 = i + 1 + 2 by omega] at hl
            exact ih_4 (i + 1) (by omega) (by omega) _ _ _ hw (lv_sub hl [1, 2, 0] rfl)
          · exfalso; omega
        · have hgk := hgw (i + 2)
          refine lv_aload_n hx hb dX3_creasesAtNoPart_15 rfl (lv_at hl 0 rfl) ?_
          refine lv_iload_n hx hb dX3_creasesAtNoPart_16 rfl (lv_at hl 2 rfl) ?_
          refine x_cfVi E hw hl.1 (As := [.int (nI (i + 2))]) (rest := []) (c_X3_partOfN l G x tx o o1 o2 pa pt off ha tr r0 r1 r2 r3 r4 q0 n (i + 2) gw (by omega) (hgw _) (by assumption)) 1 gX3_creasesAtNoPart_X3_partOf rfl rfl rfl (by decide) ⟨Nat.le_of_ble_eq_true rfl, Nat.le_of_ble_eq_true rfl⟩ ⟨Nat.le_of_ble_eq_true rfl, Nat.le_of_ble_eq_true rfl⟩ rfl 0 (ci := 3) (C := RX3) (T := TX3) (N := 9) rfl rfl [0, 1, 2, 3] [] rfl rfl rfl rfl rfl [0, 1, 2, 3] [(x, .inr (3, [.ref tx, .ref o, .ref o1, .ref o2, .int (nI pa), .int (nI pt), .int (nI off), .int (nI ha), .long tr])), (o, .inr (0, [.ref r0, .ref r1, .ref r2, .ref r3, .ref r4])), (r0, .inr (1, [.ref q0, .int (nI n)])), (q0, .inl (cJ G, 23, .inr (.inl (fJ gw))))] rfl rfl rfl (Nat.le_of_ble_eq_true rfl) dX3_creasesAtNoPart_17 (fun H locs hw => ?_)
          refine lv_bipush (v := (-9 : Int32)) hx hb dX3_creasesAtNoPart_20 (by decide) ?_
          refine x_icmp_ne E (show ((-9 : Int32)).toInt = -9 by decide) (show ((-9 : Int32)).toInt = -9 by decide) (tgt := 28) dX3_creasesAtNoPart_22 (by decide) (fun c_3 => ?_) (fun c_3 => ?_)
          · exfalso; omega
          · refine lv_iinc (v := (nI (wsN gw i + 1))) (lv' := [(1, .int (nI (wsN gw i + 1))), (0, .ref x), (2, .int (nI (i + 2)))]) hx hb dX3_creasesAtNoPart_25 hl (k := 1) rfl (x_inc1 _) (by decide) rfl (fun ls hl => ?_)
            refine lv_iinc (v := (nI (i + 2 + 1))) (lv' := [(2, .int (nI (i + 2 + 1))), (1, .int (nI (wsN gw i + 1))), (0, .ref x)]) hx hb dX3_creasesAtNoPart_28 hl (k := 2) rfl (x_inc1 _) (by decide) rfl (fun ls hl => ?_)
            refine lv_goto (tgt := 4) hx hb dX3_creasesAtNoPart_31 (by decide) ?_
            have hws : wsN gw (i + 1) = wsN gw i + 1 := by rw [wsN, if_neg hm]
            rw [← hws, show i + 2 + 1 = i + 1 + 2 by omega] at hl
            exact ih_4 (i + 1) (by omega) (by omega) _ _ _ hw (lv_sub hl [2, 1, 0] rfl)
  exact loop_4 (n - 0 + 1) 0 (by omega) (Nat.lt_succ_self _) _ _ _ hw (lv_sub hl [2, 1, 0] rfl)

abbrev rm_J13_bitCount_95d88 : Room := { frames := 0, cells := 0, slots := 0, locals := 0 }
set_option maxHeartbeats 4000000 in
set_option maxRecDepth 100000 in
theorem c_J13_bitCount_95d88 (l : Launch) (G : XG) (u : Nat) (hu : u < 9223372036854775808) : CfI l yJ13_bitCount_95d88 wsJ13_bitCount_95d88 rm_J13_bitCount_95d88 G [.long (lN u)] [] (nI (ct u 64)) [] := by
  refine CtI.go (cc := cJ13_bitCount_95d88) (maxL := 2) RJ13 rfl (by decide) rfl (Nat.le_of_ble_eq_true rfl) ?_
  intro p e s m args below meth c A Q ls E hw hl hret
  have hx := E.1
  have hb := E.2.1
  have hl : lv_has ls 2 [(0, .long (lN u))] := hl
  refine lv_lload_n hx hb dJ13_bitCount_95d88_0 rfl (lv_at hl 0 rfl) ?_
  refine lv_lload_n hx hb dJ13_bitCount_95d88_1 rfl (lv_at hl 0 rfl) ?_
  refine lv_iconst (v := (nI 1)) hx hb dJ13_bitCount_95d88_2 (by decide) ?_
  refine lv_lushr (v := (lN (u / 2))) hx hb dJ13_bitCount_95d88_3 (wb_shr (by omega) (by decide)) ?_
  refine lv_ldc2 (v := (6148914691236517205)) hx hb E.2.2.2.1 (E.2.2.2.2 _ (List.mem_of_getElem? (i := 1) rfl)) dJ13_bitCount_95d88_4 ?_
  refine x_topl (v := lN 6148914691236517205) (by decide) ?_
  refine x_land E (v := (lN ((u / 2) &&& 6148914691236517205))) dJ13_bitCount_95d88_7 (x_andL _ _) ?_
  refine x_lsub E (v := (lN (sA 8 u))) dJ13_bitCount_95d88_8 (lN_sub (Nat.le_trans Nat.and_le_left (Nat.div_le_self _ _))) ?_
  refine lv_lstore_n (lv' := [(0, .long (lN (sA 8 u)))]) hx hb dJ13_bitCount_95d88_9 rfl hl (by decide) rfl (fun ls hl => ?_)
  refine lv_lload_n hx hb dJ13_bitCount_95d88_10 rfl (lv_at hl 0 rfl) ?_
  refine lv_ldc2 (v := (3689348814741910323)) hx hb E.2.2.2.1 (E.2.2.2.2 _ (List.mem_of_getElem? (i := 2) rfl)) dJ13_bitCount_95d88_11 ?_
  refine x_topl (v := lN 3689348814741910323) (by decide) ?_
  refine x_land E (v := (lN ((sA 8 u) &&& 3689348814741910323))) dJ13_bitCount_95d88_14 (x_andL _ _) ?_
  refine lv_lload_n hx hb dJ13_bitCount_95d88_15 rfl (lv_at hl 0 rfl) ?_
  refine lv_iconst (v := (nI 2)) hx hb dJ13_bitCount_95d88_16 (by decide) ?_
  have hsa : sA 8 u ≤ u := Nat.sub_le _ _
  refine lv_lushr (v := (lN (sA 8 u / 4))) hx hb dJ13_bitCount_95d88_17 (wb_shr (by omega) (by decide)) ?_
  refine lv_ldc2 (v := (3689348814741910323)) hx hb E.2.2.2.1 (E.2.2.2.2 _ (List.mem_of_getElem? (i := 2) rfl)) dJ13_bitCount_95d88_18 ?_
  refine x_topl (v := lN 3689348814741910323) (by decide) ?_
  refine x_land E (v := (lN ((sA 8 u / 4) &&& 3689348814741910323))) dJ13_bitCount_95d88_21 (x_andL _ _) ?_
  refine x_ladd E (v := (lN (sB 8 (sA 8 u)))) dJ13_bitCount_95d88_22 (lN_add _ _) ?_
  refine lv_lstore_n (lv' := [(0, .long (lN (sB 8 (sA 8 u))))]) hx hb dJ13_bitCount_95d88_23 rfl hl (by decide) rfl (fun ls hl => ?_)
  refine lv_lload_n hx hb dJ13_bitCount_95d88_24 rfl (lv_at hl 0 rfl) ?_
  refine lv_lload_n hx hb dJ13_bitCount_95d88_25 rfl (lv_at hl 0 rfl) ?_
  refine lv_iconst (v := (nI 4)) hx hb dJ13_bitCount_95d88_26 (by decide) ?_
  have hsb : sB 8 (sA 8 u) < 9223372036854775808 := by
    have h1 : sA 8 u &&& M3 8 ≤ M3 8 := Nat.and_le_right
    have h2 : sA 8 u / 4 &&& M3 8 ≤ M3 8 := Nat.and_le_right
    have h3 : M3 8 = 3689348814741910323 := by decide
    unfold sB
    omega
  refine lv_lushr (v := (lN (sB 8 (sA 8 u) / 16))) hx hb dJ13_bitCount_95d88_27 (wb_shr (by omega) (by decide)) ?_
  refine x_ladd E (v := (lN ((sB 8 (sA 8 u)) + (sB 8 (sA 8 u) / 16)))) dJ13_bitCount_95d88_28 (lN_add _ _) ?_
  refine lv_ldc2 (v := (1085102592571150095)) hx hb E.2.2.2.1 (E.2.2.2.2 _ (List.mem_of_getElem? (i := 3) rfl)) dJ13_bitCount_95d88_29 ?_
  refine x_topl (v := lN 1085102592571150095) (by decide) ?_
  refine x_land E (v := (lN (sC 8 (sB 8 (sA 8 u))))) dJ13_bitCount_95d88_32 (x_andL _ _) ?_
  refine lv_lstore_n (lv' := [(0, .long (lN (sC 8 (sB 8 (sA 8 u)))))]) hx hb dJ13_bitCount_95d88_33 rfl hl (by decide) rfl (fun ls hl => ?_)
  refine lv_lload_n hx hb dJ13_bitCount_95d88_34 rfl (lv_at hl 0 rfl) ?_
  refine lv_lload_n hx hb dJ13_bitCount_95d88_35 rfl (lv_at hl 0 rfl) ?_
  refine lv_bipush (v := (nI 8)) hx hb dJ13_bitCount_95d88_36 (by decide) ?_
  have hsc : sC 8 (sB 8 (sA 8 u)) < 1152921504606846976 := Nat.lt_of_le_of_lt Nat.and_le_right (by decide)
  obtain ⟨v, hv⟩ : ∃ v, v = sC 8 (sB 8 (sA 8 u)) := ⟨_, rfl⟩
  rw [← hv] at hl hsc ⊢
  refine lv_lushr (v := (lN (v / 256))) hx hb dJ13_bitCount_95d88_38 (wb_shr (by omega) (by decide)) ?_
  refine x_ladd E (v := (lN (v + (v / 256)))) dJ13_bitCount_95d88_39 (lN_add _ _) ?_
  refine lv_lstore_n (lv' := [(0, .long (lN (v + (v / 256))))]) hx hb dJ13_bitCount_95d88_40 rfl hl (by decide) rfl (fun ls hl => ?_)
  refine lv_lload_n hx hb dJ13_bitCount_95d88_41 rfl (lv_at hl 0 rfl) ?_
  refine lv_lload_n hx hb dJ13_bitCount_95d88_42 rfl (lv_at hl 0 rfl) ?_
  refine lv_bipush (v := (nI 16)) hx hb dJ13_bitCount_95d88_43 (by decide) ?_
  refine lv_lushr (v := (lN ((v + v / 256) / 65536))) hx hb dJ13_bitCount_95d88_45 (wb_shr (by omega) (by decide)) ?_
  refine x_ladd E (v := (lN ((v + (v / 256)) + ((v + v / 256) / 65536)))) dJ13_bitCount_95d88_46 (lN_add _ _) ?_
  refine lv_lstore_n (lv' := [(0, .long (lN ((v + (v / 256)) + ((v + v / 256) / 65536))))]) hx hb dJ13_bitCount_95d88_47 rfl hl (by decide) rfl (fun ls hl => ?_)
  refine lv_lload_n hx hb dJ13_bitCount_95d88_48 rfl (lv_at hl 0 rfl) ?_
  refine lv_lload_n hx hb dJ13_bitCount_95d88_49 rfl (lv_at hl 0 rfl) ?_
  refine lv_bipush (v := (nI 32)) hx hb dJ13_bitCount_95d88_50 (by decide) ?_
  refine lv_lushr (v := (lN ((v + v / 256 + (v + v / 256) / 65536) / 4294967296))) hx hb dJ13_bitCount_95d88_52 (wb_shr (by omega) (by decide)) ?_
  refine x_ladd E (v := (lN (((v + (v / 256)) + ((v + v / 256) / 65536)) + ((v + v / 256 + (v + v / 256) / 65536) / 4294967296)))) dJ13_bitCount_95d88_53 (lN_add _ _) ?_
  refine lv_lstore_n (lv' := [(0, .long (lN (((v + (v / 256)) + ((v + v / 256) / 65536)) + ((v + v / 256 + (v + v / 256) / 65536) / 4294967296))))]) hx hb dJ13_bitCount_95d88_54 rfl hl (by decide) rfl (fun ls hl => ?_)
  refine lv_lload_n hx hb dJ13_bitCount_95d88_55 rfl (lv_at hl 0 rfl) ?_
  refine lv_l2i (v := (nI (((v + (v / 256)) + ((v + v / 256) / 65536)) + ((v + v / 256 + (v + v / 256) / 65536) / 4294967296)))) hx hb dJ13_bitCount_95d88_56 (lN_i _) ?_
  refine lv_bipush (v := (nI 127)) hx hb dJ13_bitCount_95d88_57 (by decide) ?_
  refine x_iand E (v := (nI (pcD v % 128))) dJ13_bitCount_95d88_59 (by rw [x_andI]; exact congrArg nI (Nat.and_two_pow_sub_one_eq_mod _ 7)) ?_
  exact hret (nI (pcD v % 128)) () _ _ _ _ dJ13_bitCount_95d88_60 rfl (by rw [hv, pc_ok u (Nat.lt_trans hu (by decide))]) hw

abbrev rm_X3_partsWithoutCrease : Room := { frames := 2, cells := 0, slots := 0, locals := 44 }
set_option maxHeartbeats 4000000 in
set_option maxRecDepth 100000 in
theorem c_X3_partsWithoutCrease (l : Launch) (G : XG) (x : Nat) (tx : Nat) (o : Nat) (o1 : Nat) (o2 : Nat) (pa : Nat) (pt : Nat) (off : Nat) (ha : Nat) (tr : Int64) (r0 : Nat) (r1 : Nat) (r2 : Nat) (r3 : Nat) (r4 : Nat) (q0 : Nat) (n : Nat) (gw : Nat → Nat) (hn : n ≤ 23) (hn3 : 3 ≤ n) (hgw : ∀ q, gw q < 1073741824) (hpa : pa ≤ 63) (hpa3 : 3 ≤ pa) : CfI l yX3_partsWithoutCrease wsX3_partsWithoutCrease rm_X3_partsWithoutCrease G [.ref x] [(x, .inr (3, [.ref tx, .ref o, .ref o1, .ref o2, .int (nI pa), .int (nI pt), .int (nI off), .int (nI ha), .long tr])), (o, .inr (0, [.ref r0, .ref r1, .ref r2, .ref r3, .ref r4])), (r0, .inr (1, [.ref q0, .int (nI n)])), (q0, .inl (cJ G, 23, .inr (.inl (fJ gw))))] (nI (pa - 1) - nI (ct (metX gw pa (n - 2)) 64)) [(x, .inr (3, [.ref tx, .ref o, .ref o1, .ref o2, .int (nI pa), .int (nI pt), .int (nI off), .int (nI ha), .long tr])), (o, .inr (0, [.ref r0, .ref r1, .ref r2, .ref r3, .ref r4])), (r0, .inr (1, [.ref q0, .int (nI n)])), (q0, .inl (cJ G, 23, .inr (.inl (fJ gw))))] := by
  refine CtI.go (cc := cX3_partsWithoutCrease) (maxL := 5) RX3 rfl (by decide) rfl (Nat.le_of_ble_eq_true rfl) ?_
  intro p e s m args below meth c A Q ls E hw hl hret
  have hx := E.1
  have hb := E.2.1
  have hinX3 : ∀ w ∈ wsX30, w ∈ wsX3_partsWithoutCrease := (fun w h => List.mem_cons_of_mem _ (List.mem_append_left _ (List.mem_append_left _ (List.mem_append_right _ h))))
  have hl : lv_has ls 5 [(0, .ref x)] := hl
  refine lv_lconst (v := (lN 0)) hx hb dX3_partsWithoutCrease_0 (by decide) ?_
  refine lv_lstore_n (lv' := [(1, .long (lN 0)), (0, .ref x)]) hx hb dX3_partsWithoutCrease_1 rfl hl (by decide) rfl (fun ls hl => ?_)
  refine lv_iconst (v := (nI 2)) hx hb dX3_partsWithoutCrease_2 (by decide) ?_
  refine lv_istore_n (lv' := [(3, .int (nI 2)), (1, .long (lN 0)), (0, .ref x)]) hx hb dX3_partsWithoutCrease_3 rfl hl (by decide) rfl (fun ls hl => ?_)
  have loop_4 : ∀ (fu : Nat) (i : Nat), i + 2 ≤ n → n - i < fu → ∀ (H : Heap) (locs : List Loc) (ls : Array Slot), Wd G s A [(x, .inr (3, [.ref tx, .ref o, .ref o1, .ref o2, .int (nI pa), .int (nI pt), .int (nI off), .int (nI ha), .long tr])), (o, .inr (0, [.ref r0, .ref r1, .ref r2, .ref r3, .ref r4])), (r0, .inr (1, [.ref q0, .int (nI n)])), (q0, .inl (cJ G, 23, .inr (.inl (fJ gw))))] H locs → lv_has ls 5 [(0, .ref x), (1, .long (lN (metX gw pa i))), (3, .int (nI (i + 2)))] → W p l e rm_X3_partsWithoutCrease s m args below meth c H locs 0 0 Q (F0 m 4 ls []) := by
    intro fu
    induction fu with
    | zero =>
      intro i hi hmu
      exact absurd hmu (Nat.not_lt_zero _)
    | succ fu ih_4 =>
      intro i hi hmu_4 H locs ls hw hl
      refine lv_iload_n hx hb dX3_partsWithoutCrease_4 rfl (lv_at hl 2 rfl) ?_
      refine lv_aload_n hx hb dX3_partsWithoutCrease_5 rfl (lv_at hl 0 rfl) ?_
      refine x_get E hw (C := RX3) (T := TX3) (N := 9) hinX3 0 rfl rfl 1 (by decide) rfl (List.mem_of_getElem? (i := 1) rfl) dX3_partsWithoutCrease_6 ?_
      refine x_cfVi E hw hl.1 (As := []) (rest := [.int (nI (i + 2))]) (c_X0_creases l G o r0 r1 r2 r3 r4 q0 n) 0 gX3_partsWithoutCrease_X0_creases rfl rfl rfl (by decide) ⟨Nat.le_of_ble_eq_true rfl, Nat.le_of_ble_eq_true rfl⟩ ⟨Nat.le_of_ble_eq_true rfl, Nat.le_of_ble_eq_true rfl⟩ rfl 1 (ci := 0) (C := RX0) (T := TX0) (N := 5) rfl rfl [1, 2] [0, 3] rfl rfl rfl rfl rfl [0, 2, 3, 1] [(x, .inr (3, [.ref tx, .ref o, .ref o1, .ref o2, .int (nI pa), .int (nI pt), .int (nI off), .int (nI ha), .long tr])), (o, .inr (0, [.ref r0, .ref r1, .ref r2, .ref r3, .ref r4])), (r0, .inr (1, [.ref q0, .int (nI n)])), (q0, .inl (cJ G, 23, .inr (.inl (fJ gw))))] rfl rfl rfl (Nat.le_of_ble_eq_true rfl) dX3_partsWithoutCrease_9 (fun H locs hw => ?_)
      refine x_icmp_ge E (nI_toI (show i + 2 < 2147483648 by omega)) (nI_toI (show n < 2147483648 by omega)) (tgt := 45) dX3_partsWithoutCrease_12 (by decide) (fun c_1 => ?_) (fun c_1 => ?_)
      · refine lv_aload_n hx hb dX3_partsWithoutCrease_45 rfl (lv_at hl 0 rfl) ?_
        refine x_get E hw (C := RX3) (T := TX3) (N := 9) hinX3 0 rfl rfl 4 (by decide) rfl (List.mem_of_getElem? (i := 2) rfl) dX3_partsWithoutCrease_46 ?_
        refine lv_iconst (v := (nI 1)) hx hb dX3_partsWithoutCrease_49 (by decide) ?_
        refine x_isub E (v := (nI (pa - 1))) dX3_partsWithoutCrease_50 (pk_sub (by omega)) ?_
        refine lv_lload_n hx hb dX3_partsWithoutCrease_51 rfl (lv_at hl 1 rfl) ?_
        refine x_cfSi E hw hl.1 (As := [.long (lN (metX gw pa i))]) (rest := [.int (nI (pa - 1))]) (c_J13_bitCount_95d88 l G (metX gw pa i) (metX_lt hpa _)) 1 gX3_partsWithoutCrease_J13_bitCount_95d88 rfl rfl rfl (by decide) ⟨Nat.le_of_ble_eq_true rfl, Nat.le_of_ble_eq_true rfl⟩ ⟨Nat.le_of_ble_eq_true rfl, Nat.le_of_ble_eq_true rfl⟩ rfl [] [0, 1, 2, 3] rfl rfl rfl rfl rfl [0, 1, 2, 3] [(x, .inr (3, [.ref tx, .ref o, .ref o1, .ref o2, .int (nI pa), .int (nI pt), .int (nI off), .int (nI ha), .long tr])), (o, .inr (0, [.ref r0, .ref r1, .ref r2, .ref r3, .ref r4])), (r0, .inr (1, [.ref q0, .int (nI n)])), (q0, .inl (cJ G, 23, .inr (.inl (fJ gw))))] rfl rfl rfl (Nat.le_of_ble_eq_true rfl) dX3_partsWithoutCrease_52 (fun H locs hw => ?_)
        refine x_isub E (v := (nI (pa - 1) - nI (ct (metX gw pa i) 64))) dX3_partsWithoutCrease_55 rfl ?_
        exact hret (nI (pa - 1) - nI (ct (metX gw pa i) 64)) () _ _ _ _ dX3_partsWithoutCrease_56 rfl (by rw [show i = n - 2 by omega]) hw
      · have hgk := hgw (i + 2)
        by_cases hm : gw (i + 2) % 1048576 = 0
        · have hgk := hgw (i + 2)
          refine lv_aload_n hx hb dX3_partsWithoutCrease_15 rfl (lv_at hl 0 rfl) ?_
          refine lv_iload_n hx hb dX3_partsWithoutCrease_16 rfl (lv_at hl 2 rfl) ?_
          refine x_cfVi E hw hl.1 (As := [.int (nI (i + 2))]) (rest := []) (c_X3_partOfY l G x tx o o1 o2 pa pt off ha tr r0 r1 r2 r3 r4 q0 n (i + 2) gw (by omega) (hgw _) (by assumption)) 1 gX3_partsWithoutCrease_X3_partOf rfl rfl rfl (by decide) ⟨Nat.le_of_ble_eq_true rfl, Nat.le_of_ble_eq_true rfl⟩ ⟨Nat.le_of_ble_eq_true rfl, Nat.le_of_ble_eq_true rfl⟩ rfl 0 (ci := 3) (C := RX3) (T := TX3) (N := 9) rfl rfl [0, 1, 2, 3] [] rfl rfl rfl rfl rfl [0, 1, 2, 3] [(x, .inr (3, [.ref tx, .ref o, .ref o1, .ref o2, .int (nI pa), .int (nI pt), .int (nI off), .int (nI ha), .long tr])), (o, .inr (0, [.ref r0, .ref r1, .ref r2, .ref r3, .ref r4])), (r0, .inr (1, [.ref q0, .int (nI n)])), (q0, .inl (cJ G, 23, .inr (.inl (fJ gw))))] rfl rfl rfl (Nat.le_of_ble_eq_true rfl) dX3_partsWithoutCrease_17 (fun H locs hw => ?_)
          refine lv_istore (lv' := [(4, .int (nI (gw (i + 2) / 1048576))), (0, .ref x), (1, .long (lN (metX gw pa i))), (3, .int (nI (i + 2)))]) hx hb dX3_partsWithoutCrease_20 hl (by decide) rfl (fun ls hl => ?_)
          refine lv_aload_n hx hb dX3_partsWithoutCrease_22 rfl (lv_at hl 1 rfl) ?_
          refine lv_iload hx hb dX3_partsWithoutCrease_23 (lv_at hl 0 rfl) ?_
          refine x_cfVi E hw hl.1 (As := [.int (nI (gw (i + 2) / 1048576))]) (rest := []) (c_X3_isInnerN l G x tx o o1 o2 pa pt off ha tr (gw (i + 2) / 1048576) (by omega) (by omega)) 1 gX3_partsWithoutCrease_X3_isInner rfl rfl rfl (by decide) ⟨Nat.le_of_ble_eq_true rfl, Nat.le_of_ble_eq_true rfl⟩ ⟨Nat.le_of_ble_eq_true rfl, Nat.le_of_ble_eq_true rfl⟩ rfl 0 (ci := 3) (C := RX3) (T := TX3) (N := 9) rfl rfl [0] [1, 2, 3] rfl rfl rfl rfl rfl [3, 0, 1, 2] [(x, .inr (3, [.ref tx, .ref o, .ref o1, .ref o2, .int (nI pa), .int (nI pt), .int (nI off), .int (nI ha), .long tr])), (o, .inr (0, [.ref r0, .ref r1, .ref r2, .ref r3, .ref r4])), (r0, .inr (1, [.ref q0, .int (nI n)])), (q0, .inl (cJ G, 23, .inr (.inl (fJ gw))))] rfl rfl rfl (Nat.le_of_ble_eq_true rfl) dX3_partsWithoutCrease_25 (fun H locs hw => ?_)
          refine x_ifb_eq E (P := 1 ≤ (gw (i + 2) / 1048576) ∧ (gw (i + 2) / 1048576) < pa) (tgt := 39) dX3_partsWithoutCrease_28 (by decide) (fun hin => ?_) (fun hin => ?_)
          · refine lv_iinc (v := (nI (i + 2 + 1))) (lv' := [(3, .int (nI (i + 2 + 1))), (4, .int (nI (gw (i + 2) / 1048576))), (0, .ref x), (1, .long (lN (metX gw pa i)))]) hx hb dX3_partsWithoutCrease_39 hl (k := 3) rfl (x_inc1 _) (by decide) rfl (fun ls hl => ?_)
            refine lv_goto (tgt := 4) hx hb dX3_partsWithoutCrease_42 (by decide) ?_
            have hmx : metX gw pa (i + 1) = metX gw pa i := by rw [metX, if_neg (fun h => hin h.2)]
            rw [← hmx, show i + 2 + 1 = i + 1 + 2 by omega] at hl
            exact ih_4 (i + 1) (by omega) (by omega) _ _ _ hw (lv_sub hl [2, 3, 0] rfl)
          · refine lv_lload_n hx hb dX3_partsWithoutCrease_31 rfl (lv_at hl 2 rfl) ?_
            refine lv_iload hx hb dX3_partsWithoutCrease_32 (lv_at hl 0 rfl) ?_
            refine x_cfSl E hw hl.1 (As := [.int (nI (gw (i + 2) / 1048576))]) (rest := [.long (lN (metX gw pa i))]) (c_X3_bit l G (gw (i + 2) / 1048576) (by omega)) 1 gX3_partsWithoutCrease_X3_bit rfl rfl rfl (by decide) ⟨Nat.le_of_ble_eq_true rfl, Nat.le_of_ble_eq_true rfl⟩ ⟨Nat.le_of_ble_eq_true rfl, Nat.le_of_ble_eq_true rfl⟩ rfl [] [0, 1, 2, 3] rfl rfl rfl rfl rfl [0, 1, 2, 3] [(x, .inr (3, [.ref tx, .ref o, .ref o1, .ref o2, .int (nI pa), .int (nI pt), .int (nI off), .int (nI ha), .long tr])), (o, .inr (0, [.ref r0, .ref r1, .ref r2, .ref r3, .ref r4])), (r0, .inr (1, [.ref q0, .int (nI n)])), (q0, .inl (cJ G, 23, .inr (.inl (fJ gw))))] rfl rfl rfl (Nat.le_of_ble_eq_true rfl) dX3_partsWithoutCrease_34 (fun H locs hw => ?_)
            refine x_lor E (v := (lN ((metX gw pa i) ||| (2 ^ (gw (i + 2) / 1048576))))) dX3_partsWithoutCrease_37 (x_orL _ _) ?_
            refine lv_lstore_n (lv' := [(1, .long (lN ((metX gw pa i) ||| (2 ^ (gw (i + 2) / 1048576))))), (4, .int (nI (gw (i + 2) / 1048576))), (0, .ref x), (3, .int (nI (i + 2)))]) hx hb dX3_partsWithoutCrease_38 rfl hl (by decide) rfl (fun ls hl => ?_)
            refine lv_iinc (v := (nI (i + 2 + 1))) (lv' := [(3, .int (nI (i + 2 + 1))), (1, .long (lN ((metX gw pa i) ||| (2 ^ (gw (i + 2) / 1048576))))), (4, .int (nI (gw (i + 2) / 1048576))), (0, .ref x)]) hx hb dX3_partsWithoutCrease_39 hl (k := 3) rfl (x_inc1 _) (by decide) rfl (fun ls hl => ?_)
            refine lv_goto (tgt := 4) hx hb dX3_partsWithoutCrease_42 (by decide) ?_
            have hmx : metX gw pa (i + 1) = metX gw pa i ||| 2 ^ (gw (i + 2) / 1048576) := by rw [metX, if_pos ⟨hm, hin⟩]
            rw [← hmx, show i + 2 + 1 = i + 1 + 2 by omega] at hl
            exact ih_4 (i + 1) (by omega) (by omega) _ _ _ hw (lv_sub hl [3, 1, 0] rfl)
        · have hgk := hgw (i + 2)
          refine lv_aload_n hx hb dX3_partsWithoutCrease_15 rfl (lv_at hl 0 rfl) ?_
          refine lv_iload_n hx hb dX3_partsWithoutCrease_16 rfl (lv_at hl 2 rfl) ?_
          refine x_cfVi E hw hl.1 (As := [.int (nI (i + 2))]) (rest := []) (c_X3_partOfN l G x tx o o1 o2 pa pt off ha tr r0 r1 r2 r3 r4 q0 n (i + 2) gw (by omega) (hgw _) (by assumption)) 1 gX3_partsWithoutCrease_X3_partOf rfl rfl rfl (by decide) ⟨Nat.le_of_ble_eq_true rfl, Nat.le_of_ble_eq_true rfl⟩ ⟨Nat.le_of_ble_eq_true rfl, Nat.le_of_ble_eq_true rfl⟩ rfl 0 (ci := 3) (C := RX3) (T := TX3) (N := 9) rfl rfl [0, 1, 2, 3] [] rfl rfl rfl rfl rfl [0, 1, 2, 3] [(x, .inr (3, [.ref tx, .ref o, .ref o1, .ref o2, .int (nI pa), .int (nI pt), .int (nI off), .int (nI ha), .long tr])), (o, .inr (0, [.ref r0, .ref r1, .ref r2, .ref r3, .ref r4])), (r0, .inr (1, [.ref q0, .int (nI n)])), (q0, .inl (cJ G, 23, .inr (.inl (fJ gw))))] rfl rfl rfl (Nat.le_of_ble_eq_true rfl) dX3_partsWithoutCrease_17 (fun H locs hw => ?_)
          refine lv_istore (lv' := [(4, .int (-9 : Int32)), (0, .ref x), (1, .long (lN (metX gw pa i))), (3, .int (nI (i + 2)))]) hx hb dX3_partsWithoutCrease_20 hl (by decide) rfl (fun ls hl => ?_)
          refine lv_aload_n hx hb dX3_partsWithoutCrease_22 rfl (lv_at hl 1 rfl) ?_
          refine lv_iload hx hb dX3_partsWithoutCrease_23 (lv_at hl 0 rfl) ?_
          refine x_cfVi E hw hl.1 (As := [.int (-9 : Int32)]) (rest := []) (c_X3_isInner l G x tx o o1 o2 pa pt off ha tr (-9 : Int32) (by omega)) 1 gX3_partsWithoutCrease_X3_isInner rfl rfl rfl (by decide) ⟨Nat.le_of_ble_eq_true rfl, Nat.le_of_ble_eq_true rfl⟩ ⟨Nat.le_of_ble_eq_true rfl, Nat.le_of_ble_eq_true rfl⟩ rfl 0 (ci := 3) (C := RX3) (T := TX3) (N := 9) rfl rfl [0] [1, 2, 3] rfl rfl rfl rfl rfl [3, 0, 1, 2] [(x, .inr (3, [.ref tx, .ref o, .ref o1, .ref o2, .int (nI pa), .int (nI pt), .int (nI off), .int (nI ha), .long tr])), (o, .inr (0, [.ref r0, .ref r1, .ref r2, .ref r3, .ref r4])), (r0, .inr (1, [.ref q0, .int (nI n)])), (q0, .inl (cJ G, 23, .inr (.inl (fJ gw))))] rfl rfl rfl (Nat.le_of_ble_eq_true rfl) dX3_partsWithoutCrease_25 (fun H locs hw => ?_)
          refine x_ifb_eq E (P := 1 ≤ (-9 : Int32).toInt ∧ (-9 : Int32).toInt < (pa : Int)) (tgt := 39) dX3_partsWithoutCrease_28 (by decide) (fun hin => ?_) (fun hin => ?_)
          · refine lv_iinc (v := (nI (i + 2 + 1))) (lv' := [(3, .int (nI (i + 2 + 1))), (4, .int (-9 : Int32)), (0, .ref x), (1, .long (lN (metX gw pa i)))]) hx hb dX3_partsWithoutCrease_39 hl (k := 3) rfl (x_inc1 _) (by decide) rfl (fun ls hl => ?_)
            refine lv_goto (tgt := 4) hx hb dX3_partsWithoutCrease_42 (by decide) ?_
            have hmx : metX gw pa (i + 1) = metX gw pa i := by rw [metX, if_neg (fun h => hm h.1)]
            rw [← hmx, show i + 2 + 1 = i + 1 + 2 by omega] at hl
            exact ih_4 (i + 1) (by omega) (by omega) _ _ _ hw (lv_sub hl [2, 3, 0] rfl)
          · exact absurd hin.1 (by decide)
  exact loop_4 (n - 0 + 1) 0 (by omega) (Nat.lt_succ_self _) _ _ _ hw (lv_sub hl [2, 1, 0] rfl)

abbrev rm_X3_wasted : Room := { frames := 3, cells := 0, slots := 0, locals := 68 }
set_option maxHeartbeats 4000000 in
set_option maxRecDepth 100000 in
theorem c_X3_wasted (l : Launch) (G : XG) (x : Nat) (tx : Nat) (o : Nat) (o1 : Nat) (o2 : Nat) (pa : Nat) (pt : Nat) (off : Nat) (ha : Nat) (tr : Int64) (r0 : Nat) (r1 : Nat) (r2 : Nat) (r3 : Nat) (r4 : Nat) (q0 : Nat) (n : Nat) (gw : Nat → Nat) (a : Int32) (hn : n ≤ 23) (hn3 : 3 ≤ n) (hgw : ∀ q, gw q < 1073741824) (hpa : pa ≤ 63) (hpa3 : 3 ≤ pa) : CfI l yX3_wasted wsX3_wasted rm_X3_wasted G [.ref x, .int a] [(x, .inr (3, [.ref tx, .ref o, .ref o1, .ref o2, .int (nI pa), .int (nI pt), .int (nI off), .int (nI ha), .long tr])), (o, .inr (0, [.ref r0, .ref r1, .ref r2, .ref r3, .ref r4])), (r0, .inr (1, [.ref q0, .int (nI n)])), (q0, .inl (cJ G, 23, .inr (.inl (fJ gw))))] (wastedX gw pa n a.toInt) [(x, .inr (3, [.ref tx, .ref o, .ref o1, .ref o2, .int (nI pa), .int (nI pt), .int (nI off), .int (nI ha), .long tr])), (o, .inr (0, [.ref r0, .ref r1, .ref r2, .ref r3, .ref r4])), (r0, .inr (1, [.ref q0, .int (nI n)])), (q0, .inl (cJ G, 23, .inr (.inl (fJ gw))))] := by
  refine CtI.go (cc := cX3_wasted) (maxL := 2) RX3 rfl (by decide) rfl (Nat.le_of_ble_eq_true rfl) ?_
  intro p e s m args below meth c A Q ls E hw hl hret
  have hx := E.1
  have hb := E.2.1
  have hl : lv_has ls 2 [(0, .ref x), (1, .int a)] := hl
  refine lv_iload_n hx hb dX3_wasted_0 rfl (lv_at hl 1 rfl) ?_
  rcases (show a.toInt = 0 ∨ a.toInt = 1 ∨ (¬ a.toInt = 0 ∧ ¬ a.toInt = 1) by omega) with c_1 | c_1 | c_1
  · refine x_lk E (rfl.trans c_1) (L := [(0, 27), (1, 32)]) (off := 27) (tgt := 28) dX3_wasted_1 rfl rfl (by decide) (by decide) ?_
    refine lv_aload_n hx hb dX3_wasted_28 rfl (lv_at hl 0 rfl) ?_
    refine x_cfVi E hw hl.1 (As := []) (rest := []) (c_X3_creasesAtNoPart l G x tx o o1 o2 pa pt off ha tr r0 r1 r2 r3 r4 q0 n gw (by omega) (by omega) hgw) 0 gX3_wasted_X3_creasesAtNoPart rfl rfl rfl (by decide) ⟨Nat.le_of_ble_eq_true rfl, Nat.le_of_ble_eq_true rfl⟩ ⟨Nat.le_of_ble_eq_true rfl, Nat.le_of_ble_eq_true rfl⟩ rfl 0 (ci := 3) (C := RX3) (T := TX3) (N := 9) rfl rfl [0, 1, 2, 3] [] rfl rfl rfl rfl rfl [0, 1, 2, 3] [(x, .inr (3, [.ref tx, .ref o, .ref o1, .ref o2, .int (nI pa), .int (nI pt), .int (nI off), .int (nI ha), .long tr])), (o, .inr (0, [.ref r0, .ref r1, .ref r2, .ref r3, .ref r4])), (r0, .inr (1, [.ref q0, .int (nI n)])), (q0, .inl (cJ G, 23, .inr (.inl (fJ gw))))] rfl rfl rfl (Nat.le_of_ble_eq_true rfl) dX3_wasted_29 (fun H locs hw => ?_)
    exact hret (nI (wsN gw (n - 2))) () _ _ _ _ dX3_wasted_32 rfl (ifT (by omega) rfl) hw
  · refine x_lk E (rfl.trans c_1) (L := [(0, 27), (1, 32)]) (off := 32) (tgt := 33) dX3_wasted_1 rfl rfl (by decide) (by decide) ?_
    refine lv_aload_n hx hb dX3_wasted_33 rfl (lv_at hl 0 rfl) ?_
    refine x_cfVi E hw hl.1 (As := []) (rest := []) (c_X3_partsWithoutCrease l G x tx o o1 o2 pa pt off ha tr r0 r1 r2 r3 r4 q0 n gw (by omega) (by omega) hgw (by omega) (by omega)) 0 gX3_wasted_X3_partsWithoutCrease rfl rfl rfl (by decide) ⟨Nat.le_of_ble_eq_true rfl, Nat.le_of_ble_eq_true rfl⟩ ⟨Nat.le_of_ble_eq_true rfl, Nat.le_of_ble_eq_true rfl⟩ rfl 0 (ci := 3) (C := RX3) (T := TX3) (N := 9) rfl rfl [0, 1, 2, 3] [] rfl rfl rfl rfl rfl [0, 1, 2, 3] [(x, .inr (3, [.ref tx, .ref o, .ref o1, .ref o2, .int (nI pa), .int (nI pt), .int (nI off), .int (nI ha), .long tr])), (o, .inr (0, [.ref r0, .ref r1, .ref r2, .ref r3, .ref r4])), (r0, .inr (1, [.ref q0, .int (nI n)])), (q0, .inl (cJ G, 23, .inr (.inl (fJ gw))))] rfl rfl rfl (Nat.le_of_ble_eq_true rfl) dX3_wasted_34 (fun H locs hw => ?_)
    exact hret (nI (pa - 1) - nI (ct (metX gw pa (n - 2)) 64)) () _ _ _ _ dX3_wasted_37 rfl (ifF (by omega) (ifT (by omega) rfl)) hw
  · refine x_lk E rfl (L := [(0, 27), (1, 32)]) (off := 37) (tgt := 38) dX3_wasted_1 rfl rfl (by rw [Op.lookupswitch.offset_cons, if_neg (fun q => c_1.1 q.symm)]; rw [Op.lookupswitch.offset_cons, if_neg (fun q => c_1.2 q.symm)]; rfl) (by decide) ?_
    refine lv_iconst (v := (-1 : Int32)) hx hb dX3_wasted_38 (by decide) ?_
    exact hret (-1 : Int32) () _ _ _ _ dX3_wasted_39 rfl (ifF (by omega) (ifF (by omega) rfl)) hw

abbrev rm_X3_imageOf_0 : Room := { frames := 0, cells := 0, slots := 0, locals := 0 }
set_option maxHeartbeats 4000000 in
set_option maxRecDepth 100000 in
theorem c_X3_imageOf_0 (l : Launch) (G : XG) (x : Nat) (tx : Nat) (o : Nat) (o1 : Nat) (o2 : Nat) (pa : Nat) (pt : Nat) (off : Nat) (ha : Nat) (tr : Int64)  : CfR l yX3_imageOf wsX3_imageOf rm_X3_imageOf_0 G [.ref x, .int (nI 0)] [(x, .inr (3, [.ref tx, .ref o, .ref o1, .ref o2, .int (nI pa), .int (nI pt), .int (nI off), .int (nI ha), .long tr]))] (.ref o1) [(x, .inr (3, [.ref tx, .ref o, .ref o1, .ref o2, .int (nI pa), .int (nI pt), .int (nI off), .int (nI ha), .long tr]))] := by
  refine CfR.go (cc := cX3_imageOf) (maxL := 2) RX3 rfl (by decide) rfl (Nat.le_of_ble_eq_true rfl) (Or.inr ⟨_, rfl⟩) ?_
  intro p e s m args below meth c A Q ls E hw hl hret
  have hx := E.1
  have hb := E.2.1
  have hinX3 : ∀ w ∈ wsX30, w ∈ wsX3_imageOf := (fun w h => List.mem_cons_of_mem _ (List.mem_append_right _ h))
  have hl : lv_has ls 2 [(0, .ref x), (1, .int (nI 0))] := hl
  refine lv_iload_n hx hb dX3_imageOf_0 rfl (lv_at hl 1 rfl) ?_
  rcases (show (0 : Int) = 0 by omega) with c_1
  · refine x_lk E ((nI_toI (by decide)).trans c_1) (L := [(0, 27), (1, 32)]) (off := 27) (tgt := 28) dX3_imageOf_1 rfl rfl (by decide) (by decide) ?_
    refine lv_aload_n hx hb dX3_imageOf_28 rfl (lv_at hl 0 rfl) ?_
    refine x_get E hw (C := RX3) (T := TX3) (N := 9) hinX3 0 rfl rfl 2 (by decide) rfl (List.mem_of_getElem? (i := 1) rfl) dX3_imageOf_29 ?_
    exact hret _ _ _ _ dX3_imageOf_32 hw

abbrev rm_X3_imageOf_1 : Room := { frames := 0, cells := 0, slots := 0, locals := 0 }
set_option maxHeartbeats 4000000 in
set_option maxRecDepth 100000 in
theorem c_X3_imageOf_1 (l : Launch) (G : XG) (x : Nat) (tx : Nat) (o : Nat) (o1 : Nat) (o2 : Nat) (pa : Nat) (pt : Nat) (off : Nat) (ha : Nat) (tr : Int64)  : CfR l yX3_imageOf wsX3_imageOf rm_X3_imageOf_1 G [.ref x, .int (nI 1)] [(x, .inr (3, [.ref tx, .ref o, .ref o1, .ref o2, .int (nI pa), .int (nI pt), .int (nI off), .int (nI ha), .long tr]))] (.ref o2) [(x, .inr (3, [.ref tx, .ref o, .ref o1, .ref o2, .int (nI pa), .int (nI pt), .int (nI off), .int (nI ha), .long tr]))] := by
  refine CfR.go (cc := cX3_imageOf) (maxL := 2) RX3 rfl (by decide) rfl (Nat.le_of_ble_eq_true rfl) (Or.inr ⟨_, rfl⟩) ?_
  intro p e s m args below meth c A Q ls E hw hl hret
  have hx := E.1
  have hb := E.2.1
  have hinX3 : ∀ w ∈ wsX30, w ∈ wsX3_imageOf := (fun w h => List.mem_cons_of_mem _ (List.mem_append_right _ h))
  have hl : lv_has ls 2 [(0, .ref x), (1, .int (nI 1))] := hl
  refine lv_iload_n hx hb dX3_imageOf_0 rfl (lv_at hl 1 rfl) ?_
  rcases (show (1 : Int) = 1 by omega) with c_1
  · refine x_lk E ((nI_toI (by decide)).trans c_1) (L := [(0, 27), (1, 32)]) (off := 32) (tgt := 33) dX3_imageOf_1 rfl rfl (by decide) (by decide) ?_
    refine lv_aload_n hx hb dX3_imageOf_33 rfl (lv_at hl 0 rfl) ?_
    refine x_get E hw (C := RX3) (T := TX3) (N := 9) hinX3 0 rfl rfl 3 (by decide) rfl (List.mem_of_getElem? (i := 2) rfl) dX3_imageOf_34 ?_
    exact hret _ _ _ _ dX3_imageOf_37 hw

abbrev rm_X3_imageOf_bad : Room := { frames := 0, cells := 0, slots := 0, locals := 0 }
set_option maxHeartbeats 4000000 in
set_option maxRecDepth 100000 in
theorem c_X3_imageOf_bad (l : Launch) (G : XG) (x : Nat) (tx : Nat) (o : Nat) (o1 : Nat) (o2 : Nat) (pa : Nat) (pt : Nat) (off : Nat) (ha : Nat) (tr : Int64) (a : Int32) (hbad : ¬ a.toInt = 0 ∧ ¬ a.toInt = 1) : CfR l yX3_imageOf wsX3_imageOf rm_X3_imageOf_bad G [.ref x, .int a] [(x, .inr (3, [.ref tx, .ref o, .ref o1, .ref o2, .int (nI pa), .int (nI pt), .int (nI off), .int (nI ha), .long tr]))] .null [(x, .inr (3, [.ref tx, .ref o, .ref o1, .ref o2, .int (nI pa), .int (nI pt), .int (nI off), .int (nI ha), .long tr]))] := by
  refine CfR.go (cc := cX3_imageOf) (maxL := 2) RX3 rfl (by decide) rfl (Nat.le_of_ble_eq_true rfl) (Or.inl rfl) ?_
  intro p e s m args below meth c A Q ls E hw hl hret
  have hx := E.1
  have hb := E.2.1
  have hl : lv_has ls 2 [(0, .ref x), (1, .int a)] := hl
  refine lv_iload_n hx hb dX3_imageOf_0 rfl (lv_at hl 1 rfl) ?_
  rcases (show (¬ a.toInt = 0 ∧ ¬ a.toInt = 1) by omega) with c_1
  · refine x_lk E rfl (L := [(0, 27), (1, 32)]) (off := 37) (tgt := 38) dX3_imageOf_1 rfl rfl (by rw [Op.lookupswitch.offset_cons, if_neg (fun q => c_1.1 q.symm)]; rw [Op.lookupswitch.offset_cons, if_neg (fun q => c_1.2 q.symm)]; rfl) (by decide) ?_
    refine lv_null hx hb dX3_imageOf_38 ?_
    exact hret _ _ _ _ dX3_imageOf_39 hw

abbrev rm_X3_keep_bad : Room := { frames := 1, cells := 0, slots := 0, locals := 21 }
set_option maxHeartbeats 4000000 in
set_option maxRecDepth 100000 in
theorem c_X3_keep_bad (l : Launch) (G : XG) (x : Nat) (tx : Nat) (o : Nat) (o1 : Nat) (o2 : Nat) (pa : Nat) (pt : Nat) (off : Nat) (ha : Nat) (tr : Int64) (a : Int32) (hbad : ¬ a.toInt = 0 ∧ ¬ a.toInt = 1) : CfI l yX3_keep wsX3_keep rm_X3_keep_bad G [.ref x, .int a] [(x, .inr (3, [.ref tx, .ref o, .ref o1, .ref o2, .int (nI pa), .int (nI pt), .int (nI off), .int (nI ha), .long tr]))] (-1 : Int32) [(x, .inr (3, [.ref tx, .ref o, .ref o1, .ref o2, .int (nI pa), .int (nI pt), .int (nI off), .int (nI ha), .long tr]))] := by
  refine CtI.go (cc := cX3_keep) (maxL := 3) RX3 rfl (by decide) rfl (Nat.le_of_ble_eq_true rfl) ?_
  intro p e s m args below meth c A Q ls E hw hl hret
  have hx := E.1
  have hb := E.2.1
  have hl : lv_has ls 3 [(0, .ref x), (1, .int a)] := hl
  refine lv_aload_n hx hb dX3_keep_0 rfl (lv_at hl 0 rfl) ?_
  refine lv_iload_n hx hb dX3_keep_1 rfl (lv_at hl 1 rfl) ?_
  refine x_cfVr E hw hl.1 (As := [.int a]) (rest := []) (c_X3_imageOf_bad l G x tx o o1 o2 pa pt off ha tr a hbad) 1 gX3_keep_X3_imageOf rfl rfl rfl (by decide) ⟨Nat.le_of_ble_eq_true rfl, Nat.le_of_ble_eq_true rfl⟩ ⟨Nat.le_of_ble_eq_true rfl, Nat.le_of_ble_eq_true rfl⟩ rfl 0 (ci := 3) (C := RX3) (T := TX3) (N := 9) rfl rfl [0] [] rfl rfl rfl rfl rfl [0] [(x, .inr (3, [.ref tx, .ref o, .ref o1, .ref o2, .int (nI pa), .int (nI pt), .int (nI off), .int (nI ha), .long tr]))] rfl rfl rfl (Nat.le_of_ble_eq_true rfl) dX3_keep_2 (fun H locs hw => ?_)
  refine lv_astore_nN (lv' := [(2, .null), (0, .ref x), (1, .int a)]) hx hb dX3_keep_5 rfl hl (by decide) rfl (fun ls hl => ?_)
  refine lv_aload_nN hx hb dX3_keep_6 rfl (lv_at hl 0 rfl) ?_
  refine lv_ifnonnullN hx hb dX3_keep_7 ?_
  refine lv_iconst (v := (-1 : Int32)) hx hb dX3_keep_10 (by decide) ?_
  exact hret (-1 : Int32) () _ _ _ _ dX3_keep_11 rfl rfl hw

abbrev rm_X3_back_bad : Room := { frames := 1, cells := 0, slots := 0, locals := 21 }
set_option maxHeartbeats 4000000 in
set_option maxRecDepth 100000 in
theorem c_X3_back_bad (l : Launch) (G : XG) (x : Nat) (tx : Nat) (o : Nat) (o1 : Nat) (o2 : Nat) (pa : Nat) (pt : Nat) (off : Nat) (ha : Nat) (tr : Int64) (a : Int32) (hbad : ¬ a.toInt = 0 ∧ ¬ a.toInt = 1) : CfI l yX3_back wsX3_back rm_X3_back_bad G [.ref x, .int a] [(x, .inr (3, [.ref tx, .ref o, .ref o1, .ref o2, .int (nI pa), .int (nI pt), .int (nI off), .int (nI ha), .long tr]))] (-1 : Int32) [(x, .inr (3, [.ref tx, .ref o, .ref o1, .ref o2, .int (nI pa), .int (nI pt), .int (nI off), .int (nI ha), .long tr]))] := by
  refine CtI.go (cc := cX3_back) (maxL := 3) RX3 rfl (by decide) rfl (Nat.le_of_ble_eq_true rfl) ?_
  intro p e s m args below meth c A Q ls E hw hl hret
  have hx := E.1
  have hb := E.2.1
  have hl : lv_has ls 3 [(0, .ref x), (1, .int a)] := hl
  refine lv_aload_n hx hb dX3_back_0 rfl (lv_at hl 0 rfl) ?_
  refine lv_iload_n hx hb dX3_back_1 rfl (lv_at hl 1 rfl) ?_
  refine x_cfVr E hw hl.1 (As := [.int a]) (rest := []) (c_X3_imageOf_bad l G x tx o o1 o2 pa pt off ha tr a hbad) 1 gX3_back_X3_imageOf rfl rfl rfl (by decide) ⟨Nat.le_of_ble_eq_true rfl, Nat.le_of_ble_eq_true rfl⟩ ⟨Nat.le_of_ble_eq_true rfl, Nat.le_of_ble_eq_true rfl⟩ rfl 0 (ci := 3) (C := RX3) (T := TX3) (N := 9) rfl rfl [0] [] rfl rfl rfl rfl rfl [0] [(x, .inr (3, [.ref tx, .ref o, .ref o1, .ref o2, .int (nI pa), .int (nI pt), .int (nI off), .int (nI ha), .long tr]))] rfl rfl rfl (Nat.le_of_ble_eq_true rfl) dX3_back_2 (fun H locs hw => ?_)
  refine lv_astore_nN (lv' := [(2, .null), (0, .ref x), (1, .int a)]) hx hb dX3_back_5 rfl hl (by decide) rfl (fun ls hl => ?_)
  refine lv_aload_nN hx hb dX3_back_6 rfl (lv_at hl 0 rfl) ?_
  refine lv_ifnonnullN hx hb dX3_back_7 ?_
  refine lv_iconst (v := (-1 : Int32)) hx hb dX3_back_10 (by decide) ?_
  exact hret (-1 : Int32) () _ _ _ _ dX3_back_11 rfl rfl hw

abbrev rm_X3_keep_0 : Room := { frames := 3, cells := 0, slots := 0, locals := 65 }
set_option maxHeartbeats 4000000 in
set_option maxRecDepth 100000 in
theorem c_X3_keep_0 (l : Launch) (G : XG) (x : Nat) (tx : Nat) (o : Nat) (o1 : Nat) (o2 : Nat) (pa : Nat) (pt : Nat) (off : Nat) (ha : Nat) (tr : Int64) (r0 : Nat) (r1 : Nat) (r2 : Nat) (r3 : Nat) (r4 : Nat) (q0 : Nat) (q1 : Nat) (q2 : Nat) (q3 : Nat) (q4 : Nat) (s0 : Nat) (s1 : Nat) (s2 : Nat) (s3 : Nat) (s4 : Nat) (t0 : Nat) (t1 : Nat) (t2 : Nat) (t3 : Nat) (t4 : Nat) (n : Nat) (nl : Nat) (ns : Nat) (n2 : Nat) (nl2 : Nat) (ns2 : Nat) (gw : Nat → Nat) (go : Nat → Nat) (gh : Nat → Nat) (gl : Nat → Nat) (gs : Nat → Nat) (gw2 : Nat → Nat) (go2 : Nat → Nat) (gh2 : Nat → Nat) (gl2 : Nat → Nat) (gs2 : Nat → Nat) (hn : n ≤ 23) (hnl : nl ≤ 12) (hns : ns ≤ 8) : CfI l yX3_keep wsX3_keep rm_X3_keep_0 G [.ref x, .int (nI 0)] [(x, .inr (3, [.ref tx, .ref o, .ref o1, .ref o2, .int (nI pa), .int (nI pt), .int (nI off), .int (nI ha), .long tr])), (o, .inr (0, [.ref r0, .ref r1, .ref r2, .ref r3, .ref r4])), (r0, .inr (1, [.ref q0, .int (nI n)])), (q0, .inl (cJ G, 23, .inr (.inl (fJ gw)))), (r1, .inr (1, [.ref q1, .int (nI n)])), (q1, .inl (cJ G, 23, .inr (.inl (fJ go)))), (r2, .inr (1, [.ref q2, .int (nI n)])), (q2, .inl (cJ G, 23, .inr (.inl (fJ gh)))), (r3, .inr (1, [.ref q3, .int (nI nl)])), (q3, .inl (cJ G, 12, .inr (.inl (fJ gl)))), (r4, .inr (1, [.ref q4, .int (nI ns)])), (q4, .inl (cJ G, 8, .inr (.inl (fJ gs)))), (o1, .inr (0, [.ref s0, .ref s1, .ref s2, .ref s3, .ref s4])), (s0, .inr (1, [.ref t0, .int (nI n2)])), (t0, .inl (cJ G, 23, .inr (.inl (fJ gw2)))), (s1, .inr (1, [.ref t1, .int (nI n2)])), (t1, .inl (cJ G, 23, .inr (.inl (fJ go2)))), (s2, .inr (1, [.ref t2, .int (nI n2)])), (t2, .inl (cJ G, 23, .inr (.inl (fJ gh2)))), (s3, .inr (1, [.ref t3, .int (nI nl2)])), (t3, .inl (cJ G, 12, .inr (.inl (fJ gl2)))), (s4, .inr (1, [.ref t4, .int (nI ns2)])), (t4, .inl (cJ G, 8, .inr (.inl (fJ gs2))))] (nI n) [(x, .inr (3, [.ref tx, .ref o, .ref o1, .ref o2, .int (nI pa), .int (nI pt), .int (nI off), .int (nI ha), .long tr])), (o, .inr (0, [.ref r0, .ref r1, .ref r2, .ref r3, .ref r4])), (r0, .inr (1, [.ref q0, .int (nI n)])), (q0, .inl (cJ G, 23, .inr (.inl (fJ gw)))), (r1, .inr (1, [.ref q1, .int (nI n)])), (q1, .inl (cJ G, 23, .inr (.inl (fJ go)))), (r2, .inr (1, [.ref q2, .int (nI n)])), (q2, .inl (cJ G, 23, .inr (.inl (fJ gh)))), (r3, .inr (1, [.ref q3, .int (nI nl)])), (q3, .inl (cJ G, 12, .inr (.inl (fJ gl)))), (r4, .inr (1, [.ref q4, .int (nI ns)])), (q4, .inl (cJ G, 8, .inr (.inl (fJ gs)))), (o1, .inr (0, [.ref s0, .ref s1, .ref s2, .ref s3, .ref s4])), (s0, .inr (1, [.ref t0, .int (nI n)])), (t0, .inl (cJ G, 23, .inr (.inl (fJ (cpN gw gw2 n))))), (s1, .inr (1, [.ref t1, .int (nI n)])), (t1, .inl (cJ G, 23, .inr (.inl (fJ (cpN go go2 n))))), (s2, .inr (1, [.ref t2, .int (nI n)])), (t2, .inl (cJ G, 23, .inr (.inl (fJ (cpN gh gh2 n))))), (s3, .inr (1, [.ref t3, .int (nI nl)])), (t3, .inl (cJ G, 12, .inr (.inl (fJ (cpN gl gl2 nl))))), (s4, .inr (1, [.ref t4, .int (nI ns)])), (t4, .inl (cJ G, 8, .inr (.inl (fJ (cpN gs gs2 ns)))))] := by
  refine CtI.go (cc := cX3_keep) (maxL := 3) RX3 rfl (by decide) rfl (Nat.le_of_ble_eq_true rfl) ?_
  intro p e s m args below meth c A Q ls E hw hl hret
  have hx := E.1
  have hb := E.2.1
  have hinX3 : ∀ w ∈ wsX30, w ∈ wsX3_keep := (fun w h => List.mem_cons_of_mem _ (List.mem_append_left _ (List.mem_append_left _ (List.mem_append_right _ h))))
  have hl : lv_has ls 3 [(0, .ref x), (1, .int (nI 0))] := hl
  refine lv_aload_n hx hb dX3_keep_0 rfl (lv_at hl 0 rfl) ?_
  refine lv_iload_n hx hb dX3_keep_1 rfl (lv_at hl 1 rfl) ?_
  refine x_cfVr E hw hl.1 (As := [.int (nI 0)]) (rest := []) (c_X3_imageOf_0 l G x tx o o1 o2 pa pt off ha tr) 1 gX3_keep_X3_imageOf rfl rfl rfl (by decide) ⟨Nat.le_of_ble_eq_true rfl, Nat.le_of_ble_eq_true rfl⟩ ⟨Nat.le_of_ble_eq_true rfl, Nat.le_of_ble_eq_true rfl⟩ rfl 0 (ci := 3) (C := RX3) (T := TX3) (N := 9) rfl rfl [0] [1, 2, 3, 4, 5, 6, 7, 8, 9, 10, 11, 12, 13, 14, 15, 16, 17, 18, 19, 20, 21, 22] rfl rfl rfl rfl rfl [22, 0, 1, 2, 3, 4, 5, 6, 7, 8, 9, 10, 11, 12, 13, 14, 15, 16, 17, 18, 19, 20, 21] [(x, .inr (3, [.ref tx, .ref o, .ref o1, .ref o2, .int (nI pa), .int (nI pt), .int (nI off), .int (nI ha), .long tr])), (o, .inr (0, [.ref r0, .ref r1, .ref r2, .ref r3, .ref r4])), (r0, .inr (1, [.ref q0, .int (nI n)])), (q0, .inl (cJ G, 23, .inr (.inl (fJ gw)))), (r1, .inr (1, [.ref q1, .int (nI n)])), (q1, .inl (cJ G, 23, .inr (.inl (fJ go)))), (r2, .inr (1, [.ref q2, .int (nI n)])), (q2, .inl (cJ G, 23, .inr (.inl (fJ gh)))), (r3, .inr (1, [.ref q3, .int (nI nl)])), (q3, .inl (cJ G, 12, .inr (.inl (fJ gl)))), (r4, .inr (1, [.ref q4, .int (nI ns)])), (q4, .inl (cJ G, 8, .inr (.inl (fJ gs)))), (o1, .inr (0, [.ref s0, .ref s1, .ref s2, .ref s3, .ref s4])), (s0, .inr (1, [.ref t0, .int (nI n2)])), (t0, .inl (cJ G, 23, .inr (.inl (fJ gw2)))), (s1, .inr (1, [.ref t1, .int (nI n2)])), (t1, .inl (cJ G, 23, .inr (.inl (fJ go2)))), (s2, .inr (1, [.ref t2, .int (nI n2)])), (t2, .inl (cJ G, 23, .inr (.inl (fJ gh2)))), (s3, .inr (1, [.ref t3, .int (nI nl2)])), (t3, .inl (cJ G, 12, .inr (.inl (fJ gl2)))), (s4, .inr (1, [.ref t4, .int (nI ns2)])), (t4, .inl (cJ G, 8, .inr (.inl (fJ gs2))))] rfl rfl rfl (Nat.le_of_ble_eq_true rfl) dX3_keep_2 (fun H locs hw => ?_)
  refine lv_astore_n (lv' := [(2, .ref o1), (0, .ref x), (1, .int (nI 0))]) hx hb dX3_keep_5 rfl hl (by decide) rfl (fun ls hl => ?_)
  refine lv_aload_n hx hb dX3_keep_6 rfl (lv_at hl 0 rfl) ?_
  refine lv_ifnonnull (tgt := 12) hx hb dX3_keep_7 (by decide) ?_
  refine lv_aload_n hx hb dX3_keep_12 rfl (lv_at hl 0 rfl) ?_
  refine lv_aload_n hx hb dX3_keep_13 rfl (lv_at hl 1 rfl) ?_
  refine x_get E hw (C := RX3) (T := TX3) (N := 9) hinX3 0 rfl rfl 1 (by decide) rfl (List.mem_of_getElem? (i := 1) rfl) dX3_keep_14 ?_
  refine x_cfVv E hw hl.1 (As := [.ref o]) (rest := []) (c_X0_copy l G o1 s0 s1 s2 s3 s4 t0 t1 t2 t3 t4 o r0 r1 r2 r3 r4 q0 q1 q2 q3 q4 n2 nl2 ns2 n nl ns gw2 go2 gh2 gl2 gs2 gw go gh gl gs (by omega) (by omega) (by omega)) 1 gX3_keep_X0_copy rfl rfl rfl (by decide) ⟨Nat.le_of_ble_eq_true rfl, Nat.le_of_ble_eq_true rfl⟩ ⟨Nat.le_of_ble_eq_true rfl, Nat.le_of_ble_eq_true rfl⟩ rfl 12 (ci := 0) (C := RX0) (T := TX0) (N := 5) rfl rfl [12, 13, 14, 15, 16, 17, 18, 19, 20, 21, 22, 1, 2, 3, 4, 5, 6, 7, 8, 9, 10, 11] [0] rfl rfl rfl rfl rfl [0, 12, 13, 14, 15, 16, 17, 18, 19, 20, 21, 22, 1, 2, 3, 4, 5, 6, 7, 8, 9, 10, 11] [(x, .inr (3, [.ref tx, .ref o, .ref o1, .ref o2, .int (nI pa), .int (nI pt), .int (nI off), .int (nI ha), .long tr])), (o, .inr (0, [.ref r0, .ref r1, .ref r2, .ref r3, .ref r4])), (r0, .inr (1, [.ref q0, .int (nI n)])), (q0, .inl (cJ G, 23, .inr (.inl (fJ gw)))), (r1, .inr (1, [.ref q1, .int (nI n)])), (q1, .inl (cJ G, 23, .inr (.inl (fJ go)))), (r2, .inr (1, [.ref q2, .int (nI n)])), (q2, .inl (cJ G, 23, .inr (.inl (fJ gh)))), (r3, .inr (1, [.ref q3, .int (nI nl)])), (q3, .inl (cJ G, 12, .inr (.inl (fJ gl)))), (r4, .inr (1, [.ref q4, .int (nI ns)])), (q4, .inl (cJ G, 8, .inr (.inl (fJ gs)))), (o1, .inr (0, [.ref s0, .ref s1, .ref s2, .ref s3, .ref s4])), (s0, .inr (1, [.ref t0, .int (nI n)])), (t0, .inl (cJ G, 23, .inr (.inl (fJ (cpN gw gw2 n))))), (s1, .inr (1, [.ref t1, .int (nI n)])), (t1, .inl (cJ G, 23, .inr (.inl (fJ (cpN go go2 n))))), (s2, .inr (1, [.ref t2, .int (nI n)])), (t2, .inl (cJ G, 23, .inr (.inl (fJ (cpN gh gh2 n))))), (s3, .inr (1, [.ref t3, .int (nI nl)])), (t3, .inl (cJ G, 12, .inr (.inl (fJ (cpN gl gl2 nl))))), (s4, .inr (1, [.ref t4, .int (nI ns)])), (t4, .inl (cJ G, 8, .inr (.inl (fJ (cpN gs gs2 ns)))))] rfl rfl rfl (Nat.le_of_ble_eq_true rfl) dX3_keep_17 (fun H locs hw => ?_)
  refine lv_aload_n hx hb dX3_keep_20 rfl (lv_at hl 1 rfl) ?_
  refine x_get E hw (C := RX3) (T := TX3) (N := 9) hinX3 0 rfl rfl 1 (by decide) rfl (List.mem_of_getElem? (i := 1) rfl) dX3_keep_21 ?_
  refine x_cfVi E hw hl.1 (As := []) (rest := []) (c_X0_creases l G o r0 r1 r2 r3 r4 q0 n) 0 gX3_keep_X0_creases rfl rfl rfl (by decide) ⟨Nat.le_of_ble_eq_true rfl, Nat.le_of_ble_eq_true rfl⟩ ⟨Nat.le_of_ble_eq_true rfl, Nat.le_of_ble_eq_true rfl⟩ rfl 1 (ci := 0) (C := RX0) (T := TX0) (N := 5) rfl rfl [1, 2] [0, 3, 4, 5, 6, 7, 8, 9, 10, 11, 12, 13, 14, 15, 16, 17, 18, 19, 20, 21, 22] rfl rfl rfl rfl rfl [0, 21, 22, 1, 2, 3, 4, 5, 6, 7, 8, 9, 10, 11, 12, 13, 14, 15, 16, 17, 18, 19, 20] [(x, .inr (3, [.ref tx, .ref o, .ref o1, .ref o2, .int (nI pa), .int (nI pt), .int (nI off), .int (nI ha), .long tr])), (o, .inr (0, [.ref r0, .ref r1, .ref r2, .ref r3, .ref r4])), (r0, .inr (1, [.ref q0, .int (nI n)])), (q0, .inl (cJ G, 23, .inr (.inl (fJ gw)))), (r1, .inr (1, [.ref q1, .int (nI n)])), (q1, .inl (cJ G, 23, .inr (.inl (fJ go)))), (r2, .inr (1, [.ref q2, .int (nI n)])), (q2, .inl (cJ G, 23, .inr (.inl (fJ gh)))), (r3, .inr (1, [.ref q3, .int (nI nl)])), (q3, .inl (cJ G, 12, .inr (.inl (fJ gl)))), (r4, .inr (1, [.ref q4, .int (nI ns)])), (q4, .inl (cJ G, 8, .inr (.inl (fJ gs)))), (o1, .inr (0, [.ref s0, .ref s1, .ref s2, .ref s3, .ref s4])), (s0, .inr (1, [.ref t0, .int (nI n)])), (t0, .inl (cJ G, 23, .inr (.inl (fJ (cpN gw gw2 n))))), (s1, .inr (1, [.ref t1, .int (nI n)])), (t1, .inl (cJ G, 23, .inr (.inl (fJ (cpN go go2 n))))), (s2, .inr (1, [.ref t2, .int (nI n)])), (t2, .inl (cJ G, 23, .inr (.inl (fJ (cpN gh gh2 n))))), (s3, .inr (1, [.ref t3, .int (nI nl)])), (t3, .inl (cJ G, 12, .inr (.inl (fJ (cpN gl gl2 nl))))), (s4, .inr (1, [.ref t4, .int (nI ns)])), (t4, .inl (cJ G, 8, .inr (.inl (fJ (cpN gs gs2 ns)))))] rfl rfl rfl (Nat.le_of_ble_eq_true rfl) dX3_keep_24 (fun H locs hw => ?_)
  exact hret (nI n) () _ _ _ _ dX3_keep_27 rfl rfl hw

abbrev rm_X3_back_state_0 : Room := { frames := 2, cells := 0, slots := 0, locals := 40 }
set_option maxHeartbeats 4000000 in
set_option maxRecDepth 100000 in
theorem c_X3_back_state_0 (l : Launch) (G : XG) (x : Nat) (tx : Nat) (o : Nat) (o1 : Nat) (o2 : Nat) (pa : Nat) (pt : Nat) (off : Nat) (ha : Nat) (tr : Int64) (s0 : Nat) (s1 : Nat) (s2 : Nat) (s3 : Nat) (s4 : Nat) (t0 : Nat)  : CfI l yX3_back wsX3_back rm_X3_back_state_0 G [.ref x, .int (nI 0)] [(x, .inr (3, [.ref tx, .ref o, .ref o1, .ref o2, .int (nI pa), .int (nI pt), .int (nI off), .int (nI ha), .long tr])), (o1, .inr (0, [.ref s0, .ref s1, .ref s2, .ref s3, .ref s4])), (s0, .inr (1, [.ref t0, .int (nI 0)]))] (-2 : Int32) [(x, .inr (3, [.ref tx, .ref o, .ref o1, .ref o2, .int (nI pa), .int (nI pt), .int (nI off), .int (nI ha), .long tr])), (o1, .inr (0, [.ref s0, .ref s1, .ref s2, .ref s3, .ref s4])), (s0, .inr (1, [.ref t0, .int (nI 0)]))] := by
  refine CtI.go (cc := cX3_back) (maxL := 3) RX3 rfl (by decide) rfl (Nat.le_of_ble_eq_true rfl) ?_
  intro p e s m args below meth c A Q ls E hw hl hret
  have hx := E.1
  have hb := E.2.1
  have hl : lv_has ls 3 [(0, .ref x), (1, .int (nI 0))] := hl
  refine lv_aload_n hx hb dX3_back_0 rfl (lv_at hl 0 rfl) ?_
  refine lv_iload_n hx hb dX3_back_1 rfl (lv_at hl 1 rfl) ?_
  refine x_cfVr E hw hl.1 (As := [.int (nI 0)]) (rest := []) (c_X3_imageOf_0 l G x tx o o1 o2 pa pt off ha tr) 1 gX3_back_X3_imageOf rfl rfl rfl (by decide) ⟨Nat.le_of_ble_eq_true rfl, Nat.le_of_ble_eq_true rfl⟩ ⟨Nat.le_of_ble_eq_true rfl, Nat.le_of_ble_eq_true rfl⟩ rfl 0 (ci := 3) (C := RX3) (T := TX3) (N := 9) rfl rfl [0] [1, 2] rfl rfl rfl rfl rfl [2, 0, 1] [(x, .inr (3, [.ref tx, .ref o, .ref o1, .ref o2, .int (nI pa), .int (nI pt), .int (nI off), .int (nI ha), .long tr])), (o1, .inr (0, [.ref s0, .ref s1, .ref s2, .ref s3, .ref s4])), (s0, .inr (1, [.ref t0, .int (nI 0)]))] rfl rfl rfl (Nat.le_of_ble_eq_true rfl) dX3_back_2 (fun H locs hw => ?_)
  refine lv_astore_n (lv' := [(2, .ref o1), (0, .ref x), (1, .int (nI 0))]) hx hb dX3_back_5 rfl hl (by decide) rfl (fun ls hl => ?_)
  refine lv_aload_n hx hb dX3_back_6 rfl (lv_at hl 0 rfl) ?_
  refine lv_ifnonnull (tgt := 12) hx hb dX3_back_7 (by decide) ?_
  refine lv_aload_n hx hb dX3_back_12 rfl (lv_at hl 0 rfl) ?_
  refine x_cfVi E hw hl.1 (As := []) (rest := []) (c_X0_creases l G o1 s0 s1 s2 s3 s4 t0 0) 0 gX3_back_X0_creases rfl rfl rfl (by decide) ⟨Nat.le_of_ble_eq_true rfl, Nat.le_of_ble_eq_true rfl⟩ ⟨Nat.le_of_ble_eq_true rfl, Nat.le_of_ble_eq_true rfl⟩ rfl 1 (ci := 0) (C := RX0) (T := TX0) (N := 5) rfl rfl [1, 2] [0] rfl rfl rfl rfl rfl [0, 1, 2] [(x, .inr (3, [.ref tx, .ref o, .ref o1, .ref o2, .int (nI pa), .int (nI pt), .int (nI off), .int (nI ha), .long tr])), (o1, .inr (0, [.ref s0, .ref s1, .ref s2, .ref s3, .ref s4])), (s0, .inr (1, [.ref t0, .int (nI 0)]))] rfl rfl rfl (Nat.le_of_ble_eq_true rfl) dX3_back_13 (fun H locs hw => ?_)
  refine x_if_ne E (nI_toI (by decide)) (tgt := 22) dX3_back_16 (by decide) (fun c_1 => ?_) (fun c_1 => ?_)
  · exfalso; omega
  · refine lv_bipush (v := (-2 : Int32)) hx hb dX3_back_19 (by decide) ?_
    exact hret (-2 : Int32) () _ _ _ _ dX3_back_21 rfl rfl hw

abbrev rm_X3_back_ok_0 : Room := { frames := 3, cells := 0, slots := 0, locals := 65 }
set_option maxHeartbeats 4000000 in
set_option maxRecDepth 100000 in
theorem c_X3_back_ok_0 (l : Launch) (G : XG) (x : Nat) (tx : Nat) (o : Nat) (o1 : Nat) (o2 : Nat) (pa : Nat) (pt : Nat) (off : Nat) (ha : Nat) (tr : Int64) (r0 : Nat) (r1 : Nat) (r2 : Nat) (r3 : Nat) (r4 : Nat) (q0 : Nat) (q1 : Nat) (q2 : Nat) (q3 : Nat) (q4 : Nat) (s0 : Nat) (s1 : Nat) (s2 : Nat) (s3 : Nat) (s4 : Nat) (t0 : Nat) (t1 : Nat) (t2 : Nat) (t3 : Nat) (t4 : Nat) (n : Nat) (nl : Nat) (ns : Nat) (n2 : Nat) (nl2 : Nat) (ns2 : Nat) (gw : Nat → Nat) (go : Nat → Nat) (gh : Nat → Nat) (gl : Nat → Nat) (gs : Nat → Nat) (gw2 : Nat → Nat) (go2 : Nat → Nat) (gh2 : Nat → Nat) (gl2 : Nat → Nat) (gs2 : Nat → Nat) (hn : n2 ≤ 23) (hn1 : 1 ≤ n2) (hnl : nl2 ≤ 12) (hns : ns2 ≤ 8) : CfI l yX3_back wsX3_back rm_X3_back_ok_0 G [.ref x, .int (nI 0)] [(x, .inr (3, [.ref tx, .ref o, .ref o1, .ref o2, .int (nI pa), .int (nI pt), .int (nI off), .int (nI ha), .long tr])), (o, .inr (0, [.ref r0, .ref r1, .ref r2, .ref r3, .ref r4])), (r0, .inr (1, [.ref q0, .int (nI n)])), (q0, .inl (cJ G, 23, .inr (.inl (fJ gw)))), (r1, .inr (1, [.ref q1, .int (nI n)])), (q1, .inl (cJ G, 23, .inr (.inl (fJ go)))), (r2, .inr (1, [.ref q2, .int (nI n)])), (q2, .inl (cJ G, 23, .inr (.inl (fJ gh)))), (r3, .inr (1, [.ref q3, .int (nI nl)])), (q3, .inl (cJ G, 12, .inr (.inl (fJ gl)))), (r4, .inr (1, [.ref q4, .int (nI ns)])), (q4, .inl (cJ G, 8, .inr (.inl (fJ gs)))), (o1, .inr (0, [.ref s0, .ref s1, .ref s2, .ref s3, .ref s4])), (s0, .inr (1, [.ref t0, .int (nI n2)])), (t0, .inl (cJ G, 23, .inr (.inl (fJ gw2)))), (s1, .inr (1, [.ref t1, .int (nI n2)])), (t1, .inl (cJ G, 23, .inr (.inl (fJ go2)))), (s2, .inr (1, [.ref t2, .int (nI n2)])), (t2, .inl (cJ G, 23, .inr (.inl (fJ gh2)))), (s3, .inr (1, [.ref t3, .int (nI nl2)])), (t3, .inl (cJ G, 12, .inr (.inl (fJ gl2)))), (s4, .inr (1, [.ref t4, .int (nI ns2)])), (t4, .inl (cJ G, 8, .inr (.inl (fJ gs2))))] (nI n2) [(x, .inr (3, [.ref tx, .ref o, .ref o1, .ref o2, .int (nI pa), .int (nI pt), .int (nI off), .int (nI ha), .long tr])), (o, .inr (0, [.ref r0, .ref r1, .ref r2, .ref r3, .ref r4])), (r0, .inr (1, [.ref q0, .int (nI n2)])), (q0, .inl (cJ G, 23, .inr (.inl (fJ (cpN gw2 gw n2))))), (r1, .inr (1, [.ref q1, .int (nI n2)])), (q1, .inl (cJ G, 23, .inr (.inl (fJ (cpN go2 go n2))))), (r2, .inr (1, [.ref q2, .int (nI n2)])), (q2, .inl (cJ G, 23, .inr (.inl (fJ (cpN gh2 gh n2))))), (r3, .inr (1, [.ref q3, .int (nI nl2)])), (q3, .inl (cJ G, 12, .inr (.inl (fJ (cpN gl2 gl nl2))))), (r4, .inr (1, [.ref q4, .int (nI ns2)])), (q4, .inl (cJ G, 8, .inr (.inl (fJ (cpN gs2 gs ns2))))), (o1, .inr (0, [.ref s0, .ref s1, .ref s2, .ref s3, .ref s4])), (s0, .inr (1, [.ref t0, .int (nI n2)])), (t0, .inl (cJ G, 23, .inr (.inl (fJ gw2)))), (s1, .inr (1, [.ref t1, .int (nI n2)])), (t1, .inl (cJ G, 23, .inr (.inl (fJ go2)))), (s2, .inr (1, [.ref t2, .int (nI n2)])), (t2, .inl (cJ G, 23, .inr (.inl (fJ gh2)))), (s3, .inr (1, [.ref t3, .int (nI nl2)])), (t3, .inl (cJ G, 12, .inr (.inl (fJ gl2)))), (s4, .inr (1, [.ref t4, .int (nI ns2)])), (t4, .inl (cJ G, 8, .inr (.inl (fJ gs2))))] := by
  refine CtI.go (cc := cX3_back) (maxL := 3) RX3 rfl (by decide) rfl (Nat.le_of_ble_eq_true rfl) ?_
  intro p e s m args below meth c A Q ls E hw hl hret
  have hx := E.1
  have hb := E.2.1
  have hinX3 : ∀ w ∈ wsX30, w ∈ wsX3_back := (fun w h => List.mem_cons_of_mem _ (List.mem_append_left _ (List.mem_append_left _ (List.mem_append_right _ h))))
  have hl : lv_has ls 3 [(0, .ref x), (1, .int (nI 0))] := hl
  refine lv_aload_n hx hb dX3_back_0 rfl (lv_at hl 0 rfl) ?_
  refine lv_iload_n hx hb dX3_back_1 rfl (lv_at hl 1 rfl) ?_
  refine x_cfVr E hw hl.1 (As := [.int (nI 0)]) (rest := []) (c_X3_imageOf_0 l G x tx o o1 o2 pa pt off ha tr) 1 gX3_back_X3_imageOf rfl rfl rfl (by decide) ⟨Nat.le_of_ble_eq_true rfl, Nat.le_of_ble_eq_true rfl⟩ ⟨Nat.le_of_ble_eq_true rfl, Nat.le_of_ble_eq_true rfl⟩ rfl 0 (ci := 3) (C := RX3) (T := TX3) (N := 9) rfl rfl [0] [1, 2, 3, 4, 5, 6, 7, 8, 9, 10, 11, 12, 13, 14, 15, 16, 17, 18, 19, 20, 21, 22] rfl rfl rfl rfl rfl [22, 0, 1, 2, 3, 4, 5, 6, 7, 8, 9, 10, 11, 12, 13, 14, 15, 16, 17, 18, 19, 20, 21] [(x, .inr (3, [.ref tx, .ref o, .ref o1, .ref o2, .int (nI pa), .int (nI pt), .int (nI off), .int (nI ha), .long tr])), (o, .inr (0, [.ref r0, .ref r1, .ref r2, .ref r3, .ref r4])), (r0, .inr (1, [.ref q0, .int (nI n)])), (q0, .inl (cJ G, 23, .inr (.inl (fJ gw)))), (r1, .inr (1, [.ref q1, .int (nI n)])), (q1, .inl (cJ G, 23, .inr (.inl (fJ go)))), (r2, .inr (1, [.ref q2, .int (nI n)])), (q2, .inl (cJ G, 23, .inr (.inl (fJ gh)))), (r3, .inr (1, [.ref q3, .int (nI nl)])), (q3, .inl (cJ G, 12, .inr (.inl (fJ gl)))), (r4, .inr (1, [.ref q4, .int (nI ns)])), (q4, .inl (cJ G, 8, .inr (.inl (fJ gs)))), (o1, .inr (0, [.ref s0, .ref s1, .ref s2, .ref s3, .ref s4])), (s0, .inr (1, [.ref t0, .int (nI n2)])), (t0, .inl (cJ G, 23, .inr (.inl (fJ gw2)))), (s1, .inr (1, [.ref t1, .int (nI n2)])), (t1, .inl (cJ G, 23, .inr (.inl (fJ go2)))), (s2, .inr (1, [.ref t2, .int (nI n2)])), (t2, .inl (cJ G, 23, .inr (.inl (fJ gh2)))), (s3, .inr (1, [.ref t3, .int (nI nl2)])), (t3, .inl (cJ G, 12, .inr (.inl (fJ gl2)))), (s4, .inr (1, [.ref t4, .int (nI ns2)])), (t4, .inl (cJ G, 8, .inr (.inl (fJ gs2))))] rfl rfl rfl (Nat.le_of_ble_eq_true rfl) dX3_back_2 (fun H locs hw => ?_)
  refine lv_astore_n (lv' := [(2, .ref o1), (0, .ref x), (1, .int (nI 0))]) hx hb dX3_back_5 rfl hl (by decide) rfl (fun ls hl => ?_)
  refine lv_aload_n hx hb dX3_back_6 rfl (lv_at hl 0 rfl) ?_
  refine lv_ifnonnull (tgt := 12) hx hb dX3_back_7 (by decide) ?_
  refine lv_aload_n hx hb dX3_back_12 rfl (lv_at hl 0 rfl) ?_
  refine x_cfVi E hw hl.1 (As := []) (rest := []) (c_X0_creases l G o1 s0 s1 s2 s3 s4 t0 n2) 0 gX3_back_X0_creases rfl rfl rfl (by decide) ⟨Nat.le_of_ble_eq_true rfl, Nat.le_of_ble_eq_true rfl⟩ ⟨Nat.le_of_ble_eq_true rfl, Nat.le_of_ble_eq_true rfl⟩ rfl 12 (ci := 0) (C := RX0) (T := TX0) (N := 5) rfl rfl [12, 13] [0, 1, 2, 3, 4, 5, 6, 7, 8, 9, 10, 11, 14, 15, 16, 17, 18, 19, 20, 21, 22] rfl rfl rfl rfl rfl [0, 1, 2, 3, 4, 5, 6, 7, 8, 9, 10, 11, 21, 22, 12, 13, 14, 15, 16, 17, 18, 19, 20] [(x, .inr (3, [.ref tx, .ref o, .ref o1, .ref o2, .int (nI pa), .int (nI pt), .int (nI off), .int (nI ha), .long tr])), (o, .inr (0, [.ref r0, .ref r1, .ref r2, .ref r3, .ref r4])), (r0, .inr (1, [.ref q0, .int (nI n)])), (q0, .inl (cJ G, 23, .inr (.inl (fJ gw)))), (r1, .inr (1, [.ref q1, .int (nI n)])), (q1, .inl (cJ G, 23, .inr (.inl (fJ go)))), (r2, .inr (1, [.ref q2, .int (nI n)])), (q2, .inl (cJ G, 23, .inr (.inl (fJ gh)))), (r3, .inr (1, [.ref q3, .int (nI nl)])), (q3, .inl (cJ G, 12, .inr (.inl (fJ gl)))), (r4, .inr (1, [.ref q4, .int (nI ns)])), (q4, .inl (cJ G, 8, .inr (.inl (fJ gs)))), (o1, .inr (0, [.ref s0, .ref s1, .ref s2, .ref s3, .ref s4])), (s0, .inr (1, [.ref t0, .int (nI n2)])), (t0, .inl (cJ G, 23, .inr (.inl (fJ gw2)))), (s1, .inr (1, [.ref t1, .int (nI n2)])), (t1, .inl (cJ G, 23, .inr (.inl (fJ go2)))), (s2, .inr (1, [.ref t2, .int (nI n2)])), (t2, .inl (cJ G, 23, .inr (.inl (fJ gh2)))), (s3, .inr (1, [.ref t3, .int (nI nl2)])), (t3, .inl (cJ G, 12, .inr (.inl (fJ gl2)))), (s4, .inr (1, [.ref t4, .int (nI ns2)])), (t4, .inl (cJ G, 8, .inr (.inl (fJ gs2))))] rfl rfl rfl (Nat.le_of_ble_eq_true rfl) dX3_back_13 (fun H locs hw => ?_)
  refine x_if_ne E (nI_toI (show n2 < 2147483648 by omega)) (tgt := 22) dX3_back_16 (by decide) (fun c_1 => ?_) (fun c_1 => ?_)
  · refine lv_aload_n hx hb dX3_back_22 rfl (lv_at hl 1 rfl) ?_
    refine x_get E hw (C := RX3) (T := TX3) (N := 9) hinX3 0 rfl rfl 1 (by decide) rfl (List.mem_of_getElem? (i := 1) rfl) dX3_back_23 ?_
    refine lv_aload_n hx hb dX3_back_26 rfl (lv_at hl 0 rfl) ?_
    refine x_cfVv E hw hl.1 (As := [.ref o1]) (rest := []) (c_X0_copy l G o r0 r1 r2 r3 r4 q0 q1 q2 q3 q4 o1 s0 s1 s2 s3 s4 t0 t1 t2 t3 t4 n nl ns n2 nl2 ns2 gw go gh gl gs gw2 go2 gh2 gl2 gs2 (by omega) (by omega) (by omega)) 1 gX3_back_X0_copy rfl rfl rfl (by decide) ⟨Nat.le_of_ble_eq_true rfl, Nat.le_of_ble_eq_true rfl⟩ ⟨Nat.le_of_ble_eq_true rfl, Nat.le_of_ble_eq_true rfl⟩ rfl 1 (ci := 0) (C := RX0) (T := TX0) (N := 5) rfl rfl [1, 2, 3, 4, 5, 6, 7, 8, 9, 10, 11, 12, 13, 14, 15, 16, 17, 18, 19, 20, 21, 22] [0] rfl rfl rfl rfl rfl [0, 1, 2, 3, 4, 5, 6, 7, 8, 9, 10, 11, 12, 13, 14, 15, 16, 17, 18, 19, 20, 21, 22] [(x, .inr (3, [.ref tx, .ref o, .ref o1, .ref o2, .int (nI pa), .int (nI pt), .int (nI off), .int (nI ha), .long tr])), (o, .inr (0, [.ref r0, .ref r1, .ref r2, .ref r3, .ref r4])), (r0, .inr (1, [.ref q0, .int (nI n2)])), (q0, .inl (cJ G, 23, .inr (.inl (fJ (cpN gw2 gw n2))))), (r1, .inr (1, [.ref q1, .int (nI n2)])), (q1, .inl (cJ G, 23, .inr (.inl (fJ (cpN go2 go n2))))), (r2, .inr (1, [.ref q2, .int (nI n2)])), (q2, .inl (cJ G, 23, .inr (.inl (fJ (cpN gh2 gh n2))))), (r3, .inr (1, [.ref q3, .int (nI nl2)])), (q3, .inl (cJ G, 12, .inr (.inl (fJ (cpN gl2 gl nl2))))), (r4, .inr (1, [.ref q4, .int (nI ns2)])), (q4, .inl (cJ G, 8, .inr (.inl (fJ (cpN gs2 gs ns2))))), (o1, .inr (0, [.ref s0, .ref s1, .ref s2, .ref s3, .ref s4])), (s0, .inr (1, [.ref t0, .int (nI n2)])), (t0, .inl (cJ G, 23, .inr (.inl (fJ gw2)))), (s1, .inr (1, [.ref t1, .int (nI n2)])), (t1, .inl (cJ G, 23, .inr (.inl (fJ go2)))), (s2, .inr (1, [.ref t2, .int (nI n2)])), (t2, .inl (cJ G, 23, .inr (.inl (fJ gh2)))), (s3, .inr (1, [.ref t3, .int (nI nl2)])), (t3, .inl (cJ G, 12, .inr (.inl (fJ gl2)))), (s4, .inr (1, [.ref t4, .int (nI ns2)])), (t4, .inl (cJ G, 8, .inr (.inl (fJ gs2))))] rfl rfl rfl (Nat.le_of_ble_eq_true rfl) dX3_back_27 (fun H locs hw => ?_)
    refine lv_aload_n hx hb dX3_back_30 rfl (lv_at hl 1 rfl) ?_
    refine x_get E hw (C := RX3) (T := TX3) (N := 9) hinX3 0 rfl rfl 1 (by decide) rfl (List.mem_of_getElem? (i := 1) rfl) dX3_back_31 ?_
    refine x_cfVi E hw hl.1 (As := []) (rest := []) (c_X0_creases l G o r0 r1 r2 r3 r4 q0 n2) 0 gX3_back_X0_creases rfl rfl rfl (by decide) ⟨Nat.le_of_ble_eq_true rfl, Nat.le_of_ble_eq_true rfl⟩ ⟨Nat.le_of_ble_eq_true rfl, Nat.le_of_ble_eq_true rfl⟩ rfl 1 (ci := 0) (C := RX0) (T := TX0) (N := 5) rfl rfl [1, 2] [0, 3, 4, 5, 6, 7, 8, 9, 10, 11, 12, 13, 14, 15, 16, 17, 18, 19, 20, 21, 22] rfl rfl rfl rfl rfl [0, 21, 22, 1, 2, 3, 4, 5, 6, 7, 8, 9, 10, 11, 12, 13, 14, 15, 16, 17, 18, 19, 20] [(x, .inr (3, [.ref tx, .ref o, .ref o1, .ref o2, .int (nI pa), .int (nI pt), .int (nI off), .int (nI ha), .long tr])), (o, .inr (0, [.ref r0, .ref r1, .ref r2, .ref r3, .ref r4])), (r0, .inr (1, [.ref q0, .int (nI n2)])), (q0, .inl (cJ G, 23, .inr (.inl (fJ (cpN gw2 gw n2))))), (r1, .inr (1, [.ref q1, .int (nI n2)])), (q1, .inl (cJ G, 23, .inr (.inl (fJ (cpN go2 go n2))))), (r2, .inr (1, [.ref q2, .int (nI n2)])), (q2, .inl (cJ G, 23, .inr (.inl (fJ (cpN gh2 gh n2))))), (r3, .inr (1, [.ref q3, .int (nI nl2)])), (q3, .inl (cJ G, 12, .inr (.inl (fJ (cpN gl2 gl nl2))))), (r4, .inr (1, [.ref q4, .int (nI ns2)])), (q4, .inl (cJ G, 8, .inr (.inl (fJ (cpN gs2 gs ns2))))), (o1, .inr (0, [.ref s0, .ref s1, .ref s2, .ref s3, .ref s4])), (s0, .inr (1, [.ref t0, .int (nI n2)])), (t0, .inl (cJ G, 23, .inr (.inl (fJ gw2)))), (s1, .inr (1, [.ref t1, .int (nI n2)])), (t1, .inl (cJ G, 23, .inr (.inl (fJ go2)))), (s2, .inr (1, [.ref t2, .int (nI n2)])), (t2, .inl (cJ G, 23, .inr (.inl (fJ gh2)))), (s3, .inr (1, [.ref t3, .int (nI nl2)])), (t3, .inl (cJ G, 12, .inr (.inl (fJ gl2)))), (s4, .inr (1, [.ref t4, .int (nI ns2)])), (t4, .inl (cJ G, 8, .inr (.inl (fJ gs2))))] rfl rfl rfl (Nat.le_of_ble_eq_true rfl) dX3_back_34 (fun H locs hw => ?_)
    exact hret (nI n2) () _ _ _ _ dX3_back_37 rfl rfl hw
  · exfalso; omega

abbrev rm_X3_keep_1 : Room := { frames := 3, cells := 0, slots := 0, locals := 65 }
set_option maxHeartbeats 4000000 in
set_option maxRecDepth 100000 in
theorem c_X3_keep_1 (l : Launch) (G : XG) (x : Nat) (tx : Nat) (o : Nat) (o1 : Nat) (o2 : Nat) (pa : Nat) (pt : Nat) (off : Nat) (ha : Nat) (tr : Int64) (r0 : Nat) (r1 : Nat) (r2 : Nat) (r3 : Nat) (r4 : Nat) (q0 : Nat) (q1 : Nat) (q2 : Nat) (q3 : Nat) (q4 : Nat) (s0 : Nat) (s1 : Nat) (s2 : Nat) (s3 : Nat) (s4 : Nat) (t0 : Nat) (t1 : Nat) (t2 : Nat) (t3 : Nat) (t4 : Nat) (n : Nat) (nl : Nat) (ns : Nat) (n2 : Nat) (nl2 : Nat) (ns2 : Nat) (gw : Nat → Nat) (go : Nat → Nat) (gh : Nat → Nat) (gl : Nat → Nat) (gs : Nat → Nat) (gw2 : Nat → Nat) (go2 : Nat → Nat) (gh2 : Nat → Nat) (gl2 : Nat → Nat) (gs2 : Nat → Nat) (hn : n ≤ 23) (hnl : nl ≤ 12) (hns : ns ≤ 8) : CfI l yX3_keep wsX3_keep rm_X3_keep_1 G [.ref x, .int (nI 1)] [(x, .inr (3, [.ref tx, .ref o, .ref o1, .ref o2, .int (nI pa), .int (nI pt), .int (nI off), .int (nI ha), .long tr])), (o, .inr (0, [.ref r0, .ref r1, .ref r2, .ref r3, .ref r4])), (r0, .inr (1, [.ref q0, .int (nI n)])), (q0, .inl (cJ G, 23, .inr (.inl (fJ gw)))), (r1, .inr (1, [.ref q1, .int (nI n)])), (q1, .inl (cJ G, 23, .inr (.inl (fJ go)))), (r2, .inr (1, [.ref q2, .int (nI n)])), (q2, .inl (cJ G, 23, .inr (.inl (fJ gh)))), (r3, .inr (1, [.ref q3, .int (nI nl)])), (q3, .inl (cJ G, 12, .inr (.inl (fJ gl)))), (r4, .inr (1, [.ref q4, .int (nI ns)])), (q4, .inl (cJ G, 8, .inr (.inl (fJ gs)))), (o2, .inr (0, [.ref s0, .ref s1, .ref s2, .ref s3, .ref s4])), (s0, .inr (1, [.ref t0, .int (nI n2)])), (t0, .inl (cJ G, 23, .inr (.inl (fJ gw2)))), (s1, .inr (1, [.ref t1, .int (nI n2)])), (t1, .inl (cJ G, 23, .inr (.inl (fJ go2)))), (s2, .inr (1, [.ref t2, .int (nI n2)])), (t2, .inl (cJ G, 23, .inr (.inl (fJ gh2)))), (s3, .inr (1, [.ref t3, .int (nI nl2)])), (t3, .inl (cJ G, 12, .inr (.inl (fJ gl2)))), (s4, .inr (1, [.ref t4, .int (nI ns2)])), (t4, .inl (cJ G, 8, .inr (.inl (fJ gs2))))] (nI n) [(x, .inr (3, [.ref tx, .ref o, .ref o1, .ref o2, .int (nI pa), .int (nI pt), .int (nI off), .int (nI ha), .long tr])), (o, .inr (0, [.ref r0, .ref r1, .ref r2, .ref r3, .ref r4])), (r0, .inr (1, [.ref q0, .int (nI n)])), (q0, .inl (cJ G, 23, .inr (.inl (fJ gw)))), (r1, .inr (1, [.ref q1, .int (nI n)])), (q1, .inl (cJ G, 23, .inr (.inl (fJ go)))), (r2, .inr (1, [.ref q2, .int (nI n)])), (q2, .inl (cJ G, 23, .inr (.inl (fJ gh)))), (r3, .inr (1, [.ref q3, .int (nI nl)])), (q3, .inl (cJ G, 12, .inr (.inl (fJ gl)))), (r4, .inr (1, [.ref q4, .int (nI ns)])), (q4, .inl (cJ G, 8, .inr (.inl (fJ gs)))), (o2, .inr (0, [.ref s0, .ref s1, .ref s2, .ref s3, .ref s4])), (s0, .inr (1, [.ref t0, .int (nI n)])), (t0, .inl (cJ G, 23, .inr (.inl (fJ (cpN gw gw2 n))))), (s1, .inr (1, [.ref t1, .int (nI n)])), (t1, .inl (cJ G, 23, .inr (.inl (fJ (cpN go go2 n))))), (s2, .inr (1, [.ref t2, .int (nI n)])), (t2, .inl (cJ G, 23, .inr (.inl (fJ (cpN gh gh2 n))))), (s3, .inr (1, [.ref t3, .int (nI nl)])), (t3, .inl (cJ G, 12, .inr (.inl (fJ (cpN gl gl2 nl))))), (s4, .inr (1, [.ref t4, .int (nI ns)])), (t4, .inl (cJ G, 8, .inr (.inl (fJ (cpN gs gs2 ns)))))] := by
  refine CtI.go (cc := cX3_keep) (maxL := 3) RX3 rfl (by decide) rfl (Nat.le_of_ble_eq_true rfl) ?_
  intro p e s m args below meth c A Q ls E hw hl hret
  have hx := E.1
  have hb := E.2.1
  have hinX3 : ∀ w ∈ wsX30, w ∈ wsX3_keep := (fun w h => List.mem_cons_of_mem _ (List.mem_append_left _ (List.mem_append_left _ (List.mem_append_right _ h))))
  have hl : lv_has ls 3 [(0, .ref x), (1, .int (nI 1))] := hl
  refine lv_aload_n hx hb dX3_keep_0 rfl (lv_at hl 0 rfl) ?_
  refine lv_iload_n hx hb dX3_keep_1 rfl (lv_at hl 1 rfl) ?_
  refine x_cfVr E hw hl.1 (As := [.int (nI 1)]) (rest := []) (c_X3_imageOf_1 l G x tx o o1 o2 pa pt off ha tr) 1 gX3_keep_X3_imageOf rfl rfl rfl (by decide) ⟨Nat.le_of_ble_eq_true rfl, Nat.le_of_ble_eq_true rfl⟩ ⟨Nat.le_of_ble_eq_true rfl, Nat.le_of_ble_eq_true rfl⟩ rfl 0 (ci := 3) (C := RX3) (T := TX3) (N := 9) rfl rfl [0] [1, 2, 3, 4, 5, 6, 7, 8, 9, 10, 11, 12, 13, 14, 15, 16, 17, 18, 19, 20, 21, 22] rfl rfl rfl rfl rfl [22, 0, 1, 2, 3, 4, 5, 6, 7, 8, 9, 10, 11, 12, 13, 14, 15, 16, 17, 18, 19, 20, 21] [(x, .inr (3, [.ref tx, .ref o, .ref o1, .ref o2, .int (nI pa), .int (nI pt), .int (nI off), .int (nI ha), .long tr])), (o, .inr (0, [.ref r0, .ref r1, .ref r2, .ref r3, .ref r4])), (r0, .inr (1, [.ref q0, .int (nI n)])), (q0, .inl (cJ G, 23, .inr (.inl (fJ gw)))), (r1, .inr (1, [.ref q1, .int (nI n)])), (q1, .inl (cJ G, 23, .inr (.inl (fJ go)))), (r2, .inr (1, [.ref q2, .int (nI n)])), (q2, .inl (cJ G, 23, .inr (.inl (fJ gh)))), (r3, .inr (1, [.ref q3, .int (nI nl)])), (q3, .inl (cJ G, 12, .inr (.inl (fJ gl)))), (r4, .inr (1, [.ref q4, .int (nI ns)])), (q4, .inl (cJ G, 8, .inr (.inl (fJ gs)))), (o2, .inr (0, [.ref s0, .ref s1, .ref s2, .ref s3, .ref s4])), (s0, .inr (1, [.ref t0, .int (nI n2)])), (t0, .inl (cJ G, 23, .inr (.inl (fJ gw2)))), (s1, .inr (1, [.ref t1, .int (nI n2)])), (t1, .inl (cJ G, 23, .inr (.inl (fJ go2)))), (s2, .inr (1, [.ref t2, .int (nI n2)])), (t2, .inl (cJ G, 23, .inr (.inl (fJ gh2)))), (s3, .inr (1, [.ref t3, .int (nI nl2)])), (t3, .inl (cJ G, 12, .inr (.inl (fJ gl2)))), (s4, .inr (1, [.ref t4, .int (nI ns2)])), (t4, .inl (cJ G, 8, .inr (.inl (fJ gs2))))] rfl rfl rfl (Nat.le_of_ble_eq_true rfl) dX3_keep_2 (fun H locs hw => ?_)
  refine lv_astore_n (lv' := [(2, .ref o2), (0, .ref x), (1, .int (nI 1))]) hx hb dX3_keep_5 rfl hl (by decide) rfl (fun ls hl => ?_)
  refine lv_aload_n hx hb dX3_keep_6 rfl (lv_at hl 0 rfl) ?_
  refine lv_ifnonnull (tgt := 12) hx hb dX3_keep_7 (by decide) ?_
  refine lv_aload_n hx hb dX3_keep_12 rfl (lv_at hl 0 rfl) ?_
  refine lv_aload_n hx hb dX3_keep_13 rfl (lv_at hl 1 rfl) ?_
  refine x_get E hw (C := RX3) (T := TX3) (N := 9) hinX3 0 rfl rfl 1 (by decide) rfl (List.mem_of_getElem? (i := 1) rfl) dX3_keep_14 ?_
  refine x_cfVv E hw hl.1 (As := [.ref o]) (rest := []) (c_X0_copy l G o2 s0 s1 s2 s3 s4 t0 t1 t2 t3 t4 o r0 r1 r2 r3 r4 q0 q1 q2 q3 q4 n2 nl2 ns2 n nl ns gw2 go2 gh2 gl2 gs2 gw go gh gl gs (by omega) (by omega) (by omega)) 1 gX3_keep_X0_copy rfl rfl rfl (by decide) ⟨Nat.le_of_ble_eq_true rfl, Nat.le_of_ble_eq_true rfl⟩ ⟨Nat.le_of_ble_eq_true rfl, Nat.le_of_ble_eq_true rfl⟩ rfl 12 (ci := 0) (C := RX0) (T := TX0) (N := 5) rfl rfl [12, 13, 14, 15, 16, 17, 18, 19, 20, 21, 22, 1, 2, 3, 4, 5, 6, 7, 8, 9, 10, 11] [0] rfl rfl rfl rfl rfl [0, 12, 13, 14, 15, 16, 17, 18, 19, 20, 21, 22, 1, 2, 3, 4, 5, 6, 7, 8, 9, 10, 11] [(x, .inr (3, [.ref tx, .ref o, .ref o1, .ref o2, .int (nI pa), .int (nI pt), .int (nI off), .int (nI ha), .long tr])), (o, .inr (0, [.ref r0, .ref r1, .ref r2, .ref r3, .ref r4])), (r0, .inr (1, [.ref q0, .int (nI n)])), (q0, .inl (cJ G, 23, .inr (.inl (fJ gw)))), (r1, .inr (1, [.ref q1, .int (nI n)])), (q1, .inl (cJ G, 23, .inr (.inl (fJ go)))), (r2, .inr (1, [.ref q2, .int (nI n)])), (q2, .inl (cJ G, 23, .inr (.inl (fJ gh)))), (r3, .inr (1, [.ref q3, .int (nI nl)])), (q3, .inl (cJ G, 12, .inr (.inl (fJ gl)))), (r4, .inr (1, [.ref q4, .int (nI ns)])), (q4, .inl (cJ G, 8, .inr (.inl (fJ gs)))), (o2, .inr (0, [.ref s0, .ref s1, .ref s2, .ref s3, .ref s4])), (s0, .inr (1, [.ref t0, .int (nI n)])), (t0, .inl (cJ G, 23, .inr (.inl (fJ (cpN gw gw2 n))))), (s1, .inr (1, [.ref t1, .int (nI n)])), (t1, .inl (cJ G, 23, .inr (.inl (fJ (cpN go go2 n))))), (s2, .inr (1, [.ref t2, .int (nI n)])), (t2, .inl (cJ G, 23, .inr (.inl (fJ (cpN gh gh2 n))))), (s3, .inr (1, [.ref t3, .int (nI nl)])), (t3, .inl (cJ G, 12, .inr (.inl (fJ (cpN gl gl2 nl))))), (s4, .inr (1, [.ref t4, .int (nI ns)])), (t4, .inl (cJ G, 8, .inr (.inl (fJ (cpN gs gs2 ns)))))] rfl rfl rfl (Nat.le_of_ble_eq_true rfl) dX3_keep_17 (fun H locs hw => ?_)
  refine lv_aload_n hx hb dX3_keep_20 rfl (lv_at hl 1 rfl) ?_
  refine x_get E hw (C := RX3) (T := TX3) (N := 9) hinX3 0 rfl rfl 1 (by decide) rfl (List.mem_of_getElem? (i := 1) rfl) dX3_keep_21 ?_
  refine x_cfVi E hw hl.1 (As := []) (rest := []) (c_X0_creases l G o r0 r1 r2 r3 r4 q0 n) 0 gX3_keep_X0_creases rfl rfl rfl (by decide) ⟨Nat.le_of_ble_eq_true rfl, Nat.le_of_ble_eq_true rfl⟩ ⟨Nat.le_of_ble_eq_true rfl, Nat.le_of_ble_eq_true rfl⟩ rfl 1 (ci := 0) (C := RX0) (T := TX0) (N := 5) rfl rfl [1, 2] [0, 3, 4, 5, 6, 7, 8, 9, 10, 11, 12, 13, 14, 15, 16, 17, 18, 19, 20, 21, 22] rfl rfl rfl rfl rfl [0, 21, 22, 1, 2, 3, 4, 5, 6, 7, 8, 9, 10, 11, 12, 13, 14, 15, 16, 17, 18, 19, 20] [(x, .inr (3, [.ref tx, .ref o, .ref o1, .ref o2, .int (nI pa), .int (nI pt), .int (nI off), .int (nI ha), .long tr])), (o, .inr (0, [.ref r0, .ref r1, .ref r2, .ref r3, .ref r4])), (r0, .inr (1, [.ref q0, .int (nI n)])), (q0, .inl (cJ G, 23, .inr (.inl (fJ gw)))), (r1, .inr (1, [.ref q1, .int (nI n)])), (q1, .inl (cJ G, 23, .inr (.inl (fJ go)))), (r2, .inr (1, [.ref q2, .int (nI n)])), (q2, .inl (cJ G, 23, .inr (.inl (fJ gh)))), (r3, .inr (1, [.ref q3, .int (nI nl)])), (q3, .inl (cJ G, 12, .inr (.inl (fJ gl)))), (r4, .inr (1, [.ref q4, .int (nI ns)])), (q4, .inl (cJ G, 8, .inr (.inl (fJ gs)))), (o2, .inr (0, [.ref s0, .ref s1, .ref s2, .ref s3, .ref s4])), (s0, .inr (1, [.ref t0, .int (nI n)])), (t0, .inl (cJ G, 23, .inr (.inl (fJ (cpN gw gw2 n))))), (s1, .inr (1, [.ref t1, .int (nI n)])), (t1, .inl (cJ G, 23, .inr (.inl (fJ (cpN go go2 n))))), (s2, .inr (1, [.ref t2, .int (nI n)])), (t2, .inl (cJ G, 23, .inr (.inl (fJ (cpN gh gh2 n))))), (s3, .inr (1, [.ref t3, .int (nI nl)])), (t3, .inl (cJ G, 12, .inr (.inl (fJ (cpN gl gl2 nl))))), (s4, .inr (1, [.ref t4, .int (nI ns)])), (t4, .inl (cJ G, 8, .inr (.inl (fJ (cpN gs gs2 ns)))))] rfl rfl rfl (Nat.le_of_ble_eq_true rfl) dX3_keep_24 (fun H locs hw => ?_)
  exact hret (nI n) () _ _ _ _ dX3_keep_27 rfl rfl hw

abbrev rm_X3_back_state_1 : Room := { frames := 2, cells := 0, slots := 0, locals := 40 }
set_option maxHeartbeats 4000000 in
set_option maxRecDepth 100000 in
theorem c_X3_back_state_1 (l : Launch) (G : XG) (x : Nat) (tx : Nat) (o : Nat) (o1 : Nat) (o2 : Nat) (pa : Nat) (pt : Nat) (off : Nat) (ha : Nat) (tr : Int64) (s0 : Nat) (s1 : Nat) (s2 : Nat) (s3 : Nat) (s4 : Nat) (t0 : Nat)  : CfI l yX3_back wsX3_back rm_X3_back_state_1 G [.ref x, .int (nI 1)] [(x, .inr (3, [.ref tx, .ref o, .ref o1, .ref o2, .int (nI pa), .int (nI pt), .int (nI off), .int (nI ha), .long tr])), (o2, .inr (0, [.ref s0, .ref s1, .ref s2, .ref s3, .ref s4])), (s0, .inr (1, [.ref t0, .int (nI 0)]))] (-2 : Int32) [(x, .inr (3, [.ref tx, .ref o, .ref o1, .ref o2, .int (nI pa), .int (nI pt), .int (nI off), .int (nI ha), .long tr])), (o2, .inr (0, [.ref s0, .ref s1, .ref s2, .ref s3, .ref s4])), (s0, .inr (1, [.ref t0, .int (nI 0)]))] := by
  refine CtI.go (cc := cX3_back) (maxL := 3) RX3 rfl (by decide) rfl (Nat.le_of_ble_eq_true rfl) ?_
  intro p e s m args below meth c A Q ls E hw hl hret
  have hx := E.1
  have hb := E.2.1
  have hl : lv_has ls 3 [(0, .ref x), (1, .int (nI 1))] := hl
  refine lv_aload_n hx hb dX3_back_0 rfl (lv_at hl 0 rfl) ?_
  refine lv_iload_n hx hb dX3_back_1 rfl (lv_at hl 1 rfl) ?_
  refine x_cfVr E hw hl.1 (As := [.int (nI 1)]) (rest := []) (c_X3_imageOf_1 l G x tx o o1 o2 pa pt off ha tr) 1 gX3_back_X3_imageOf rfl rfl rfl (by decide) ⟨Nat.le_of_ble_eq_true rfl, Nat.le_of_ble_eq_true rfl⟩ ⟨Nat.le_of_ble_eq_true rfl, Nat.le_of_ble_eq_true rfl⟩ rfl 0 (ci := 3) (C := RX3) (T := TX3) (N := 9) rfl rfl [0] [1, 2] rfl rfl rfl rfl rfl [2, 0, 1] [(x, .inr (3, [.ref tx, .ref o, .ref o1, .ref o2, .int (nI pa), .int (nI pt), .int (nI off), .int (nI ha), .long tr])), (o2, .inr (0, [.ref s0, .ref s1, .ref s2, .ref s3, .ref s4])), (s0, .inr (1, [.ref t0, .int (nI 0)]))] rfl rfl rfl (Nat.le_of_ble_eq_true rfl) dX3_back_2 (fun H locs hw => ?_)
  refine lv_astore_n (lv' := [(2, .ref o2), (0, .ref x), (1, .int (nI 1))]) hx hb dX3_back_5 rfl hl (by decide) rfl (fun ls hl => ?_)
  refine lv_aload_n hx hb dX3_back_6 rfl (lv_at hl 0 rfl) ?_
  refine lv_ifnonnull (tgt := 12) hx hb dX3_back_7 (by decide) ?_
  refine lv_aload_n hx hb dX3_back_12 rfl (lv_at hl 0 rfl) ?_
  refine x_cfVi E hw hl.1 (As := []) (rest := []) (c_X0_creases l G o2 s0 s1 s2 s3 s4 t0 0) 0 gX3_back_X0_creases rfl rfl rfl (by decide) ⟨Nat.le_of_ble_eq_true rfl, Nat.le_of_ble_eq_true rfl⟩ ⟨Nat.le_of_ble_eq_true rfl, Nat.le_of_ble_eq_true rfl⟩ rfl 1 (ci := 0) (C := RX0) (T := TX0) (N := 5) rfl rfl [1, 2] [0] rfl rfl rfl rfl rfl [0, 1, 2] [(x, .inr (3, [.ref tx, .ref o, .ref o1, .ref o2, .int (nI pa), .int (nI pt), .int (nI off), .int (nI ha), .long tr])), (o2, .inr (0, [.ref s0, .ref s1, .ref s2, .ref s3, .ref s4])), (s0, .inr (1, [.ref t0, .int (nI 0)]))] rfl rfl rfl (Nat.le_of_ble_eq_true rfl) dX3_back_13 (fun H locs hw => ?_)
  refine x_if_ne E (nI_toI (by decide)) (tgt := 22) dX3_back_16 (by decide) (fun c_1 => ?_) (fun c_1 => ?_)
  · exfalso; omega
  · refine lv_bipush (v := (-2 : Int32)) hx hb dX3_back_19 (by decide) ?_
    exact hret (-2 : Int32) () _ _ _ _ dX3_back_21 rfl rfl hw

abbrev rm_X3_back_ok_1 : Room := { frames := 3, cells := 0, slots := 0, locals := 65 }
set_option maxHeartbeats 4000000 in
set_option maxRecDepth 100000 in
theorem c_X3_back_ok_1 (l : Launch) (G : XG) (x : Nat) (tx : Nat) (o : Nat) (o1 : Nat) (o2 : Nat) (pa : Nat) (pt : Nat) (off : Nat) (ha : Nat) (tr : Int64) (r0 : Nat) (r1 : Nat) (r2 : Nat) (r3 : Nat) (r4 : Nat) (q0 : Nat) (q1 : Nat) (q2 : Nat) (q3 : Nat) (q4 : Nat) (s0 : Nat) (s1 : Nat) (s2 : Nat) (s3 : Nat) (s4 : Nat) (t0 : Nat) (t1 : Nat) (t2 : Nat) (t3 : Nat) (t4 : Nat) (n : Nat) (nl : Nat) (ns : Nat) (n2 : Nat) (nl2 : Nat) (ns2 : Nat) (gw : Nat → Nat) (go : Nat → Nat) (gh : Nat → Nat) (gl : Nat → Nat) (gs : Nat → Nat) (gw2 : Nat → Nat) (go2 : Nat → Nat) (gh2 : Nat → Nat) (gl2 : Nat → Nat) (gs2 : Nat → Nat) (hn : n2 ≤ 23) (hn1 : 1 ≤ n2) (hnl : nl2 ≤ 12) (hns : ns2 ≤ 8) : CfI l yX3_back wsX3_back rm_X3_back_ok_1 G [.ref x, .int (nI 1)] [(x, .inr (3, [.ref tx, .ref o, .ref o1, .ref o2, .int (nI pa), .int (nI pt), .int (nI off), .int (nI ha), .long tr])), (o, .inr (0, [.ref r0, .ref r1, .ref r2, .ref r3, .ref r4])), (r0, .inr (1, [.ref q0, .int (nI n)])), (q0, .inl (cJ G, 23, .inr (.inl (fJ gw)))), (r1, .inr (1, [.ref q1, .int (nI n)])), (q1, .inl (cJ G, 23, .inr (.inl (fJ go)))), (r2, .inr (1, [.ref q2, .int (nI n)])), (q2, .inl (cJ G, 23, .inr (.inl (fJ gh)))), (r3, .inr (1, [.ref q3, .int (nI nl)])), (q3, .inl (cJ G, 12, .inr (.inl (fJ gl)))), (r4, .inr (1, [.ref q4, .int (nI ns)])), (q4, .inl (cJ G, 8, .inr (.inl (fJ gs)))), (o2, .inr (0, [.ref s0, .ref s1, .ref s2, .ref s3, .ref s4])), (s0, .inr (1, [.ref t0, .int (nI n2)])), (t0, .inl (cJ G, 23, .inr (.inl (fJ gw2)))), (s1, .inr (1, [.ref t1, .int (nI n2)])), (t1, .inl (cJ G, 23, .inr (.inl (fJ go2)))), (s2, .inr (1, [.ref t2, .int (nI n2)])), (t2, .inl (cJ G, 23, .inr (.inl (fJ gh2)))), (s3, .inr (1, [.ref t3, .int (nI nl2)])), (t3, .inl (cJ G, 12, .inr (.inl (fJ gl2)))), (s4, .inr (1, [.ref t4, .int (nI ns2)])), (t4, .inl (cJ G, 8, .inr (.inl (fJ gs2))))] (nI n2) [(x, .inr (3, [.ref tx, .ref o, .ref o1, .ref o2, .int (nI pa), .int (nI pt), .int (nI off), .int (nI ha), .long tr])), (o, .inr (0, [.ref r0, .ref r1, .ref r2, .ref r3, .ref r4])), (r0, .inr (1, [.ref q0, .int (nI n2)])), (q0, .inl (cJ G, 23, .inr (.inl (fJ (cpN gw2 gw n2))))), (r1, .inr (1, [.ref q1, .int (nI n2)])), (q1, .inl (cJ G, 23, .inr (.inl (fJ (cpN go2 go n2))))), (r2, .inr (1, [.ref q2, .int (nI n2)])), (q2, .inl (cJ G, 23, .inr (.inl (fJ (cpN gh2 gh n2))))), (r3, .inr (1, [.ref q3, .int (nI nl2)])), (q3, .inl (cJ G, 12, .inr (.inl (fJ (cpN gl2 gl nl2))))), (r4, .inr (1, [.ref q4, .int (nI ns2)])), (q4, .inl (cJ G, 8, .inr (.inl (fJ (cpN gs2 gs ns2))))), (o2, .inr (0, [.ref s0, .ref s1, .ref s2, .ref s3, .ref s4])), (s0, .inr (1, [.ref t0, .int (nI n2)])), (t0, .inl (cJ G, 23, .inr (.inl (fJ gw2)))), (s1, .inr (1, [.ref t1, .int (nI n2)])), (t1, .inl (cJ G, 23, .inr (.inl (fJ go2)))), (s2, .inr (1, [.ref t2, .int (nI n2)])), (t2, .inl (cJ G, 23, .inr (.inl (fJ gh2)))), (s3, .inr (1, [.ref t3, .int (nI nl2)])), (t3, .inl (cJ G, 12, .inr (.inl (fJ gl2)))), (s4, .inr (1, [.ref t4, .int (nI ns2)])), (t4, .inl (cJ G, 8, .inr (.inl (fJ gs2))))] := by
  refine CtI.go (cc := cX3_back) (maxL := 3) RX3 rfl (by decide) rfl (Nat.le_of_ble_eq_true rfl) ?_
  intro p e s m args below meth c A Q ls E hw hl hret
  have hx := E.1
  have hb := E.2.1
  have hinX3 : ∀ w ∈ wsX30, w ∈ wsX3_back := (fun w h => List.mem_cons_of_mem _ (List.mem_append_left _ (List.mem_append_left _ (List.mem_append_right _ h))))
  have hl : lv_has ls 3 [(0, .ref x), (1, .int (nI 1))] := hl
  refine lv_aload_n hx hb dX3_back_0 rfl (lv_at hl 0 rfl) ?_
  refine lv_iload_n hx hb dX3_back_1 rfl (lv_at hl 1 rfl) ?_
  refine x_cfVr E hw hl.1 (As := [.int (nI 1)]) (rest := []) (c_X3_imageOf_1 l G x tx o o1 o2 pa pt off ha tr) 1 gX3_back_X3_imageOf rfl rfl rfl (by decide) ⟨Nat.le_of_ble_eq_true rfl, Nat.le_of_ble_eq_true rfl⟩ ⟨Nat.le_of_ble_eq_true rfl, Nat.le_of_ble_eq_true rfl⟩ rfl 0 (ci := 3) (C := RX3) (T := TX3) (N := 9) rfl rfl [0] [1, 2, 3, 4, 5, 6, 7, 8, 9, 10, 11, 12, 13, 14, 15, 16, 17, 18, 19, 20, 21, 22] rfl rfl rfl rfl rfl [22, 0, 1, 2, 3, 4, 5, 6, 7, 8, 9, 10, 11, 12, 13, 14, 15, 16, 17, 18, 19, 20, 21] [(x, .inr (3, [.ref tx, .ref o, .ref o1, .ref o2, .int (nI pa), .int (nI pt), .int (nI off), .int (nI ha), .long tr])), (o, .inr (0, [.ref r0, .ref r1, .ref r2, .ref r3, .ref r4])), (r0, .inr (1, [.ref q0, .int (nI n)])), (q0, .inl (cJ G, 23, .inr (.inl (fJ gw)))), (r1, .inr (1, [.ref q1, .int (nI n)])), (q1, .inl (cJ G, 23, .inr (.inl (fJ go)))), (r2, .inr (1, [.ref q2, .int (nI n)])), (q2, .inl (cJ G, 23, .inr (.inl (fJ gh)))), (r3, .inr (1, [.ref q3, .int (nI nl)])), (q3, .inl (cJ G, 12, .inr (.inl (fJ gl)))), (r4, .inr (1, [.ref q4, .int (nI ns)])), (q4, .inl (cJ G, 8, .inr (.inl (fJ gs)))), (o2, .inr (0, [.ref s0, .ref s1, .ref s2, .ref s3, .ref s4])), (s0, .inr (1, [.ref t0, .int (nI n2)])), (t0, .inl (cJ G, 23, .inr (.inl (fJ gw2)))), (s1, .inr (1, [.ref t1, .int (nI n2)])), (t1, .inl (cJ G, 23, .inr (.inl (fJ go2)))), (s2, .inr (1, [.ref t2, .int (nI n2)])), (t2, .inl (cJ G, 23, .inr (.inl (fJ gh2)))), (s3, .inr (1, [.ref t3, .int (nI nl2)])), (t3, .inl (cJ G, 12, .inr (.inl (fJ gl2)))), (s4, .inr (1, [.ref t4, .int (nI ns2)])), (t4, .inl (cJ G, 8, .inr (.inl (fJ gs2))))] rfl rfl rfl (Nat.le_of_ble_eq_true rfl) dX3_back_2 (fun H locs hw => ?_)
  refine lv_astore_n (lv' := [(2, .ref o2), (0, .ref x), (1, .int (nI 1))]) hx hb dX3_back_5 rfl hl (by decide) rfl (fun ls hl => ?_)
  refine lv_aload_n hx hb dX3_back_6 rfl (lv_at hl 0 rfl) ?_
  refine lv_ifnonnull (tgt := 12) hx hb dX3_back_7 (by decide) ?_
  refine lv_aload_n hx hb dX3_back_12 rfl (lv_at hl 0 rfl) ?_
  refine x_cfVi E hw hl.1 (As := []) (rest := []) (c_X0_creases l G o2 s0 s1 s2 s3 s4 t0 n2) 0 gX3_back_X0_creases rfl rfl rfl (by decide) ⟨Nat.le_of_ble_eq_true rfl, Nat.le_of_ble_eq_true rfl⟩ ⟨Nat.le_of_ble_eq_true rfl, Nat.le_of_ble_eq_true rfl⟩ rfl 12 (ci := 0) (C := RX0) (T := TX0) (N := 5) rfl rfl [12, 13] [0, 1, 2, 3, 4, 5, 6, 7, 8, 9, 10, 11, 14, 15, 16, 17, 18, 19, 20, 21, 22] rfl rfl rfl rfl rfl [0, 1, 2, 3, 4, 5, 6, 7, 8, 9, 10, 11, 21, 22, 12, 13, 14, 15, 16, 17, 18, 19, 20] [(x, .inr (3, [.ref tx, .ref o, .ref o1, .ref o2, .int (nI pa), .int (nI pt), .int (nI off), .int (nI ha), .long tr])), (o, .inr (0, [.ref r0, .ref r1, .ref r2, .ref r3, .ref r4])), (r0, .inr (1, [.ref q0, .int (nI n)])), (q0, .inl (cJ G, 23, .inr (.inl (fJ gw)))), (r1, .inr (1, [.ref q1, .int (nI n)])), (q1, .inl (cJ G, 23, .inr (.inl (fJ go)))), (r2, .inr (1, [.ref q2, .int (nI n)])), (q2, .inl (cJ G, 23, .inr (.inl (fJ gh)))), (r3, .inr (1, [.ref q3, .int (nI nl)])), (q3, .inl (cJ G, 12, .inr (.inl (fJ gl)))), (r4, .inr (1, [.ref q4, .int (nI ns)])), (q4, .inl (cJ G, 8, .inr (.inl (fJ gs)))), (o2, .inr (0, [.ref s0, .ref s1, .ref s2, .ref s3, .ref s4])), (s0, .inr (1, [.ref t0, .int (nI n2)])), (t0, .inl (cJ G, 23, .inr (.inl (fJ gw2)))), (s1, .inr (1, [.ref t1, .int (nI n2)])), (t1, .inl (cJ G, 23, .inr (.inl (fJ go2)))), (s2, .inr (1, [.ref t2, .int (nI n2)])), (t2, .inl (cJ G, 23, .inr (.inl (fJ gh2)))), (s3, .inr (1, [.ref t3, .int (nI nl2)])), (t3, .inl (cJ G, 12, .inr (.inl (fJ gl2)))), (s4, .inr (1, [.ref t4, .int (nI ns2)])), (t4, .inl (cJ G, 8, .inr (.inl (fJ gs2))))] rfl rfl rfl (Nat.le_of_ble_eq_true rfl) dX3_back_13 (fun H locs hw => ?_)
  refine x_if_ne E (nI_toI (show n2 < 2147483648 by omega)) (tgt := 22) dX3_back_16 (by decide) (fun c_1 => ?_) (fun c_1 => ?_)
  · refine lv_aload_n hx hb dX3_back_22 rfl (lv_at hl 1 rfl) ?_
    refine x_get E hw (C := RX3) (T := TX3) (N := 9) hinX3 0 rfl rfl 1 (by decide) rfl (List.mem_of_getElem? (i := 1) rfl) dX3_back_23 ?_
    refine lv_aload_n hx hb dX3_back_26 rfl (lv_at hl 0 rfl) ?_
    refine x_cfVv E hw hl.1 (As := [.ref o2]) (rest := []) (c_X0_copy l G o r0 r1 r2 r3 r4 q0 q1 q2 q3 q4 o2 s0 s1 s2 s3 s4 t0 t1 t2 t3 t4 n nl ns n2 nl2 ns2 gw go gh gl gs gw2 go2 gh2 gl2 gs2 (by omega) (by omega) (by omega)) 1 gX3_back_X0_copy rfl rfl rfl (by decide) ⟨Nat.le_of_ble_eq_true rfl, Nat.le_of_ble_eq_true rfl⟩ ⟨Nat.le_of_ble_eq_true rfl, Nat.le_of_ble_eq_true rfl⟩ rfl 1 (ci := 0) (C := RX0) (T := TX0) (N := 5) rfl rfl [1, 2, 3, 4, 5, 6, 7, 8, 9, 10, 11, 12, 13, 14, 15, 16, 17, 18, 19, 20, 21, 22] [0] rfl rfl rfl rfl rfl [0, 1, 2, 3, 4, 5, 6, 7, 8, 9, 10, 11, 12, 13, 14, 15, 16, 17, 18, 19, 20, 21, 22] [(x, .inr (3, [.ref tx, .ref o, .ref o1, .ref o2, .int (nI pa), .int (nI pt), .int (nI off), .int (nI ha), .long tr])), (o, .inr (0, [.ref r0, .ref r1, .ref r2, .ref r3, .ref r4])), (r0, .inr (1, [.ref q0, .int (nI n2)])), (q0, .inl (cJ G, 23, .inr (.inl (fJ (cpN gw2 gw n2))))), (r1, .inr (1, [.ref q1, .int (nI n2)])), (q1, .inl (cJ G, 23, .inr (.inl (fJ (cpN go2 go n2))))), (r2, .inr (1, [.ref q2, .int (nI n2)])), (q2, .inl (cJ G, 23, .inr (.inl (fJ (cpN gh2 gh n2))))), (r3, .inr (1, [.ref q3, .int (nI nl2)])), (q3, .inl (cJ G, 12, .inr (.inl (fJ (cpN gl2 gl nl2))))), (r4, .inr (1, [.ref q4, .int (nI ns2)])), (q4, .inl (cJ G, 8, .inr (.inl (fJ (cpN gs2 gs ns2))))), (o2, .inr (0, [.ref s0, .ref s1, .ref s2, .ref s3, .ref s4])), (s0, .inr (1, [.ref t0, .int (nI n2)])), (t0, .inl (cJ G, 23, .inr (.inl (fJ gw2)))), (s1, .inr (1, [.ref t1, .int (nI n2)])), (t1, .inl (cJ G, 23, .inr (.inl (fJ go2)))), (s2, .inr (1, [.ref t2, .int (nI n2)])), (t2, .inl (cJ G, 23, .inr (.inl (fJ gh2)))), (s3, .inr (1, [.ref t3, .int (nI nl2)])), (t3, .inl (cJ G, 12, .inr (.inl (fJ gl2)))), (s4, .inr (1, [.ref t4, .int (nI ns2)])), (t4, .inl (cJ G, 8, .inr (.inl (fJ gs2))))] rfl rfl rfl (Nat.le_of_ble_eq_true rfl) dX3_back_27 (fun H locs hw => ?_)
    refine lv_aload_n hx hb dX3_back_30 rfl (lv_at hl 1 rfl) ?_
    refine x_get E hw (C := RX3) (T := TX3) (N := 9) hinX3 0 rfl rfl 1 (by decide) rfl (List.mem_of_getElem? (i := 1) rfl) dX3_back_31 ?_
    refine x_cfVi E hw hl.1 (As := []) (rest := []) (c_X0_creases l G o r0 r1 r2 r3 r4 q0 n2) 0 gX3_back_X0_creases rfl rfl rfl (by decide) ⟨Nat.le_of_ble_eq_true rfl, Nat.le_of_ble_eq_true rfl⟩ ⟨Nat.le_of_ble_eq_true rfl, Nat.le_of_ble_eq_true rfl⟩ rfl 1 (ci := 0) (C := RX0) (T := TX0) (N := 5) rfl rfl [1, 2] [0, 3, 4, 5, 6, 7, 8, 9, 10, 11, 12, 13, 14, 15, 16, 17, 18, 19, 20, 21, 22] rfl rfl rfl rfl rfl [0, 21, 22, 1, 2, 3, 4, 5, 6, 7, 8, 9, 10, 11, 12, 13, 14, 15, 16, 17, 18, 19, 20] [(x, .inr (3, [.ref tx, .ref o, .ref o1, .ref o2, .int (nI pa), .int (nI pt), .int (nI off), .int (nI ha), .long tr])), (o, .inr (0, [.ref r0, .ref r1, .ref r2, .ref r3, .ref r4])), (r0, .inr (1, [.ref q0, .int (nI n2)])), (q0, .inl (cJ G, 23, .inr (.inl (fJ (cpN gw2 gw n2))))), (r1, .inr (1, [.ref q1, .int (nI n2)])), (q1, .inl (cJ G, 23, .inr (.inl (fJ (cpN go2 go n2))))), (r2, .inr (1, [.ref q2, .int (nI n2)])), (q2, .inl (cJ G, 23, .inr (.inl (fJ (cpN gh2 gh n2))))), (r3, .inr (1, [.ref q3, .int (nI nl2)])), (q3, .inl (cJ G, 12, .inr (.inl (fJ (cpN gl2 gl nl2))))), (r4, .inr (1, [.ref q4, .int (nI ns2)])), (q4, .inl (cJ G, 8, .inr (.inl (fJ (cpN gs2 gs ns2))))), (o2, .inr (0, [.ref s0, .ref s1, .ref s2, .ref s3, .ref s4])), (s0, .inr (1, [.ref t0, .int (nI n2)])), (t0, .inl (cJ G, 23, .inr (.inl (fJ gw2)))), (s1, .inr (1, [.ref t1, .int (nI n2)])), (t1, .inl (cJ G, 23, .inr (.inl (fJ go2)))), (s2, .inr (1, [.ref t2, .int (nI n2)])), (t2, .inl (cJ G, 23, .inr (.inl (fJ gh2)))), (s3, .inr (1, [.ref t3, .int (nI nl2)])), (t3, .inl (cJ G, 12, .inr (.inl (fJ gl2)))), (s4, .inr (1, [.ref t4, .int (nI ns2)])), (t4, .inl (cJ G, 8, .inr (.inl (fJ gs2))))] rfl rfl rfl (Nat.le_of_ble_eq_true rfl) dX3_back_34 (fun H locs hw => ?_)
    exact hret (nI n2) () _ _ _ _ dX3_back_37 rfl rfl hw
  · exfalso; omega
