abbrev rm_X2_wordHere : Room := { frames := 5, cells := 0, slots := 0, locals := 107 }
set_option maxHeartbeats 4000000 in
set_option maxRecDepth 100000 in
theorem c_X2_wordHere (l : Launch) (G : XG) (tx : Nat) (b0 : Nat) (d0 : Nat) (f0 : Nat) (e0 : Nat) (f1 : Nat) (e1 : Nat) (q1 : Nat) (q2 : Nat) (q3 : Nat) (q4 : Nat) (q7 : Nat) (q8 : Nat) (q9 : Nat) (q10 : Nat) (q11 : Nat) (q12 : Nat) (q13 : Nat) (q14 : Nat) (N : Nat) (gb : Nat → Nat) (hN : N ≤ 200) (hgb : ∀ q, gb q < 256) (hp : q9 = q8 + 1) (he : q9 ≤ N) : CfI l yX2_wordHere wsX2_wordHere rm_X2_wordHere G [.ref tx] [(tx, .inr (2, [.ref b0, .int (nI q1), .int (nI q2), .int (nI q3), .int (nI q4), .ref f0, .ref f1, .int (nI q7), .int (nI q8), .int (nI q9), .int (nI q10), .int (nI q11), .int (nI q12), .int (nI q13), .int (nI q14)])), (b0, .inr (1, [.ref d0, .int (nI N)])), (d0, .inl (cJ G, 200, .inr (.inl (fJ gb))))] (nI (wdC gb q8 (lr gb N q9))) [(tx, .inr (2, [.ref b0, .int (nI q1), .int (nI q2), .int (nI q3), .int (nI q4), .ref f0, .ref f1, .int (nI q7), .int (nI q8), .int (nI (lr gb N q9)), .int (nI q10), .int (nI q11), .int (nI q12), .int (nI q13), .int (nI q14)])), (b0, .inr (1, [.ref d0, .int (nI N)])), (d0, .inl (cJ G, 200, .inr (.inl (fJ gb))))] := by
  refine CtI.go (cc := cX2_wordHere) (maxL := 1) RX2 rfl (by decide) rfl (Nat.le_of_ble_eq_true rfl) ?_
  intro p e s m args below meth c A Q ls E hw hl hret
  have hx := E.1
  have hb := E.2.1
  have hinX2 : ∀ w ∈ wsX20, w ∈ wsX2_wordHere := (fun w h => List.mem_cons_of_mem _ (List.mem_append_left _ (List.mem_append_right _ h)))
  have hl : lv_has ls 1 [(0, .ref tx)] := hl
  have loop_0 : ∀ (fu : Nat) (z : Nat), q9 ≤ z → z ≤ N → lrL gb N (N - z) z = lr gb N q9 → N - z < fu → ∀ (H : Heap) (locs : List Loc) (ls : Array Slot), Wd G s A [(tx, .inr (2, [.ref b0, .int (nI q1), .int (nI q2), .int (nI q3), .int (nI q4), .ref f0, .ref f1, .int (nI q7), .int (nI q8), .int (nI z), .int (nI q10), .int (nI q11), .int (nI q12), .int (nI q13), .int (nI q14)])), (b0, .inr (1, [.ref d0, .int (nI N)])), (d0, .inl (cJ G, 200, .inr (.inl (fJ gb))))] H locs → lv_has ls 1 [(0, .ref tx)] → W p l e rm_X2_wordHere s m args below meth c H locs 0 0 Q (F0 m 0 ls []) := by
    intro fu
    induction fu with
    | zero =>
      intro z hz hzN hinv hmu
      exact absurd hmu (Nat.not_lt_zero _)
    | succ fu ih_0 =>
      intro z hz hzN hinv hmu_0 H locs ls hw hl
      have cut_38 : (¬ (z < N ∧ 97 ≤ gb z ∧ gb z ≤ 122)) → ∀ (H : Heap) (locs : List Loc) (ls : Array Slot), Wd G s A [(tx, .inr (2, [.ref b0, .int (nI q1), .int (nI q2), .int (nI q3), .int (nI q4), .ref f0, .ref f1, .int (nI q7), .int (nI q8), .int (nI z), .int (nI q10), .int (nI q11), .int (nI q12), .int (nI q13), .int (nI q14)])), (b0, .inr (1, [.ref d0, .int (nI N)])), (d0, .inl (cJ G, 200, .inr (.inl (fJ gb))))] H locs → lv_has ls 1 [(0, .ref tx)] → W p l e rm_X2_wordHere s m args below meth c H locs 0 0 Q (F0 m 38 ls []) := by
        intro hil H locs ls hw hl
        have hlr : lr gb N q9 = z := hinv.symm.trans (lrL_no hil)
        refine lv_aload_n hx hb dX2_wordHere_38 rfl (lv_at hl 0 rfl) ?_
        refine va_ldcS hx hb E.2.2.2.1 (hw.2.2.2.2.2.2.2.1 0 (by decide)) dX2_wordHere_39 ?_
        refine x_cfVi E hw hl.1 (As := [.ref (G.2.2.2.1 0)]) (rest := []) (c_X2_isHere l G tx b0 d0 f0 0 f1 0 q1 q2 q3 q4 q7 q8 z q10 q11 q12 q13 q14 N gb 0 (by omega) (by decide) (by omega) (by omega) hgb) 1 gX2_wordHere_X2_isHere rfl rfl rfl (by decide) ⟨Nat.le_of_ble_eq_true rfl, Nat.le_of_ble_eq_true rfl⟩ ⟨Nat.le_of_ble_eq_true rfl, Nat.le_of_ble_eq_true rfl⟩ rfl 0 (ci := 2) (C := RX2) (T := TX2) (N := 15) rfl rfl [0, 1, 2] [] rfl rfl rfl rfl rfl [0, 1, 2] [(tx, .inr (2, [.ref b0, .int (nI q1), .int (nI q2), .int (nI q3), .int (nI q4), .ref f0, .ref f1, .int (nI q7), .int (nI q8), .int (nI z), .int (nI q10), .int (nI q11), .int (nI q12), .int (nI q13), .int (nI q14)])), (b0, .inr (1, [.ref d0, .int (nI N)])), (d0, .inl (cJ G, 200, .inr (.inl (fJ gb))))] rfl rfl rfl (Nat.le_of_ble_eq_true rfl) dX2_wordHere_41 (fun H locs hw => ?_)
        refine x_ifb_eq E (P := lnS 0 = z - q8 ∧ eqL 0 gb q8 (lnS 0) = true) (tgt := 49) dX2_wordHere_44 (by decide) (fun hs0 => ?_) (fun hs0 => ?_)
        · refine lv_aload_n hx hb dX2_wordHere_49 rfl (lv_at hl 0 rfl) ?_
          refine va_ldcS hx hb E.2.2.2.1 (hw.2.2.2.2.2.2.2.1 1 (by decide)) dX2_wordHere_50 ?_
          refine x_cfVi E hw hl.1 (As := [.ref (G.2.2.2.1 1)]) (rest := []) (c_X2_isHere l G tx b0 d0 f0 0 f1 0 q1 q2 q3 q4 q7 q8 z q10 q11 q12 q13 q14 N gb 1 (by omega) (by decide) (by omega) (by omega) hgb) 1 gX2_wordHere_X2_isHere rfl rfl rfl (by decide) ⟨Nat.le_of_ble_eq_true rfl, Nat.le_of_ble_eq_true rfl⟩ ⟨Nat.le_of_ble_eq_true rfl, Nat.le_of_ble_eq_true rfl⟩ rfl 0 (ci := 2) (C := RX2) (T := TX2) (N := 15) rfl rfl [0, 1, 2] [] rfl rfl rfl rfl rfl [0, 1, 2] [(tx, .inr (2, [.ref b0, .int (nI q1), .int (nI q2), .int (nI q3), .int (nI q4), .ref f0, .ref f1, .int (nI q7), .int (nI q8), .int (nI z), .int (nI q10), .int (nI q11), .int (nI q12), .int (nI q13), .int (nI q14)])), (b0, .inr (1, [.ref d0, .int (nI N)])), (d0, .inl (cJ G, 200, .inr (.inl (fJ gb))))] rfl rfl rfl (Nat.le_of_ble_eq_true rfl) dX2_wordHere_52 (fun H locs hw => ?_)
          refine x_ifb_eq E (P := lnS 1 = z - q8 ∧ eqL 1 gb q8 (lnS 1) = true) (tgt := 60) dX2_wordHere_55 (by decide) (fun hs1 => ?_) (fun hs1 => ?_)
          · refine lv_aload_n hx hb dX2_wordHere_60 rfl (lv_at hl 0 rfl) ?_
            refine va_ldcS hx hb E.2.2.2.1 (hw.2.2.2.2.2.2.2.1 2 (by decide)) dX2_wordHere_61 ?_
            refine x_cfVi E hw hl.1 (As := [.ref (G.2.2.2.1 2)]) (rest := []) (c_X2_isHere l G tx b0 d0 f0 0 f1 0 q1 q2 q3 q4 q7 q8 z q10 q11 q12 q13 q14 N gb 2 (by omega) (by decide) (by omega) (by omega) hgb) 1 gX2_wordHere_X2_isHere rfl rfl rfl (by decide) ⟨Nat.le_of_ble_eq_true rfl, Nat.le_of_ble_eq_true rfl⟩ ⟨Nat.le_of_ble_eq_true rfl, Nat.le_of_ble_eq_true rfl⟩ rfl 0 (ci := 2) (C := RX2) (T := TX2) (N := 15) rfl rfl [0, 1, 2] [] rfl rfl rfl rfl rfl [0, 1, 2] [(tx, .inr (2, [.ref b0, .int (nI q1), .int (nI q2), .int (nI q3), .int (nI q4), .ref f0, .ref f1, .int (nI q7), .int (nI q8), .int (nI z), .int (nI q10), .int (nI q11), .int (nI q12), .int (nI q13), .int (nI q14)])), (b0, .inr (1, [.ref d0, .int (nI N)])), (d0, .inl (cJ G, 200, .inr (.inl (fJ gb))))] rfl rfl rfl (Nat.le_of_ble_eq_true rfl) dX2_wordHere_63 (fun H locs hw => ?_)
            refine x_ifb_eq E (P := lnS 2 = z - q8 ∧ eqL 2 gb q8 (lnS 2) = true) (tgt := 71) dX2_wordHere_66 (by decide) (fun hs2 => ?_) (fun hs2 => ?_)
            · refine lv_aload_n hx hb dX2_wordHere_71 rfl (lv_at hl 0 rfl) ?_
              refine va_ldcS hx hb E.2.2.2.1 (hw.2.2.2.2.2.2.2.1 3 (by decide)) dX2_wordHere_72 ?_
              refine x_cfVi E hw hl.1 (As := [.ref (G.2.2.2.1 3)]) (rest := []) (c_X2_isHere l G tx b0 d0 f0 0 f1 0 q1 q2 q3 q4 q7 q8 z q10 q11 q12 q13 q14 N gb 3 (by omega) (by decide) (by omega) (by omega) hgb) 1 gX2_wordHere_X2_isHere rfl rfl rfl (by decide) ⟨Nat.le_of_ble_eq_true rfl, Nat.le_of_ble_eq_true rfl⟩ ⟨Nat.le_of_ble_eq_true rfl, Nat.le_of_ble_eq_true rfl⟩ rfl 0 (ci := 2) (C := RX2) (T := TX2) (N := 15) rfl rfl [0, 1, 2] [] rfl rfl rfl rfl rfl [0, 1, 2] [(tx, .inr (2, [.ref b0, .int (nI q1), .int (nI q2), .int (nI q3), .int (nI q4), .ref f0, .ref f1, .int (nI q7), .int (nI q8), .int (nI z), .int (nI q10), .int (nI q11), .int (nI q12), .int (nI q13), .int (nI q14)])), (b0, .inr (1, [.ref d0, .int (nI N)])), (d0, .inl (cJ G, 200, .inr (.inl (fJ gb))))] rfl rfl rfl (Nat.le_of_ble_eq_true rfl) dX2_wordHere_74 (fun H locs hw => ?_)
              refine x_ifb_eq E (P := lnS 3 = z - q8 ∧ eqL 3 gb q8 (lnS 3) = true) (tgt := 82) dX2_wordHere_77 (by decide) (fun hs3 => ?_) (fun hs3 => ?_)
              · refine lv_aload_n hx hb dX2_wordHere_82 rfl (lv_at hl 0 rfl) ?_
                refine va_ldcS hx hb E.2.2.2.1 (hw.2.2.2.2.2.2.2.1 4 (by decide)) dX2_wordHere_83 ?_
                refine x_cfVi E hw hl.1 (As := [.ref (G.2.2.2.1 4)]) (rest := []) (c_X2_isHere l G tx b0 d0 f0 0 f1 0 q1 q2 q3 q4 q7 q8 z q10 q11 q12 q13 q14 N gb 4 (by omega) (by decide) (by omega) (by omega) hgb) 1 gX2_wordHere_X2_isHere rfl rfl rfl (by decide) ⟨Nat.le_of_ble_eq_true rfl, Nat.le_of_ble_eq_true rfl⟩ ⟨Nat.le_of_ble_eq_true rfl, Nat.le_of_ble_eq_true rfl⟩ rfl 0 (ci := 2) (C := RX2) (T := TX2) (N := 15) rfl rfl [0, 1, 2] [] rfl rfl rfl rfl rfl [0, 1, 2] [(tx, .inr (2, [.ref b0, .int (nI q1), .int (nI q2), .int (nI q3), .int (nI q4), .ref f0, .ref f1, .int (nI q7), .int (nI q8), .int (nI z), .int (nI q10), .int (nI q11), .int (nI q12), .int (nI q13), .int (nI q14)])), (b0, .inr (1, [.ref d0, .int (nI N)])), (d0, .inl (cJ G, 200, .inr (.inl (fJ gb))))] rfl rfl rfl (Nat.le_of_ble_eq_true rfl) dX2_wordHere_85 (fun H locs hw => ?_)
                refine x_ifb_eq E (P := lnS 4 = z - q8 ∧ eqL 4 gb q8 (lnS 4) = true) (tgt := 95) dX2_wordHere_88 (by decide) (fun hs4 => ?_) (fun hs4 => ?_)
                · refine lv_bipush (v := (nI 8)) hx hb dX2_wordHere_95 (by decide) ?_
                  exact hret (nI 8) () _ _ _ _ dX2_wordHere_97 rfl (by rw [hlr, wdC, if_neg hs0, if_neg hs1, if_neg hs2, if_neg hs3, if_neg hs4]) (hw.cast (by rw [hlr]))
                · refine lv_iconst (v := (nI 4)) hx hb dX2_wordHere_91 (by decide) ?_
                  refine lv_goto (tgt := 97) hx hb dX2_wordHere_92 (by decide) ?_
                  exact hret (nI 4) () _ _ _ _ dX2_wordHere_97 rfl (by rw [hlr, wdC, if_neg hs0, if_neg hs1, if_neg hs2, if_neg hs3, if_pos hs4]) (hw.cast (by rw [hlr]))
              · refine lv_iconst (v := (nI 3)) hx hb dX2_wordHere_80 (by decide) ?_
                exact hret (nI 3) () _ _ _ _ dX2_wordHere_81 rfl (by rw [hlr, wdC, if_neg hs0, if_neg hs1, if_neg hs2, if_pos hs3]) (hw.cast (by rw [hlr]))
            · refine lv_iconst (v := (nI 2)) hx hb dX2_wordHere_69 (by decide) ?_
              exact hret (nI 2) () _ _ _ _ dX2_wordHere_70 rfl (by rw [hlr, wdC, if_neg hs0, if_neg hs1, if_pos hs2]) (hw.cast (by rw [hlr]))
          · refine lv_iconst (v := (nI 1)) hx hb dX2_wordHere_58 (by decide) ?_
            exact hret (nI 1) () _ _ _ _ dX2_wordHere_59 rfl (by rw [hlr, wdC, if_neg hs0, if_pos hs1]) (hw.cast (by rw [hlr]))
        · refine lv_iconst (v := (nI 0)) hx hb dX2_wordHere_47 (by decide) ?_
          exact hret (nI 0) () _ _ _ _ dX2_wordHere_48 rfl (by rw [hlr, wdC, if_pos hs0]) (hw.cast (by rw [hlr]))
      refine lv_aload_n hx hb dX2_wordHere_0 rfl (lv_at hl 0 rfl) ?_
      refine x_get E hw (C := RX2) (T := TX2) (N := 15) hinX2 0 rfl rfl 9 (by decide) rfl (List.mem_of_getElem? (i := 1) rfl) dX2_wordHere_1 ?_
      refine lv_aload_n hx hb dX2_wordHere_4 rfl (lv_at hl 0 rfl) ?_
      refine x_get E hw (C := RX2) (T := TX2) (N := 15) hinX2 0 rfl rfl 0 (by decide) rfl (List.mem_of_getElem? (i := 2) rfl) dX2_wordHere_5 ?_
      refine x_cfVi E hw hl.1 (As := []) (rest := [.int (nI z)]) (c_X1_size l G b0 d0 N) 0 gX2_wordHere_X1_size rfl rfl rfl (by decide) ⟨Nat.le_of_ble_eq_true rfl, Nat.le_of_ble_eq_true rfl⟩ ⟨Nat.le_of_ble_eq_true rfl, Nat.le_of_ble_eq_true rfl⟩ rfl 1 (ci := 1) (C := RX1) (T := TX1) (N := 2) rfl rfl [1] [0, 2] rfl rfl rfl rfl rfl [0, 2, 1] [(tx, .inr (2, [.ref b0, .int (nI q1), .int (nI q2), .int (nI q3), .int (nI q4), .ref f0, .ref f1, .int (nI q7), .int (nI q8), .int (nI z), .int (nI q10), .int (nI q11), .int (nI q12), .int (nI q13), .int (nI q14)])), (b0, .inr (1, [.ref d0, .int (nI N)])), (d0, .inl (cJ G, 200, .inr (.inl (fJ gb))))] rfl rfl rfl (Nat.le_of_ble_eq_true rfl) dX2_wordHere_8 (fun H locs hw => ?_)
      refine x_icmp_ge E (nI_toI (show z < 2147483648 by omega)) (nI_toI (show N < 2147483648 by omega)) (tgt := 38) dX2_wordHere_11 (by decide) (fun c_1 => ?_) (fun c_1 => ?_)
      · exact cut_38 (by omega) _ _ _ hw (lv_sub hl [0] rfl)
      · refine lv_aload_n hx hb dX2_wordHere_14 rfl (lv_at hl 0 rfl) ?_
        refine lv_aload_n hx hb dX2_wordHere_15 rfl (lv_at hl 0 rfl) ?_
        refine x_get E hw (C := RX2) (T := TX2) (N := 15) hinX2 0 rfl rfl 9 (by decide) rfl (List.mem_of_getElem? (i := 1) rfl) dX2_wordHere_16 ?_
        refine x_cfVi E hw hl.1 (As := [.int (nI z)]) (rest := []) (c_X2_isLetter l G tx b0 d0 f0 0 f1 0 q1 q2 q3 q4 q7 q8 z q10 q11 q12 q13 q14 N gb z (by omega) (by omega) hgb) 1 gX2_wordHere_X2_isLetter rfl rfl rfl (by decide) ⟨Nat.le_of_ble_eq_true rfl, Nat.le_of_ble_eq_true rfl⟩ ⟨Nat.le_of_ble_eq_true rfl, Nat.le_of_ble_eq_true rfl⟩ rfl 0 (ci := 2) (C := RX2) (T := TX2) (N := 15) rfl rfl [0, 1, 2] [] rfl rfl rfl rfl rfl [0, 1, 2] [(tx, .inr (2, [.ref b0, .int (nI q1), .int (nI q2), .int (nI q3), .int (nI q4), .ref f0, .ref f1, .int (nI q7), .int (nI q8), .int (nI z), .int (nI q10), .int (nI q11), .int (nI q12), .int (nI q13), .int (nI q14)])), (b0, .inr (1, [.ref d0, .int (nI N)])), (d0, .inl (cJ G, 200, .inr (.inl (fJ gb))))] rfl rfl rfl (Nat.le_of_ble_eq_true rfl) dX2_wordHere_19 (fun H locs hw => ?_)
        refine x_ifb_eq E (P := z < N ∧ 97 ≤ gb z ∧ gb z ≤ 122) (tgt := 38) dX2_wordHere_22 (by decide) (fun hil => ?_) (fun hil => ?_)
        · exact cut_38 (by omega) _ _ _ hw (lv_sub hl [0] rfl)
        · refine lv_aload_n hx hb dX2_wordHere_25 rfl (lv_at hl 0 rfl) ?_
          refine lv_dup hx hb dX2_wordHere_26 rfl ?_
          refine x_get E hw (C := RX2) (T := TX2) (N := 15) hinX2 0 rfl rfl 9 (by decide) rfl (List.mem_of_getElem? (i := 1) rfl) dX2_wordHere_27 ?_
          refine lv_iconst (v := (nI 1)) hx hb dX2_wordHere_30 (by decide) ?_
          refine x_iadd E (v := (nI (z + 1))) dX2_wordHere_31 (nI_add _ _) ?_
          refine x_put E hw (C := RX2) (T := TX2) (N := 15) (ws1 := [(tx, .inr (2, [.ref b0, .int (nI q1), .int (nI q2), .int (nI q3), .int (nI q4), .ref f0, .ref f1, .int (nI q7), .int (nI q8), .int (nI (z + 1)), .int (nI q10), .int (nI q11), .int (nI q12), .int (nI q13), .int (nI q14)])), (b0, .inr (1, [.ref d0, .int (nI N)])), (d0, .inl (cJ G, 200, .inr (.inl (fJ gb))))]) hinX2 tyX2_ok nmX2 0 rfl rfl 9 (by decide) (List.mem_of_getElem? (i := 1) rfl) rfl rfl rfl (Nat.le_of_ble_eq_true rfl) rfl dX2_wordHere_32 (fun H locs hw => ?_)
          refine lv_goto (tgt := 0) hx hb dX2_wordHere_35 (by decide) ?_
          exact ih_0 (z + 1) (by omega) (by omega) ((lrL_yes hil).symm.trans hinv) (by omega) _ _ _ hw (lv_sub hl [0] rfl)
  exact loop_0 (N - q9 + 1) q9 (by omega) (by omega) rfl (Nat.lt_succ_self _) _ _ _ hw (lv_sub hl [0] rfl)

abbrev rm_X2_numberHere : Room := { frames := 2, cells := 0, slots := 0, locals := 42 }
set_option maxHeartbeats 4000000 in
set_option maxRecDepth 100000 in
theorem c_X2_numberHere (l : Launch) (G : XG) (tx : Nat) (b0 : Nat) (d0 : Nat) (f0 : Nat) (e0 : Nat) (f1 : Nat) (e1 : Nat) (q1 : Nat) (q2 : Nat) (q3 : Nat) (q4 : Nat) (q7 : Nat) (q8 : Nat) (q9 : Nat) (q10 : Nat) (q11 : Nat) (q12 : Nat) (q13 : Nat) (q14 : Nat) (N : Nat) (gb : Nat → Nat) (hN : N ≤ 200) (hgb : ∀ q, gb q < 256) (hp : q9 = q8 + 1) (he : q9 ≤ N) (hd : 48 ≤ gb q8 ∧ gb q8 ≤ 57) : CfI l yX2_numberHere wsX2_numberHere rm_X2_numberHere G [.ref tx] [(tx, .inr (2, [.ref b0, .int (nI q1), .int (nI q2), .int (nI q3), .int (nI q4), .ref f0, .ref f1, .int (nI q7), .int (nI q8), .int (nI q9), .int (nI q10), .int (nI q11), .int (nI q12), .int (nI q13), .int (nI q14)])), (b0, .inr (1, [.ref d0, .int (nI N)])), (d0, .inl (cJ G, 200, .inr (.inl (fJ gb))))] (nI (nbC gb N q8)) [(tx, .inr (2, [.ref b0, .int (nI q1), .int (nI q2), .int (nI q3), .int (nI q4), .ref f0, .ref f1, .int (nI q7), .int (nI q8), .int (nI (dr gb N q9)), .int (nI q10), .int (nI (nv gb N q8)), .int (nI q12), .int (nI q13), .int (nI q14)])), (b0, .inr (1, [.ref d0, .int (nI N)])), (d0, .inl (cJ G, 200, .inr (.inl (fJ gb))))] := by
  refine CtI.go (cc := cX2_numberHere) (maxL := 2) RX2 rfl (by decide) rfl (Nat.le_of_ble_eq_true rfl) ?_
  intro p e s m args below meth c A Q ls E hw hl hret
  have hx := E.1
  have hb := E.2.1
  have hinX2 : ∀ w ∈ wsX20, w ∈ wsX2_numberHere := (fun w h => List.mem_cons_of_mem _ (List.mem_append_left _ (List.mem_append_right _ h)))
  have hl : lv_has ls 2 [(0, .ref tx)] := hl
  refine lv_aload_n hx hb dX2_numberHere_0 rfl (lv_at hl 0 rfl) ?_
  refine lv_aload_n hx hb dX2_numberHere_1 rfl (lv_at hl 0 rfl) ?_
  refine x_get E hw (C := RX2) (T := TX2) (N := 15) hinX2 0 rfl rfl 0 (by decide) rfl (List.mem_of_getElem? (i := 1) rfl) dX2_numberHere_2 ?_
  refine lv_aload_n hx hb dX2_numberHere_5 rfl (lv_at hl 0 rfl) ?_
  refine x_get E hw (C := RX2) (T := TX2) (N := 15) hinX2 0 rfl rfl 8 (by decide) rfl (List.mem_of_getElem? (i := 2) rfl) dX2_numberHere_6 ?_
  refine x_cfVl E hw hl.1 (As := [.int (nI q8)]) (rest := [.ref tx]) (c_X1_at l G b0 d0 N 200 q8 gb (by omega) (by omega)) 1 gX2_numberHere_X1_at rfl rfl rfl (by decide) ⟨Nat.le_of_ble_eq_true rfl, Nat.le_of_ble_eq_true rfl⟩ ⟨Nat.le_of_ble_eq_true rfl, Nat.le_of_ble_eq_true rfl⟩ rfl 1 (ci := 1) (C := RX1) (T := TX1) (N := 2) rfl rfl [1, 2] [0] rfl rfl rfl rfl rfl [0, 1, 2] [(tx, .inr (2, [.ref b0, .int (nI q1), .int (nI q2), .int (nI q3), .int (nI q4), .ref f0, .ref f1, .int (nI q7), .int (nI q8), .int (nI q9), .int (nI q10), .int (nI q11), .int (nI q12), .int (nI q13), .int (nI q14)])), (b0, .inr (1, [.ref d0, .int (nI N)])), (d0, .inl (cJ G, 200, .inr (.inl (fJ gb))))] rfl rfl rfl (Nat.le_of_ble_eq_true rfl) dX2_numberHere_9 (fun H locs hw => ?_)
  refine lv_l2i (v := (nI (gb q8))) hx hb dX2_numberHere_12 (lN_i _) ?_
  refine lv_bipush (v := (nI 48)) hx hb dX2_numberHere_13 (by decide) ?_
  have hgq := hgb q8
  refine x_isub E (v := (nI ((gb q8) - 48))) dX2_numberHere_15 (pk_sub (by omega)) ?_
  refine x_put E hw (C := RX2) (T := TX2) (N := 15) (ws1 := [(tx, .inr (2, [.ref b0, .int (nI q1), .int (nI q2), .int (nI q3), .int (nI q4), .ref f0, .ref f1, .int (nI q7), .int (nI q8), .int (nI q9), .int (nI q10), .int (nI ((gb q8) - 48)), .int (nI q12), .int (nI q13), .int (nI q14)])), (b0, .inr (1, [.ref d0, .int (nI N)])), (d0, .inl (cJ G, 200, .inr (.inl (fJ gb))))]) hinX2 tyX2_ok nmX2 0 rfl rfl 11 (by decide) (List.mem_of_getElem? (i := 3) rfl) rfl rfl rfl (Nat.le_of_ble_eq_true rfl) rfl dX2_numberHere_16 (fun H locs hw => ?_)
  have loop_19 : ∀ (fu : Nat) (z : Nat) (v : Nat), q9 ≤ z → z ≤ N → v ≤ 100 → drL gb N (N - z) z = dr gb N q9 → nmL gb N (N - z) z v = nmL gb N (N - q9) q9 (gb q8 - 48) → N - z < fu → ∀ (H : Heap) (locs : List Loc) (ls : Array Slot), Wd G s A [(tx, .inr (2, [.ref b0, .int (nI q1), .int (nI q2), .int (nI q3), .int (nI q4), .ref f0, .ref f1, .int (nI q7), .int (nI q8), .int (nI z), .int (nI q10), .int (nI v), .int (nI q12), .int (nI q13), .int (nI q14)])), (b0, .inr (1, [.ref d0, .int (nI N)])), (d0, .inl (cJ G, 200, .inr (.inl (fJ gb))))] H locs → lv_has ls 2 [(0, .ref tx)] → W p l e rm_X2_numberHere s m args below meth c H locs 0 0 Q (F0 m 19 ls []) := by
    intro fu
    induction fu with
    | zero =>
      intro z v hz hzN hv hinv hnum hmu
      exact absurd hmu (Nat.not_lt_zero _)
    | succ fu ih_19 =>
      intro z v hz hzN hv hinv hnum hmu_19 H locs ls hw hl
      have cut_89 : (¬ (z < N ∧ 48 ≤ gb z ∧ gb z ≤ 57)) → ∀ (H : Heap) (locs : List Loc) (ls : Array Slot), Wd G s A [(tx, .inr (2, [.ref b0, .int (nI q1), .int (nI q2), .int (nI q3), .int (nI q4), .ref f0, .ref f1, .int (nI q7), .int (nI q8), .int (nI z), .int (nI q10), .int (nI v), .int (nI q12), .int (nI q13), .int (nI q14)])), (b0, .inr (1, [.ref d0, .int (nI N)])), (d0, .inl (cJ G, 200, .inr (.inl (fJ gb))))] H locs → lv_has ls 2 [(0, .ref tx)] → W p l e rm_X2_numberHere s m args below meth c H locs 0 0 Q (F0 m 89 ls []) := by
        intro hil H locs ls hw hl
        have hdr : dr gb N q9 = z := hinv.symm.trans (drL_no hil)
        have hnv : nv gb N q8 = v := by unfold nv; rw [← hp, ← hnum]; exact nmL_no hil
        refine lv_aload_n hx hb dX2_numberHere_89 rfl (lv_at hl 0 rfl) ?_
        refine x_get E hw (C := RX2) (T := TX2) (N := 15) hinX2 0 rfl rfl 0 (by decide) rfl (List.mem_of_getElem? (i := 1) rfl) dX2_numberHere_90 ?_
        refine lv_aload_n hx hb dX2_numberHere_93 rfl (lv_at hl 0 rfl) ?_
        refine x_get E hw (C := RX2) (T := TX2) (N := 15) hinX2 0 rfl rfl 8 (by decide) rfl (List.mem_of_getElem? (i := 2) rfl) dX2_numberHere_94 ?_
        refine x_cfVl E hw hl.1 (As := [.int (nI q8)]) (rest := []) (c_X1_at l G b0 d0 N 200 q8 gb (by omega) (by omega)) 1 gX2_numberHere_X1_at rfl rfl rfl (by decide) ⟨Nat.le_of_ble_eq_true rfl, Nat.le_of_ble_eq_true rfl⟩ ⟨Nat.le_of_ble_eq_true rfl, Nat.le_of_ble_eq_true rfl⟩ rfl 1 (ci := 1) (C := RX1) (T := TX1) (N := 2) rfl rfl [1, 2] [0] rfl rfl rfl rfl rfl [0, 1, 2] [(tx, .inr (2, [.ref b0, .int (nI q1), .int (nI q2), .int (nI q3), .int (nI q4), .ref f0, .ref f1, .int (nI q7), .int (nI q8), .int (nI z), .int (nI q10), .int (nI v), .int (nI q12), .int (nI q13), .int (nI q14)])), (b0, .inr (1, [.ref d0, .int (nI N)])), (d0, .inl (cJ G, 200, .inr (.inl (fJ gb))))] rfl rfl rfl (Nat.le_of_ble_eq_true rfl) dX2_numberHere_97 (fun H locs hw => ?_)
        refine lv_ldc2 (v := (48)) hx hb E.2.2.2.1 (E.2.2.2.2 _ (List.mem_of_getElem? (i := 9) rfl)) dX2_numberHere_100 ?_
        refine x_topl (v := lN 48) (by decide) ?_
        refine x_lc_ne E (lN_toI (show gb q8 < 9223372036854775808 by omega)) (lN_toI (by decide)) (tgt := 124) dX2_numberHere_103 dX2_numberHere_104 (by decide) (fun c_1 => ?_) (fun c_1 => ?_)
        · refine lv_iconst (v := (nI 0)) hx hb dX2_numberHere_124 (by decide) ?_
          refine lv_istore_n (lv' := [(1, .int (nI 0)), (0, .ref tx)]) hx hb dX2_numberHere_125 rfl hl (by decide) rfl (fun ls hl => ?_)
          refine lv_aload_n hx hb dX2_numberHere_126 rfl (lv_at hl 1 rfl) ?_
          refine x_get E hw (C := RX2) (T := TX2) (N := 15) hinX2 0 rfl rfl 11 (by decide) rfl (List.mem_of_getElem? (i := 3) rfl) dX2_numberHere_127 ?_
          refine lv_bipush (v := (nI 99)) hx hb dX2_numberHere_130 (by decide) ?_
          refine x_icmp_gt E (nI_toI (show v < 2147483648 by omega)) (nI_toI (by decide)) (tgt := 139) dX2_numberHere_132 (by decide) (fun c_2 => ?_) (fun c_2 => ?_)
          · refine lv_bipush (v := (nI 8)) hx hb dX2_numberHere_139 (by decide) ?_
            refine lv_goto (tgt := 145) hx hb dX2_numberHere_141 (by decide) ?_
            exact hret (nI 8) () _ _ _ _ dX2_numberHere_145 rfl (by unfold nbC; rw [← hp, hdr, hnv]; exact (congrArg nI ((if_pos (by omega)).symm))) (hw.cast (by rw [hdr, hnv]))
          · refine lv_iload_n hx hb dX2_numberHere_135 rfl (lv_at hl 0 rfl) ?_
            refine x_if_eq E (nI_toI (by decide)) (tgt := 144) dX2_numberHere_136 (by decide) (fun c_3 => ?_) (fun c_3 => ?_)
            · refine lv_iconst (v := (nI 5)) hx hb dX2_numberHere_144 (by decide) ?_
              exact hret (nI 5) () _ _ _ _ dX2_numberHere_145 rfl (by unfold nbC; rw [← hp, hdr, hnv]; exact (congrArg nI ((if_neg (by omega)).symm))) (hw.cast (by rw [hdr, hnv]))
            · exact absurd c_3 (by decide)
        · refine lv_aload_n hx hb dX2_numberHere_107 rfl (lv_at hl 0 rfl) ?_
          refine x_get E hw (C := RX2) (T := TX2) (N := 15) hinX2 0 rfl rfl 9 (by decide) rfl (List.mem_of_getElem? (i := 4) rfl) dX2_numberHere_108 ?_
          refine lv_aload_n hx hb dX2_numberHere_111 rfl (lv_at hl 0 rfl) ?_
          refine x_get E hw (C := RX2) (T := TX2) (N := 15) hinX2 0 rfl rfl 8 (by decide) rfl (List.mem_of_getElem? (i := 2) rfl) dX2_numberHere_112 ?_
          refine x_isub E (v := (nI (z - q8))) dX2_numberHere_115 (pk_sub (by omega)) ?_
          refine lv_iconst (v := (nI 1)) hx hb dX2_numberHere_116 (by decide) ?_
          refine x_icmp_le E (nI_toI (show z - q8 < 2147483648 by omega)) (nI_toI (by decide)) (tgt := 124) dX2_numberHere_117 (by decide) (fun c_4 => ?_) (fun c_4 => ?_)
          · refine lv_iconst (v := (nI 0)) hx hb dX2_numberHere_124 (by decide) ?_
            refine lv_istore_n (lv' := [(1, .int (nI 0)), (0, .ref tx)]) hx hb dX2_numberHere_125 rfl hl (by decide) rfl (fun ls hl => ?_)
            refine lv_aload_n hx hb dX2_numberHere_126 rfl (lv_at hl 1 rfl) ?_
            refine x_get E hw (C := RX2) (T := TX2) (N := 15) hinX2 0 rfl rfl 11 (by decide) rfl (List.mem_of_getElem? (i := 3) rfl) dX2_numberHere_127 ?_
            refine lv_bipush (v := (nI 99)) hx hb dX2_numberHere_130 (by decide) ?_
            refine x_icmp_gt E (nI_toI (show v < 2147483648 by omega)) (nI_toI (by decide)) (tgt := 139) dX2_numberHere_132 (by decide) (fun c_5 => ?_) (fun c_5 => ?_)
            · refine lv_bipush (v := (nI 8)) hx hb dX2_numberHere_139 (by decide) ?_
              refine lv_goto (tgt := 145) hx hb dX2_numberHere_141 (by decide) ?_
              exact hret (nI 8) () _ _ _ _ dX2_numberHere_145 rfl (by unfold nbC; rw [← hp, hdr, hnv]; exact (congrArg nI ((if_pos (by omega)).symm))) (hw.cast (by rw [hdr, hnv]))
            · refine lv_iload_n hx hb dX2_numberHere_135 rfl (lv_at hl 0 rfl) ?_
              refine x_if_eq E (nI_toI (by decide)) (tgt := 144) dX2_numberHere_136 (by decide) (fun c_6 => ?_) (fun c_6 => ?_)
              · refine lv_iconst (v := (nI 5)) hx hb dX2_numberHere_144 (by decide) ?_
                exact hret (nI 5) () _ _ _ _ dX2_numberHere_145 rfl (by unfold nbC; rw [← hp, hdr, hnv]; exact (congrArg nI ((if_neg (by omega)).symm))) (hw.cast (by rw [hdr, hnv]))
              · exact absurd c_6 (by decide)
          · refine lv_iconst (v := (nI 1)) hx hb dX2_numberHere_120 (by decide) ?_
            refine lv_goto (tgt := 125) hx hb dX2_numberHere_121 (by decide) ?_
            refine lv_istore_n (lv' := [(1, .int (nI 1)), (0, .ref tx)]) hx hb dX2_numberHere_125 rfl hl (by decide) rfl (fun ls hl => ?_)
            refine lv_aload_n hx hb dX2_numberHere_126 rfl (lv_at hl 1 rfl) ?_
            refine x_get E hw (C := RX2) (T := TX2) (N := 15) hinX2 0 rfl rfl 11 (by decide) rfl (List.mem_of_getElem? (i := 3) rfl) dX2_numberHere_127 ?_
            refine lv_bipush (v := (nI 99)) hx hb dX2_numberHere_130 (by decide) ?_
            refine x_icmp_gt E (nI_toI (show v < 2147483648 by omega)) (nI_toI (by decide)) (tgt := 139) dX2_numberHere_132 (by decide) (fun c_7 => ?_) (fun c_7 => ?_)
            · refine lv_bipush (v := (nI 8)) hx hb dX2_numberHere_139 (by decide) ?_
              refine lv_goto (tgt := 145) hx hb dX2_numberHere_141 (by decide) ?_
              exact hret (nI 8) () _ _ _ _ dX2_numberHere_145 rfl (by unfold nbC; rw [← hp, hdr, hnv]; exact (congrArg nI ((if_pos (by omega)).symm))) (hw.cast (by rw [hdr, hnv]))
            · refine lv_iload_n hx hb dX2_numberHere_135 rfl (lv_at hl 0 rfl) ?_
              refine x_if_eq E (nI_toI (by decide)) (tgt := 144) dX2_numberHere_136 (by decide) (fun c_8 => ?_) (fun c_8 => ?_)
              · exact absurd c_8 (by decide)
              · refine lv_bipush (v := (nI 8)) hx hb dX2_numberHere_139 (by decide) ?_
                refine lv_goto (tgt := 145) hx hb dX2_numberHere_141 (by decide) ?_
                exact hret (nI 8) () _ _ _ _ dX2_numberHere_145 rfl (by unfold nbC; rw [← hp, hdr, hnv]; exact (congrArg nI ((if_pos (by omega)).symm))) (hw.cast (by rw [hdr, hnv]))
      refine lv_aload_n hx hb dX2_numberHere_19 rfl (lv_at hl 0 rfl) ?_
      refine x_get E hw (C := RX2) (T := TX2) (N := 15) hinX2 0 rfl rfl 9 (by decide) rfl (List.mem_of_getElem? (i := 4) rfl) dX2_numberHere_20 ?_
      refine lv_aload_n hx hb dX2_numberHere_23 rfl (lv_at hl 0 rfl) ?_
      refine x_get E hw (C := RX2) (T := TX2) (N := 15) hinX2 0 rfl rfl 0 (by decide) rfl (List.mem_of_getElem? (i := 1) rfl) dX2_numberHere_24 ?_
      refine x_cfVi E hw hl.1 (As := []) (rest := [.int (nI z)]) (c_X1_size l G b0 d0 N) 0 gX2_numberHere_X1_size rfl rfl rfl (by decide) ⟨Nat.le_of_ble_eq_true rfl, Nat.le_of_ble_eq_true rfl⟩ ⟨Nat.le_of_ble_eq_true rfl, Nat.le_of_ble_eq_true rfl⟩ rfl 1 (ci := 1) (C := RX1) (T := TX1) (N := 2) rfl rfl [1] [0, 2] rfl rfl rfl rfl rfl [0, 2, 1] [(tx, .inr (2, [.ref b0, .int (nI q1), .int (nI q2), .int (nI q3), .int (nI q4), .ref f0, .ref f1, .int (nI q7), .int (nI q8), .int (nI z), .int (nI q10), .int (nI v), .int (nI q12), .int (nI q13), .int (nI q14)])), (b0, .inr (1, [.ref d0, .int (nI N)])), (d0, .inl (cJ G, 200, .inr (.inl (fJ gb))))] rfl rfl rfl (Nat.le_of_ble_eq_true rfl) dX2_numberHere_27 (fun H locs hw => ?_)
      refine x_icmp_ge E (nI_toI (show z < 2147483648 by omega)) (nI_toI (show N < 2147483648 by omega)) (tgt := 89) dX2_numberHere_30 (by decide) (fun c_9 => ?_) (fun c_9 => ?_)
      · exact cut_89 (by omega) _ _ _ hw (lv_sub hl [0] rfl)
      · refine lv_aload_n hx hb dX2_numberHere_33 rfl (lv_at hl 0 rfl) ?_
        refine lv_aload_n hx hb dX2_numberHere_34 rfl (lv_at hl 0 rfl) ?_
        refine x_get E hw (C := RX2) (T := TX2) (N := 15) hinX2 0 rfl rfl 9 (by decide) rfl (List.mem_of_getElem? (i := 4) rfl) dX2_numberHere_35 ?_
        refine x_cfVi E hw hl.1 (As := [.int (nI z)]) (rest := []) (c_X2_isDigit l G tx b0 d0 f0 0 f1 0 q1 q2 q3 q4 q7 q8 z q10 v q12 q13 q14 N gb z (by omega) (by omega) hgb) 1 gX2_numberHere_X2_isDigit rfl rfl rfl (by decide) ⟨Nat.le_of_ble_eq_true rfl, Nat.le_of_ble_eq_true rfl⟩ ⟨Nat.le_of_ble_eq_true rfl, Nat.le_of_ble_eq_true rfl⟩ rfl 0 (ci := 2) (C := RX2) (T := TX2) (N := 15) rfl rfl [0, 1, 2] [] rfl rfl rfl rfl rfl [0, 1, 2] [(tx, .inr (2, [.ref b0, .int (nI q1), .int (nI q2), .int (nI q3), .int (nI q4), .ref f0, .ref f1, .int (nI q7), .int (nI q8), .int (nI z), .int (nI q10), .int (nI v), .int (nI q12), .int (nI q13), .int (nI q14)])), (b0, .inr (1, [.ref d0, .int (nI N)])), (d0, .inl (cJ G, 200, .inr (.inl (fJ gb))))] rfl rfl rfl (Nat.le_of_ble_eq_true rfl) dX2_numberHere_38 (fun H locs hw => ?_)
        refine x_ifb_eq E (P := z < N ∧ 48 ≤ gb z ∧ gb z ≤ 57) (tgt := 89) dX2_numberHere_41 (by decide) (fun hil => ?_) (fun hil => ?_)
        · exact cut_89 (by omega) _ _ _ hw (lv_sub hl [0] rfl)
        · refine lv_aload_n hx hb dX2_numberHere_44 rfl (lv_at hl 0 rfl) ?_
          refine lv_aload_n hx hb dX2_numberHere_45 rfl (lv_at hl 0 rfl) ?_
          refine x_get E hw (C := RX2) (T := TX2) (N := 15) hinX2 0 rfl rfl 11 (by decide) rfl (List.mem_of_getElem? (i := 3) rfl) dX2_numberHere_46 ?_
          refine lv_bipush (v := (nI 10)) hx hb dX2_numberHere_49 (by decide) ?_
          refine x_imul E (v := (nI (v * 10))) dX2_numberHere_51 (pk_mul _ _) ?_
          have hgz := hgb z
          refine lv_aload_n hx hb dX2_numberHere_52 rfl (lv_at hl 0 rfl) ?_
          refine x_get E hw (C := RX2) (T := TX2) (N := 15) hinX2 0 rfl rfl 0 (by decide) rfl (List.mem_of_getElem? (i := 1) rfl) dX2_numberHere_53 ?_
          refine lv_aload_n hx hb dX2_numberHere_56 rfl (lv_at hl 0 rfl) ?_
          refine x_get E hw (C := RX2) (T := TX2) (N := 15) hinX2 0 rfl rfl 9 (by decide) rfl (List.mem_of_getElem? (i := 4) rfl) dX2_numberHere_57 ?_
          refine x_cfVl E hw hl.1 (As := [.int (nI z)]) (rest := [.int (nI (v * 10)), .ref tx]) (c_X1_at l G b0 d0 N 200 z gb (by omega) (by omega)) 1 gX2_numberHere_X1_at rfl rfl rfl (by decide) ⟨Nat.le_of_ble_eq_true rfl, Nat.le_of_ble_eq_true rfl⟩ ⟨Nat.le_of_ble_eq_true rfl, Nat.le_of_ble_eq_true rfl⟩ rfl 1 (ci := 1) (C := RX1) (T := TX1) (N := 2) rfl rfl [1, 2] [0] rfl rfl rfl rfl rfl [0, 1, 2] [(tx, .inr (2, [.ref b0, .int (nI q1), .int (nI q2), .int (nI q3), .int (nI q4), .ref f0, .ref f1, .int (nI q7), .int (nI q8), .int (nI z), .int (nI q10), .int (nI v), .int (nI q12), .int (nI q13), .int (nI q14)])), (b0, .inr (1, [.ref d0, .int (nI N)])), (d0, .inl (cJ G, 200, .inr (.inl (fJ gb))))] rfl rfl rfl (Nat.le_of_ble_eq_true rfl) dX2_numberHere_60 (fun H locs hw => ?_)
          refine lv_l2i (v := (nI (gb z))) hx hb dX2_numberHere_63 (lN_i _) ?_
          refine x_iadd E (v := (nI ((v * 10) + (gb z)))) dX2_numberHere_64 (nI_add _ _) ?_
          refine lv_bipush (v := (nI 48)) hx hb dX2_numberHere_65 (by decide) ?_
          refine x_isub E (v := (nI (((v * 10) + (gb z)) - 48))) dX2_numberHere_67 (pk_sub (by omega)) ?_
          refine lv_bipush (v := (nI 100)) hx hb dX2_numberHere_68 (by decide) ?_
          refine va_mmin hx hb (by rw [E.2.2.1]; exact hl.1.symm) E.2.2.2.1 (E.2.2.2.2 _ (List.mem_of_getElem? (i := 5) rfl)) (E.2.2.2.2 _ (List.mem_of_getElem? (i := 6) rfl)) (E.2.2.2.2 _ (List.mem_of_getElem? (i := 7) rfl)) (E.2.2.2.2 _ (List.mem_of_getElem? (i := 8) rfl)) (Nat.le_of_ble_eq_true rfl) (Nat.le_of_ble_eq_true rfl) (Nat.le_of_ble_eq_true rfl) (Nat.le_of_ble_eq_true rfl) dX2_numberHere_70 ?_
          refine x_topi (v := (nI (mn (v * 10 + gb z - 48) 100))) (x_min (by omega) (by omega)) ?_
          refine x_put E hw (C := RX2) (T := TX2) (N := 15) (ws1 := [(tx, .inr (2, [.ref b0, .int (nI q1), .int (nI q2), .int (nI q3), .int (nI q4), .ref f0, .ref f1, .int (nI q7), .int (nI q8), .int (nI z), .int (nI q10), .int (nI (mn (v * 10 + gb z - 48) 100)), .int (nI q12), .int (nI q13), .int (nI q14)])), (b0, .inr (1, [.ref d0, .int (nI N)])), (d0, .inl (cJ G, 200, .inr (.inl (fJ gb))))]) hinX2 tyX2_ok nmX2 0 rfl rfl 11 (by decide) (List.mem_of_getElem? (i := 3) rfl) rfl rfl rfl (Nat.le_of_ble_eq_true rfl) rfl dX2_numberHere_73 (fun H locs hw => ?_)
          refine lv_aload_n hx hb dX2_numberHere_76 rfl (lv_at hl 0 rfl) ?_
          refine lv_dup hx hb dX2_numberHere_77 rfl ?_
          refine x_get E hw (C := RX2) (T := TX2) (N := 15) hinX2 0 rfl rfl 9 (by decide) rfl (List.mem_of_getElem? (i := 4) rfl) dX2_numberHere_78 ?_
          refine lv_iconst (v := (nI 1)) hx hb dX2_numberHere_81 (by decide) ?_
          refine x_iadd E (v := (nI (z + 1))) dX2_numberHere_82 (nI_add _ _) ?_
          refine x_put E hw (C := RX2) (T := TX2) (N := 15) (ws1 := [(tx, .inr (2, [.ref b0, .int (nI q1), .int (nI q2), .int (nI q3), .int (nI q4), .ref f0, .ref f1, .int (nI q7), .int (nI q8), .int (nI (z + 1)), .int (nI q10), .int (nI (mn (v * 10 + gb z - 48) 100)), .int (nI q12), .int (nI q13), .int (nI q14)])), (b0, .inr (1, [.ref d0, .int (nI N)])), (d0, .inl (cJ G, 200, .inr (.inl (fJ gb))))]) hinX2 tyX2_ok nmX2 0 rfl rfl 9 (by decide) (List.mem_of_getElem? (i := 4) rfl) rfl rfl rfl (Nat.le_of_ble_eq_true rfl) rfl dX2_numberHere_83 (fun H locs hw => ?_)
          refine lv_goto (tgt := 19) hx hb dX2_numberHere_86 (by decide) ?_
          exact ih_19 (z + 1) (mn (v * 10 + gb z - 48) 100) (by omega) (by omega) (mn_le _ _) ((drL_yes hil).symm.trans hinv) ((nmL_yes hil).symm.trans hnum) (by omega) _ _ _ hw (lv_sub hl [0] rfl)
  exact loop_19 (N - q9 + 1) q9 (gb q8 - 48) (by omega) (by omega) (by omega) rfl rfl (Nat.lt_succ_self _) _ _ _ hw (lv_sub hl [0] rfl)

abbrev rm_X2_step : Room := { frames := 6, cells := 0, slots := 0, locals := 127 }
set_option maxHeartbeats 4000000 in
set_option maxRecDepth 100000 in
theorem c_X2_step (l : Launch) (G : XG) (tx : Nat) (b0 : Nat) (d0 : Nat) (f0 : Nat) (e0 : Nat) (f1 : Nat) (e1 : Nat) (q1 : Nat) (q2 : Nat) (q3 : Nat) (q4 : Nat) (q7 : Nat) (q8 : Nat) (q9 : Nat) (q10 : Nat) (q11 : Nat) (q12 : Nat) (q13 : Nat) (q14 : Nat) (N : Nat) (gb : Nat → Nat) (hN : N ≤ 200) (hgb : ∀ q, gb q < 256) (he : q9 ≤ N) : CfV l yX2_step wsX2_step rm_X2_step G [.ref tx] [(tx, .inr (2, [.ref b0, .int (nI q1), .int (nI q2), .int (nI q3), .int (nI q4), .ref f0, .ref f1, .int (nI q7), .int (nI q8), .int (nI q9), .int (nI q10), .int (nI q11), .int (nI q12), .int (nI q13), .int (nI q14)])), (b0, .inr (1, [.ref d0, .int (nI N)])), (d0, .inl (cJ G, 200, .inr (.inl (fJ gb))))] [(tx, .inr (2, [.ref b0, .int (nI q1), .int (nI q2), .int (nI q3), .int (nI q4), .ref f0, .ref f1, .int (nI q7), .int (nI (sk gb N q9)), .int (nI (te gb N (sk gb N q9))), .int (nI (tk gb N (sk gb N q9))), .int (nI (nq gb N (sk gb N q9) q11)), .int (nI q12), .int (nI q13), .int (nI q14)])), (b0, .inr (1, [.ref d0, .int (nI N)])), (d0, .inl (cJ G, 200, .inr (.inl (fJ gb))))] := by
  refine CtV.go (cc := cX2_step) (maxL := 1) RX2 rfl (by decide) rfl (Nat.le_of_ble_eq_true rfl) ?_
  intro p e s m args below meth c A Q ls E hw hl hret
  have hx := E.1
  have hb := E.2.1
  have hinX2 : ∀ w ∈ wsX20, w ∈ wsX2_step := (fun w h => List.mem_cons_of_mem _ (List.mem_append_left _ (List.mem_append_right _ h)))
  have hl : lv_has ls 1 [(0, .ref tx)] := hl
  refine lv_aload_n hx hb dX2_step_0 rfl (lv_at hl 0 rfl) ?_
  refine lv_aload_n hx hb dX2_step_1 rfl (lv_at hl 0 rfl) ?_
  refine x_get E hw (C := RX2) (T := TX2) (N := 15) hinX2 0 rfl rfl 9 (by decide) rfl (List.mem_of_getElem? (i := 1) rfl) dX2_step_2 ?_
  refine x_put E hw (C := RX2) (T := TX2) (N := 15) (ws1 := [(tx, .inr (2, [.ref b0, .int (nI q1), .int (nI q2), .int (nI q3), .int (nI q4), .ref f0, .ref f1, .int (nI q7), .int (nI q9), .int (nI q9), .int (nI q10), .int (nI q11), .int (nI q12), .int (nI q13), .int (nI q14)])), (b0, .inr (1, [.ref d0, .int (nI N)])), (d0, .inl (cJ G, 200, .inr (.inl (fJ gb))))]) hinX2 tyX2_ok nmX2 0 rfl rfl 8 (by decide) (List.mem_of_getElem? (i := 2) rfl) rfl rfl rfl (Nat.le_of_ble_eq_true rfl) rfl dX2_step_5 (fun H locs hw => ?_)
  have loop_8 : ∀ (fu : Nat) (z : Nat), q9 ≤ z → z ≤ N → skL gb N (N - z) z = sk gb N q9 → N - z < fu → ∀ (H : Heap) (locs : List Loc) (ls : Array Slot), Wd G s A [(tx, .inr (2, [.ref b0, .int (nI q1), .int (nI q2), .int (nI q3), .int (nI q4), .ref f0, .ref f1, .int (nI q7), .int (nI z), .int (nI q9), .int (nI q10), .int (nI q11), .int (nI q12), .int (nI q13), .int (nI q14)])), (b0, .inr (1, [.ref d0, .int (nI N)])), (d0, .inl (cJ G, 200, .inr (.inl (fJ gb))))] H locs → lv_has ls 1 [(0, .ref tx)] → W p l e rm_X2_step s m args below meth c H locs 0 0 Q (F0 m 8 ls []) := by
    intro fu
    induction fu with
    | zero =>
      intro z hz hzN hinv hmu
      exact absurd hmu (Nat.not_lt_zero _)
    | succ fu ih_8 =>
      intro z hz hzN hinv hmu_8 H locs ls hw hl
      refine lv_aload_n hx hb dX2_step_8 rfl (lv_at hl 0 rfl) ?_
      refine x_get E hw (C := RX2) (T := TX2) (N := 15) hinX2 0 rfl rfl 8 (by decide) rfl (List.mem_of_getElem? (i := 2) rfl) dX2_step_9 ?_
      refine lv_aload_n hx hb dX2_step_12 rfl (lv_at hl 0 rfl) ?_
      refine x_get E hw (C := RX2) (T := TX2) (N := 15) hinX2 0 rfl rfl 0 (by decide) rfl (List.mem_of_getElem? (i := 3) rfl) dX2_step_13 ?_
      refine x_cfVi E hw hl.1 (As := []) (rest := [.int (nI z)]) (c_X1_size l G b0 d0 N) 0 gX2_step_X1_size rfl rfl rfl (by decide) ⟨Nat.le_of_ble_eq_true rfl, Nat.le_of_ble_eq_true rfl⟩ ⟨Nat.le_of_ble_eq_true rfl, Nat.le_of_ble_eq_true rfl⟩ rfl 1 (ci := 1) (C := RX1) (T := TX1) (N := 2) rfl rfl [1] [0, 2] rfl rfl rfl rfl rfl [0, 2, 1] [(tx, .inr (2, [.ref b0, .int (nI q1), .int (nI q2), .int (nI q3), .int (nI q4), .ref f0, .ref f1, .int (nI q7), .int (nI z), .int (nI q9), .int (nI q10), .int (nI q11), .int (nI q12), .int (nI q13), .int (nI q14)])), (b0, .inr (1, [.ref d0, .int (nI N)])), (d0, .inl (cJ G, 200, .inr (.inl (fJ gb))))] rfl rfl rfl (Nat.le_of_ble_eq_true rfl) dX2_step_16 (fun H locs hw => ?_)
      refine x_icmp_ge E (nI_toI (show z < 2147483648 by omega)) (nI_toI (show N < 2147483648 by omega)) (tgt := 53) dX2_step_19 (by decide) (fun c_1 => ?_) (fun c_1 => ?_)
      · have hno : ¬ (z < N ∧ gb z = 32) := by omega
        have hsk : z = sk gb N q9 := (skL_no hno).symm.trans hinv
        refine lv_aload_n hx hb dX2_step_53 rfl (lv_at hl 0 rfl) ?_
        refine lv_aload_n hx hb dX2_step_54 rfl (lv_at hl 0 rfl) ?_
        refine x_get E hw (C := RX2) (T := TX2) (N := 15) hinX2 0 rfl rfl 8 (by decide) rfl (List.mem_of_getElem? (i := 2) rfl) dX2_step_55 ?_
        refine lv_iconst (v := (nI 1)) hx hb dX2_step_58 (by decide) ?_
        refine x_iadd E (v := (nI (z + 1))) dX2_step_59 (nI_add _ _) ?_
        refine x_put E hw (C := RX2) (T := TX2) (N := 15) (ws1 := [(tx, .inr (2, [.ref b0, .int (nI q1), .int (nI q2), .int (nI q3), .int (nI q4), .ref f0, .ref f1, .int (nI q7), .int (nI z), .int (nI (z + 1)), .int (nI q10), .int (nI q11), .int (nI q12), .int (nI q13), .int (nI q14)])), (b0, .inr (1, [.ref d0, .int (nI N)])), (d0, .inl (cJ G, 200, .inr (.inl (fJ gb))))]) hinX2 tyX2_ok nmX2 0 rfl rfl 9 (by decide) (List.mem_of_getElem? (i := 1) rfl) rfl rfl rfl (Nat.le_of_ble_eq_true rfl) rfl dX2_step_60 (fun H locs hw => ?_)
        refine lv_aload_n hx hb dX2_step_63 rfl (lv_at hl 0 rfl) ?_
        refine x_get E hw (C := RX2) (T := TX2) (N := 15) hinX2 0 rfl rfl 8 (by decide) rfl (List.mem_of_getElem? (i := 2) rfl) dX2_step_64 ?_
        refine lv_aload_n hx hb dX2_step_67 rfl (lv_at hl 0 rfl) ?_
        refine x_get E hw (C := RX2) (T := TX2) (N := 15) hinX2 0 rfl rfl 0 (by decide) rfl (List.mem_of_getElem? (i := 3) rfl) dX2_step_68 ?_
        refine x_cfVi E hw hl.1 (As := []) (rest := [.int (nI z)]) (c_X1_size l G b0 d0 N) 0 gX2_step_X1_size rfl rfl rfl (by decide) ⟨Nat.le_of_ble_eq_true rfl, Nat.le_of_ble_eq_true rfl⟩ ⟨Nat.le_of_ble_eq_true rfl, Nat.le_of_ble_eq_true rfl⟩ rfl 1 (ci := 1) (C := RX1) (T := TX1) (N := 2) rfl rfl [1] [0, 2] rfl rfl rfl rfl rfl [0, 2, 1] [(tx, .inr (2, [.ref b0, .int (nI q1), .int (nI q2), .int (nI q3), .int (nI q4), .ref f0, .ref f1, .int (nI q7), .int (nI z), .int (nI (z + 1)), .int (nI q10), .int (nI q11), .int (nI q12), .int (nI q13), .int (nI q14)])), (b0, .inr (1, [.ref d0, .int (nI N)])), (d0, .inl (cJ G, 200, .inr (.inl (fJ gb))))] rfl rfl rfl (Nat.le_of_ble_eq_true rfl) dX2_step_71 (fun H locs hw => ?_)
        refine x_icmp_lt E (nI_toI (show z < 2147483648 by omega)) (nI_toI (show N < 2147483648 by omega)) (tgt := 86) dX2_step_74 (by decide) (fun hcN => ?_) (fun hcN => ?_)
        · have hNp : ¬ N ≤ z := by omega
          refine lv_aload_n hx hb dX2_step_86 rfl (lv_at hl 0 rfl) ?_
          refine x_get E hw (C := RX2) (T := TX2) (N := 15) hinX2 0 rfl rfl 0 (by decide) rfl (List.mem_of_getElem? (i := 3) rfl) dX2_step_87 ?_
          refine lv_aload_n hx hb dX2_step_90 rfl (lv_at hl 0 rfl) ?_
          refine x_get E hw (C := RX2) (T := TX2) (N := 15) hinX2 0 rfl rfl 8 (by decide) rfl (List.mem_of_getElem? (i := 2) rfl) dX2_step_91 ?_
          refine x_cfVl E hw hl.1 (As := [.int (nI z)]) (rest := []) (c_X1_at l G b0 d0 N 200 z gb (by omega) (by omega)) 1 gX2_step_X1_at rfl rfl rfl (by decide) ⟨Nat.le_of_ble_eq_true rfl, Nat.le_of_ble_eq_true rfl⟩ ⟨Nat.le_of_ble_eq_true rfl, Nat.le_of_ble_eq_true rfl⟩ rfl 1 (ci := 1) (C := RX1) (T := TX1) (N := 2) rfl rfl [1, 2] [0] rfl rfl rfl rfl rfl [0, 1, 2] [(tx, .inr (2, [.ref b0, .int (nI q1), .int (nI q2), .int (nI q3), .int (nI q4), .ref f0, .ref f1, .int (nI q7), .int (nI z), .int (nI (z + 1)), .int (nI q10), .int (nI q11), .int (nI q12), .int (nI q13), .int (nI q14)])), (b0, .inr (1, [.ref d0, .int (nI N)])), (d0, .inl (cJ G, 200, .inr (.inl (fJ gb))))] rfl rfl rfl (Nat.le_of_ble_eq_true rfl) dX2_step_94 (fun H locs hw => ?_)
          have hgz2 := hgb z
          refine lv_ldc2 (v := (59)) hx hb E.2.2.2.1 (E.2.2.2.2 _ (List.mem_of_getElem? (i := 6) rfl)) dX2_step_97 ?_
          refine x_topl (v := lN 59) (by decide) ?_
          refine x_lc_ne E (lN_toI (show gb z < 9223372036854775808 by omega)) (lN_toI (by decide)) (tgt := 113) dX2_step_100 dX2_step_101 (by decide) (fun c_2 => ?_) (fun c_2 => ?_)
          · have h59 : ¬ gb z = 59 := by omega
            refine lv_aload_n hx hb dX2_step_113 rfl (lv_at hl 0 rfl) ?_
            refine lv_aload_n hx hb dX2_step_114 rfl (lv_at hl 0 rfl) ?_
            refine x_get E hw (C := RX2) (T := TX2) (N := 15) hinX2 0 rfl rfl 8 (by decide) rfl (List.mem_of_getElem? (i := 2) rfl) dX2_step_115 ?_
            refine x_cfVi E hw hl.1 (As := [.int (nI z)]) (rest := []) (c_X2_isLetter l G tx b0 d0 f0 0 f1 0 q1 q2 q3 q4 q7 z (z + 1) q10 q11 q12 q13 q14 N gb z (by omega) (by omega) hgb) 1 gX2_step_X2_isLetter rfl rfl rfl (by decide) ⟨Nat.le_of_ble_eq_true rfl, Nat.le_of_ble_eq_true rfl⟩ ⟨Nat.le_of_ble_eq_true rfl, Nat.le_of_ble_eq_true rfl⟩ rfl 0 (ci := 2) (C := RX2) (T := TX2) (N := 15) rfl rfl [0, 1, 2] [] rfl rfl rfl rfl rfl [0, 1, 2] [(tx, .inr (2, [.ref b0, .int (nI q1), .int (nI q2), .int (nI q3), .int (nI q4), .ref f0, .ref f1, .int (nI q7), .int (nI z), .int (nI (z + 1)), .int (nI q10), .int (nI q11), .int (nI q12), .int (nI q13), .int (nI q14)])), (b0, .inr (1, [.ref d0, .int (nI N)])), (d0, .inl (cJ G, 200, .inr (.inl (fJ gb))))] rfl rfl rfl (Nat.le_of_ble_eq_true rfl) dX2_step_118 (fun H locs hw => ?_)
            refine x_ifb_eq E (P := z < N ∧ 97 ≤ gb z ∧ gb z ≤ 122) (tgt := 135) dX2_step_121 (by decide) (fun hlt0 => ?_) (fun hlt0 => ?_)
            · have hnl : ¬ (97 ≤ gb z ∧ gb z ≤ 122) := fun h => hlt0 ⟨by omega, h⟩
              refine lv_aload_n hx hb dX2_step_135 rfl (lv_at hl 0 rfl) ?_
              refine lv_aload_n hx hb dX2_step_136 rfl (lv_at hl 0 rfl) ?_
              refine x_get E hw (C := RX2) (T := TX2) (N := 15) hinX2 0 rfl rfl 8 (by decide) rfl (List.mem_of_getElem? (i := 2) rfl) dX2_step_137 ?_
              refine x_cfVi E hw hl.1 (As := [.int (nI z)]) (rest := []) (c_X2_isDigit l G tx b0 d0 f0 0 f1 0 q1 q2 q3 q4 q7 z (z + 1) q10 q11 q12 q13 q14 N gb z (by omega) (by omega) hgb) 1 gX2_step_X2_isDigit rfl rfl rfl (by decide) ⟨Nat.le_of_ble_eq_true rfl, Nat.le_of_ble_eq_true rfl⟩ ⟨Nat.le_of_ble_eq_true rfl, Nat.le_of_ble_eq_true rfl⟩ rfl 0 (ci := 2) (C := RX2) (T := TX2) (N := 15) rfl rfl [0, 1, 2] [] rfl rfl rfl rfl rfl [0, 1, 2] [(tx, .inr (2, [.ref b0, .int (nI q1), .int (nI q2), .int (nI q3), .int (nI q4), .ref f0, .ref f1, .int (nI q7), .int (nI z), .int (nI (z + 1)), .int (nI q10), .int (nI q11), .int (nI q12), .int (nI q13), .int (nI q14)])), (b0, .inr (1, [.ref d0, .int (nI N)])), (d0, .inl (cJ G, 200, .inr (.inl (fJ gb))))] rfl rfl rfl (Nat.le_of_ble_eq_true rfl) dX2_step_140 (fun H locs hw => ?_)
              refine x_ifb_eq E (P := z < N ∧ 48 ≤ gb z ∧ gb z ≤ 57) (tgt := 157) dX2_step_143 (by decide) (fun hdg0 => ?_) (fun hdg0 => ?_)
              · have hnd : ¬ (48 ≤ gb z ∧ gb z ≤ 57) := fun h => hdg0 ⟨by omega, h⟩
                refine lv_aload_n hx hb dX2_step_157 rfl (lv_at hl 0 rfl) ?_
                refine lv_bipush (v := (nI 8)) hx hb dX2_step_158 (by decide) ?_
                refine x_put E hw (C := RX2) (T := TX2) (N := 15) (ws1 := [(tx, .inr (2, [.ref b0, .int (nI q1), .int (nI q2), .int (nI q3), .int (nI q4), .ref f0, .ref f1, .int (nI q7), .int (nI z), .int (nI (z + 1)), .int (nI 8), .int (nI q11), .int (nI q12), .int (nI q13), .int (nI q14)])), (b0, .inr (1, [.ref d0, .int (nI N)])), (d0, .inl (cJ G, 200, .inr (.inl (fJ gb))))]) hinX2 tyX2_ok nmX2 0 rfl rfl 10 (by decide) (List.mem_of_getElem? (i := 5) rfl) rfl rfl rfl (Nat.le_of_ble_eq_true rfl) rfl dX2_step_160 (fun H locs hw => ?_)
                exact hret () _ _ _ _ dX2_step_163 trivial (hw.cast (by rw [← hsk, te, if_neg hNp, if_neg hnl, if_neg hnd, tk, if_neg hNp, if_neg h59, if_neg hnl, if_neg hnd, nq, if_neg hNp, if_neg hnd]))
              · have hdg : 48 ≤ gb z ∧ gb z ≤ 57 := hdg0.2
                refine lv_aload_n hx hb dX2_step_146 rfl (lv_at hl 0 rfl) ?_
                refine lv_aload_n hx hb dX2_step_147 rfl (lv_at hl 0 rfl) ?_
                refine x_cfVi E hw hl.1 (As := []) (rest := [.ref tx]) (c_X2_numberHere l G tx b0 d0 f0 0 f1 0 q1 q2 q3 q4 q7 z (z + 1) q10 q11 q12 q13 q14 N gb (by omega) hgb (by omega) (by omega) (by omega)) 0 gX2_step_X2_numberHere rfl rfl rfl (by decide) ⟨Nat.le_of_ble_eq_true rfl, Nat.le_of_ble_eq_true rfl⟩ ⟨Nat.le_of_ble_eq_true rfl, Nat.le_of_ble_eq_true rfl⟩ rfl 0 (ci := 2) (C := RX2) (T := TX2) (N := 15) rfl rfl [0, 1, 2] [] rfl rfl rfl rfl rfl [0, 1, 2] [(tx, .inr (2, [.ref b0, .int (nI q1), .int (nI q2), .int (nI q3), .int (nI q4), .ref f0, .ref f1, .int (nI q7), .int (nI z), .int (nI (dr gb N (z + 1))), .int (nI q10), .int (nI (nv gb N z)), .int (nI q12), .int (nI q13), .int (nI q14)])), (b0, .inr (1, [.ref d0, .int (nI N)])), (d0, .inl (cJ G, 200, .inr (.inl (fJ gb))))] rfl rfl rfl (Nat.le_of_ble_eq_true rfl) dX2_step_148 (fun H locs hw => ?_)
                refine x_put E hw (C := RX2) (T := TX2) (N := 15) (ws1 := [(tx, .inr (2, [.ref b0, .int (nI q1), .int (nI q2), .int (nI q3), .int (nI q4), .ref f0, .ref f1, .int (nI q7), .int (nI z), .int (nI (dr gb N (z + 1))), .int (nI (nbC gb N z)), .int (nI (nv gb N z)), .int (nI q12), .int (nI q13), .int (nI q14)])), (b0, .inr (1, [.ref d0, .int (nI N)])), (d0, .inl (cJ G, 200, .inr (.inl (fJ gb))))]) hinX2 tyX2_ok nmX2 0 rfl rfl 10 (by decide) (List.mem_of_getElem? (i := 5) rfl) rfl rfl rfl (Nat.le_of_ble_eq_true rfl) rfl dX2_step_151 (fun H locs hw => ?_)
                refine lv_goto (tgt := 163) hx hb dX2_step_154 (by decide) ?_
                exact hret () _ _ _ _ dX2_step_163 trivial (hw.cast (by rw [← hsk, te, if_neg hNp, if_neg hnl, if_pos hdg, tk, if_neg hNp, if_neg (by omega), if_neg hnl, if_pos hdg, nq, if_neg hNp, if_pos hdg]))
            · have hlt : 97 ≤ gb z ∧ gb z ≤ 122 := hlt0.2
              refine lv_aload_n hx hb dX2_step_124 rfl (lv_at hl 0 rfl) ?_
              refine lv_aload_n hx hb dX2_step_125 rfl (lv_at hl 0 rfl) ?_
              refine x_cfVi E hw hl.1 (As := []) (rest := [.ref tx]) (c_X2_wordHere l G tx b0 d0 f0 0 f1 0 q1 q2 q3 q4 q7 z (z + 1) q10 q11 q12 q13 q14 N gb (by omega) hgb (by omega) (by omega)) 0 gX2_step_X2_wordHere rfl rfl rfl (by decide) ⟨Nat.le_of_ble_eq_true rfl, Nat.le_of_ble_eq_true rfl⟩ ⟨Nat.le_of_ble_eq_true rfl, Nat.le_of_ble_eq_true rfl⟩ rfl 0 (ci := 2) (C := RX2) (T := TX2) (N := 15) rfl rfl [0, 1, 2] [] rfl rfl rfl rfl rfl [0, 1, 2] [(tx, .inr (2, [.ref b0, .int (nI q1), .int (nI q2), .int (nI q3), .int (nI q4), .ref f0, .ref f1, .int (nI q7), .int (nI z), .int (nI (lr gb N (z + 1))), .int (nI q10), .int (nI q11), .int (nI q12), .int (nI q13), .int (nI q14)])), (b0, .inr (1, [.ref d0, .int (nI N)])), (d0, .inl (cJ G, 200, .inr (.inl (fJ gb))))] rfl rfl rfl (Nat.le_of_ble_eq_true rfl) dX2_step_126 (fun H locs hw => ?_)
              refine x_put E hw (C := RX2) (T := TX2) (N := 15) (ws1 := [(tx, .inr (2, [.ref b0, .int (nI q1), .int (nI q2), .int (nI q3), .int (nI q4), .ref f0, .ref f1, .int (nI q7), .int (nI z), .int (nI (lr gb N (z + 1))), .int (nI (wdC gb z (lr gb N (z + 1)))), .int (nI q11), .int (nI q12), .int (nI q13), .int (nI q14)])), (b0, .inr (1, [.ref d0, .int (nI N)])), (d0, .inl (cJ G, 200, .inr (.inl (fJ gb))))]) hinX2 tyX2_ok nmX2 0 rfl rfl 10 (by decide) (List.mem_of_getElem? (i := 5) rfl) rfl rfl rfl (Nat.le_of_ble_eq_true rfl) rfl dX2_step_129 (fun H locs hw => ?_)
              refine lv_goto (tgt := 163) hx hb dX2_step_132 (by decide) ?_
              exact hret () _ _ _ _ dX2_step_163 trivial (hw.cast (by rw [← hsk, te, if_neg hNp, if_pos hlt, tk, if_neg hNp, if_neg (by omega), if_pos hlt, nq, if_neg hNp, if_neg (by omega)]))
          · have h59 : gb z = 59 := by omega
            refine lv_aload_n hx hb dX2_step_104 rfl (lv_at hl 0 rfl) ?_
            refine lv_bipush (v := (nI 6)) hx hb dX2_step_105 (by decide) ?_
            refine x_put E hw (C := RX2) (T := TX2) (N := 15) (ws1 := [(tx, .inr (2, [.ref b0, .int (nI q1), .int (nI q2), .int (nI q3), .int (nI q4), .ref f0, .ref f1, .int (nI q7), .int (nI z), .int (nI (z + 1)), .int (nI 6), .int (nI q11), .int (nI q12), .int (nI q13), .int (nI q14)])), (b0, .inr (1, [.ref d0, .int (nI N)])), (d0, .inl (cJ G, 200, .inr (.inl (fJ gb))))]) hinX2 tyX2_ok nmX2 0 rfl rfl 10 (by decide) (List.mem_of_getElem? (i := 5) rfl) rfl rfl rfl (Nat.le_of_ble_eq_true rfl) rfl dX2_step_107 (fun H locs hw => ?_)
            refine lv_goto (tgt := 163) hx hb dX2_step_110 (by decide) ?_
            exact hret () _ _ _ _ dX2_step_163 trivial (hw.cast (by rw [← hsk, te, if_neg hNp, if_neg (by omega), if_neg (by omega), tk, if_neg hNp, if_pos h59, nq, if_neg hNp, if_neg (by omega)]))
        · have hNp : N ≤ z := by omega
          refine lv_aload_n hx hb dX2_step_77 rfl (lv_at hl 0 rfl) ?_
          refine lv_bipush (v := (nI 7)) hx hb dX2_step_78 (by decide) ?_
          refine x_put E hw (C := RX2) (T := TX2) (N := 15) (ws1 := [(tx, .inr (2, [.ref b0, .int (nI q1), .int (nI q2), .int (nI q3), .int (nI q4), .ref f0, .ref f1, .int (nI q7), .int (nI z), .int (nI (z + 1)), .int (nI 7), .int (nI q11), .int (nI q12), .int (nI q13), .int (nI q14)])), (b0, .inr (1, [.ref d0, .int (nI N)])), (d0, .inl (cJ G, 200, .inr (.inl (fJ gb))))]) hinX2 tyX2_ok nmX2 0 rfl rfl 10 (by decide) (List.mem_of_getElem? (i := 5) rfl) rfl rfl rfl (Nat.le_of_ble_eq_true rfl) rfl dX2_step_80 (fun H locs hw => ?_)
          refine lv_goto (tgt := 163) hx hb dX2_step_83 (by decide) ?_
          exact hret () _ _ _ _ dX2_step_163 trivial (hw.cast (by rw [← hsk, te, if_pos hNp, tk, if_pos hNp, nq, if_pos hNp]))
      · refine lv_aload_n hx hb dX2_step_22 rfl (lv_at hl 0 rfl) ?_
        refine x_get E hw (C := RX2) (T := TX2) (N := 15) hinX2 0 rfl rfl 0 (by decide) rfl (List.mem_of_getElem? (i := 3) rfl) dX2_step_23 ?_
        refine lv_aload_n hx hb dX2_step_26 rfl (lv_at hl 0 rfl) ?_
        refine x_get E hw (C := RX2) (T := TX2) (N := 15) hinX2 0 rfl rfl 8 (by decide) rfl (List.mem_of_getElem? (i := 2) rfl) dX2_step_27 ?_
        refine x_cfVl E hw hl.1 (As := [.int (nI z)]) (rest := []) (c_X1_at l G b0 d0 N 200 z gb (by omega) (by omega)) 1 gX2_step_X1_at rfl rfl rfl (by decide) ⟨Nat.le_of_ble_eq_true rfl, Nat.le_of_ble_eq_true rfl⟩ ⟨Nat.le_of_ble_eq_true rfl, Nat.le_of_ble_eq_true rfl⟩ rfl 1 (ci := 1) (C := RX1) (T := TX1) (N := 2) rfl rfl [1, 2] [0] rfl rfl rfl rfl rfl [0, 1, 2] [(tx, .inr (2, [.ref b0, .int (nI q1), .int (nI q2), .int (nI q3), .int (nI q4), .ref f0, .ref f1, .int (nI q7), .int (nI z), .int (nI q9), .int (nI q10), .int (nI q11), .int (nI q12), .int (nI q13), .int (nI q14)])), (b0, .inr (1, [.ref d0, .int (nI N)])), (d0, .inl (cJ G, 200, .inr (.inl (fJ gb))))] rfl rfl rfl (Nat.le_of_ble_eq_true rfl) dX2_step_30 (fun H locs hw => ?_)
        have hgz := hgb z
        refine lv_ldc2 (v := (32)) hx hb E.2.2.2.1 (E.2.2.2.2 _ (List.mem_of_getElem? (i := 4) rfl)) dX2_step_33 ?_
        refine x_topl (v := lN 32) (by decide) ?_
        refine x_lc_ne E (lN_toI (show gb z < 9223372036854775808 by omega)) (lN_toI (by decide)) (tgt := 53) dX2_step_36 dX2_step_37 (by decide) (fun c_3 => ?_) (fun c_3 => ?_)
        · have hno : ¬ (z < N ∧ gb z = 32) := by omega
          have hsk : z = sk gb N q9 := (skL_no hno).symm.trans hinv
          refine lv_aload_n hx hb dX2_step_53 rfl (lv_at hl 0 rfl) ?_
          refine lv_aload_n hx hb dX2_step_54 rfl (lv_at hl 0 rfl) ?_
          refine x_get E hw (C := RX2) (T := TX2) (N := 15) hinX2 0 rfl rfl 8 (by decide) rfl (List.mem_of_getElem? (i := 2) rfl) dX2_step_55 ?_
          refine lv_iconst (v := (nI 1)) hx hb dX2_step_58 (by decide) ?_
          refine x_iadd E (v := (nI (z + 1))) dX2_step_59 (nI_add _ _) ?_
          refine x_put E hw (C := RX2) (T := TX2) (N := 15) (ws1 := [(tx, .inr (2, [.ref b0, .int (nI q1), .int (nI q2), .int (nI q3), .int (nI q4), .ref f0, .ref f1, .int (nI q7), .int (nI z), .int (nI (z + 1)), .int (nI q10), .int (nI q11), .int (nI q12), .int (nI q13), .int (nI q14)])), (b0, .inr (1, [.ref d0, .int (nI N)])), (d0, .inl (cJ G, 200, .inr (.inl (fJ gb))))]) hinX2 tyX2_ok nmX2 0 rfl rfl 9 (by decide) (List.mem_of_getElem? (i := 1) rfl) rfl rfl rfl (Nat.le_of_ble_eq_true rfl) rfl dX2_step_60 (fun H locs hw => ?_)
          refine lv_aload_n hx hb dX2_step_63 rfl (lv_at hl 0 rfl) ?_
          refine x_get E hw (C := RX2) (T := TX2) (N := 15) hinX2 0 rfl rfl 8 (by decide) rfl (List.mem_of_getElem? (i := 2) rfl) dX2_step_64 ?_
          refine lv_aload_n hx hb dX2_step_67 rfl (lv_at hl 0 rfl) ?_
          refine x_get E hw (C := RX2) (T := TX2) (N := 15) hinX2 0 rfl rfl 0 (by decide) rfl (List.mem_of_getElem? (i := 3) rfl) dX2_step_68 ?_
          refine x_cfVi E hw hl.1 (As := []) (rest := [.int (nI z)]) (c_X1_size l G b0 d0 N) 0 gX2_step_X1_size rfl rfl rfl (by decide) ⟨Nat.le_of_ble_eq_true rfl, Nat.le_of_ble_eq_true rfl⟩ ⟨Nat.le_of_ble_eq_true rfl, Nat.le_of_ble_eq_true rfl⟩ rfl 1 (ci := 1) (C := RX1) (T := TX1) (N := 2) rfl rfl [1] [0, 2] rfl rfl rfl rfl rfl [0, 2, 1] [(tx, .inr (2, [.ref b0, .int (nI q1), .int (nI q2), .int (nI q3), .int (nI q4), .ref f0, .ref f1, .int (nI q7), .int (nI z), .int (nI (z + 1)), .int (nI q10), .int (nI q11), .int (nI q12), .int (nI q13), .int (nI q14)])), (b0, .inr (1, [.ref d0, .int (nI N)])), (d0, .inl (cJ G, 200, .inr (.inl (fJ gb))))] rfl rfl rfl (Nat.le_of_ble_eq_true rfl) dX2_step_71 (fun H locs hw => ?_)
          refine x_icmp_lt E (nI_toI (show z < 2147483648 by omega)) (nI_toI (show N < 2147483648 by omega)) (tgt := 86) dX2_step_74 (by decide) (fun hcN => ?_) (fun hcN => ?_)
          · have hNp : ¬ N ≤ z := by omega
            refine lv_aload_n hx hb dX2_step_86 rfl (lv_at hl 0 rfl) ?_
            refine x_get E hw (C := RX2) (T := TX2) (N := 15) hinX2 0 rfl rfl 0 (by decide) rfl (List.mem_of_getElem? (i := 3) rfl) dX2_step_87 ?_
            refine lv_aload_n hx hb dX2_step_90 rfl (lv_at hl 0 rfl) ?_
            refine x_get E hw (C := RX2) (T := TX2) (N := 15) hinX2 0 rfl rfl 8 (by decide) rfl (List.mem_of_getElem? (i := 2) rfl) dX2_step_91 ?_
            refine x_cfVl E hw hl.1 (As := [.int (nI z)]) (rest := []) (c_X1_at l G b0 d0 N 200 z gb (by omega) (by omega)) 1 gX2_step_X1_at rfl rfl rfl (by decide) ⟨Nat.le_of_ble_eq_true rfl, Nat.le_of_ble_eq_true rfl⟩ ⟨Nat.le_of_ble_eq_true rfl, Nat.le_of_ble_eq_true rfl⟩ rfl 1 (ci := 1) (C := RX1) (T := TX1) (N := 2) rfl rfl [1, 2] [0] rfl rfl rfl rfl rfl [0, 1, 2] [(tx, .inr (2, [.ref b0, .int (nI q1), .int (nI q2), .int (nI q3), .int (nI q4), .ref f0, .ref f1, .int (nI q7), .int (nI z), .int (nI (z + 1)), .int (nI q10), .int (nI q11), .int (nI q12), .int (nI q13), .int (nI q14)])), (b0, .inr (1, [.ref d0, .int (nI N)])), (d0, .inl (cJ G, 200, .inr (.inl (fJ gb))))] rfl rfl rfl (Nat.le_of_ble_eq_true rfl) dX2_step_94 (fun H locs hw => ?_)
            have hgz2 := hgb z
            refine lv_ldc2 (v := (59)) hx hb E.2.2.2.1 (E.2.2.2.2 _ (List.mem_of_getElem? (i := 6) rfl)) dX2_step_97 ?_
            refine x_topl (v := lN 59) (by decide) ?_
            refine x_lc_ne E (lN_toI (show gb z < 9223372036854775808 by omega)) (lN_toI (by decide)) (tgt := 113) dX2_step_100 dX2_step_101 (by decide) (fun c_4 => ?_) (fun c_4 => ?_)
            · have h59 : ¬ gb z = 59 := by omega
              refine lv_aload_n hx hb dX2_step_113 rfl (lv_at hl 0 rfl) ?_
              refine lv_aload_n hx hb dX2_step_114 rfl (lv_at hl 0 rfl) ?_
              refine x_get E hw (C := RX2) (T := TX2) (N := 15) hinX2 0 rfl rfl 8 (by decide) rfl (List.mem_of_getElem? (i := 2) rfl) dX2_step_115 ?_
              refine x_cfVi E hw hl.1 (As := [.int (nI z)]) (rest := []) (c_X2_isLetter l G tx b0 d0 f0 0 f1 0 q1 q2 q3 q4 q7 z (z + 1) q10 q11 q12 q13 q14 N gb z (by omega) (by omega) hgb) 1 gX2_step_X2_isLetter rfl rfl rfl (by decide) ⟨Nat.le_of_ble_eq_true rfl, Nat.le_of_ble_eq_true rfl⟩ ⟨Nat.le_of_ble_eq_true rfl, Nat.le_of_ble_eq_true rfl⟩ rfl 0 (ci := 2) (C := RX2) (T := TX2) (N := 15) rfl rfl [0, 1, 2] [] rfl rfl rfl rfl rfl [0, 1, 2] [(tx, .inr (2, [.ref b0, .int (nI q1), .int (nI q2), .int (nI q3), .int (nI q4), .ref f0, .ref f1, .int (nI q7), .int (nI z), .int (nI (z + 1)), .int (nI q10), .int (nI q11), .int (nI q12), .int (nI q13), .int (nI q14)])), (b0, .inr (1, [.ref d0, .int (nI N)])), (d0, .inl (cJ G, 200, .inr (.inl (fJ gb))))] rfl rfl rfl (Nat.le_of_ble_eq_true rfl) dX2_step_118 (fun H locs hw => ?_)
              refine x_ifb_eq E (P := z < N ∧ 97 ≤ gb z ∧ gb z ≤ 122) (tgt := 135) dX2_step_121 (by decide) (fun hlt0 => ?_) (fun hlt0 => ?_)
              · have hnl : ¬ (97 ≤ gb z ∧ gb z ≤ 122) := fun h => hlt0 ⟨by omega, h⟩
                refine lv_aload_n hx hb dX2_step_135 rfl (lv_at hl 0 rfl) ?_
                refine lv_aload_n hx hb dX2_step_136 rfl (lv_at hl 0 rfl) ?_
                refine x_get E hw (C := RX2) (T := TX2) (N := 15) hinX2 0 rfl rfl 8 (by decide) rfl (List.mem_of_getElem? (i := 2) rfl) dX2_step_137 ?_
                refine x_cfVi E hw hl.1 (As := [.int (nI z)]) (rest := []) (c_X2_isDigit l G tx b0 d0 f0 0 f1 0 q1 q2 q3 q4 q7 z (z + 1) q10 q11 q12 q13 q14 N gb z (by omega) (by omega) hgb) 1 gX2_step_X2_isDigit rfl rfl rfl (by decide) ⟨Nat.le_of_ble_eq_true rfl, Nat.le_of_ble_eq_true rfl⟩ ⟨Nat.le_of_ble_eq_true rfl, Nat.le_of_ble_eq_true rfl⟩ rfl 0 (ci := 2) (C := RX2) (T := TX2) (N := 15) rfl rfl [0, 1, 2] [] rfl rfl rfl rfl rfl [0, 1, 2] [(tx, .inr (2, [.ref b0, .int (nI q1), .int (nI q2), .int (nI q3), .int (nI q4), .ref f0, .ref f1, .int (nI q7), .int (nI z), .int (nI (z + 1)), .int (nI q10), .int (nI q11), .int (nI q12), .int (nI q13), .int (nI q14)])), (b0, .inr (1, [.ref d0, .int (nI N)])), (d0, .inl (cJ G, 200, .inr (.inl (fJ gb))))] rfl rfl rfl (Nat.le_of_ble_eq_true rfl) dX2_step_140 (fun H locs hw => ?_)
                refine x_ifb_eq E (P := z < N ∧ 48 ≤ gb z ∧ gb z ≤ 57) (tgt := 157) dX2_step_143 (by decide) (fun hdg0 => ?_) (fun hdg0 => ?_)
                · have hnd : ¬ (48 ≤ gb z ∧ gb z ≤ 57) := fun h => hdg0 ⟨by omega, h⟩
                  refine lv_aload_n hx hb dX2_step_157 rfl (lv_at hl 0 rfl) ?_
                  refine lv_bipush (v := (nI 8)) hx hb dX2_step_158 (by decide) ?_
                  refine x_put E hw (C := RX2) (T := TX2) (N := 15) (ws1 := [(tx, .inr (2, [.ref b0, .int (nI q1), .int (nI q2), .int (nI q3), .int (nI q4), .ref f0, .ref f1, .int (nI q7), .int (nI z), .int (nI (z + 1)), .int (nI 8), .int (nI q11), .int (nI q12), .int (nI q13), .int (nI q14)])), (b0, .inr (1, [.ref d0, .int (nI N)])), (d0, .inl (cJ G, 200, .inr (.inl (fJ gb))))]) hinX2 tyX2_ok nmX2 0 rfl rfl 10 (by decide) (List.mem_of_getElem? (i := 5) rfl) rfl rfl rfl (Nat.le_of_ble_eq_true rfl) rfl dX2_step_160 (fun H locs hw => ?_)
                  exact hret () _ _ _ _ dX2_step_163 trivial (hw.cast (by rw [← hsk, te, if_neg hNp, if_neg hnl, if_neg hnd, tk, if_neg hNp, if_neg h59, if_neg hnl, if_neg hnd, nq, if_neg hNp, if_neg hnd]))
                · have hdg : 48 ≤ gb z ∧ gb z ≤ 57 := hdg0.2
                  refine lv_aload_n hx hb dX2_step_146 rfl (lv_at hl 0 rfl) ?_
                  refine lv_aload_n hx hb dX2_step_147 rfl (lv_at hl 0 rfl) ?_
                  refine x_cfVi E hw hl.1 (As := []) (rest := [.ref tx]) (c_X2_numberHere l G tx b0 d0 f0 0 f1 0 q1 q2 q3 q4 q7 z (z + 1) q10 q11 q12 q13 q14 N gb (by omega) hgb (by omega) (by omega) (by omega)) 0 gX2_step_X2_numberHere rfl rfl rfl (by decide) ⟨Nat.le_of_ble_eq_true rfl, Nat.le_of_ble_eq_true rfl⟩ ⟨Nat.le_of_ble_eq_true rfl, Nat.le_of_ble_eq_true rfl⟩ rfl 0 (ci := 2) (C := RX2) (T := TX2) (N := 15) rfl rfl [0, 1, 2] [] rfl rfl rfl rfl rfl [0, 1, 2] [(tx, .inr (2, [.ref b0, .int (nI q1), .int (nI q2), .int (nI q3), .int (nI q4), .ref f0, .ref f1, .int (nI q7), .int (nI z), .int (nI (dr gb N (z + 1))), .int (nI q10), .int (nI (nv gb N z)), .int (nI q12), .int (nI q13), .int (nI q14)])), (b0, .inr (1, [.ref d0, .int (nI N)])), (d0, .inl (cJ G, 200, .inr (.inl (fJ gb))))] rfl rfl rfl (Nat.le_of_ble_eq_true rfl) dX2_step_148 (fun H locs hw => ?_)
                  refine x_put E hw (C := RX2) (T := TX2) (N := 15) (ws1 := [(tx, .inr (2, [.ref b0, .int (nI q1), .int (nI q2), .int (nI q3), .int (nI q4), .ref f0, .ref f1, .int (nI q7), .int (nI z), .int (nI (dr gb N (z + 1))), .int (nI (nbC gb N z)), .int (nI (nv gb N z)), .int (nI q12), .int (nI q13), .int (nI q14)])), (b0, .inr (1, [.ref d0, .int (nI N)])), (d0, .inl (cJ G, 200, .inr (.inl (fJ gb))))]) hinX2 tyX2_ok nmX2 0 rfl rfl 10 (by decide) (List.mem_of_getElem? (i := 5) rfl) rfl rfl rfl (Nat.le_of_ble_eq_true rfl) rfl dX2_step_151 (fun H locs hw => ?_)
                  refine lv_goto (tgt := 163) hx hb dX2_step_154 (by decide) ?_
                  exact hret () _ _ _ _ dX2_step_163 trivial (hw.cast (by rw [← hsk, te, if_neg hNp, if_neg hnl, if_pos hdg, tk, if_neg hNp, if_neg (by omega), if_neg hnl, if_pos hdg, nq, if_neg hNp, if_pos hdg]))
              · have hlt : 97 ≤ gb z ∧ gb z ≤ 122 := hlt0.2
                refine lv_aload_n hx hb dX2_step_124 rfl (lv_at hl 0 rfl) ?_
                refine lv_aload_n hx hb dX2_step_125 rfl (lv_at hl 0 rfl) ?_
                refine x_cfVi E hw hl.1 (As := []) (rest := [.ref tx]) (c_X2_wordHere l G tx b0 d0 f0 0 f1 0 q1 q2 q3 q4 q7 z (z + 1) q10 q11 q12 q13 q14 N gb (by omega) hgb (by omega) (by omega)) 0 gX2_step_X2_wordHere rfl rfl rfl (by decide) ⟨Nat.le_of_ble_eq_true rfl, Nat.le_of_ble_eq_true rfl⟩ ⟨Nat.le_of_ble_eq_true rfl, Nat.le_of_ble_eq_true rfl⟩ rfl 0 (ci := 2) (C := RX2) (T := TX2) (N := 15) rfl rfl [0, 1, 2] [] rfl rfl rfl rfl rfl [0, 1, 2] [(tx, .inr (2, [.ref b0, .int (nI q1), .int (nI q2), .int (nI q3), .int (nI q4), .ref f0, .ref f1, .int (nI q7), .int (nI z), .int (nI (lr gb N (z + 1))), .int (nI q10), .int (nI q11), .int (nI q12), .int (nI q13), .int (nI q14)])), (b0, .inr (1, [.ref d0, .int (nI N)])), (d0, .inl (cJ G, 200, .inr (.inl (fJ gb))))] rfl rfl rfl (Nat.le_of_ble_eq_true rfl) dX2_step_126 (fun H locs hw => ?_)
                refine x_put E hw (C := RX2) (T := TX2) (N := 15) (ws1 := [(tx, .inr (2, [.ref b0, .int (nI q1), .int (nI q2), .int (nI q3), .int (nI q4), .ref f0, .ref f1, .int (nI q7), .int (nI z), .int (nI (lr gb N (z + 1))), .int (nI (wdC gb z (lr gb N (z + 1)))), .int (nI q11), .int (nI q12), .int (nI q13), .int (nI q14)])), (b0, .inr (1, [.ref d0, .int (nI N)])), (d0, .inl (cJ G, 200, .inr (.inl (fJ gb))))]) hinX2 tyX2_ok nmX2 0 rfl rfl 10 (by decide) (List.mem_of_getElem? (i := 5) rfl) rfl rfl rfl (Nat.le_of_ble_eq_true rfl) rfl dX2_step_129 (fun H locs hw => ?_)
                refine lv_goto (tgt := 163) hx hb dX2_step_132 (by decide) ?_
                exact hret () _ _ _ _ dX2_step_163 trivial (hw.cast (by rw [← hsk, te, if_neg hNp, if_pos hlt, tk, if_neg hNp, if_neg (by omega), if_pos hlt, nq, if_neg hNp, if_neg (by omega)]))
            · have h59 : gb z = 59 := by omega
              refine lv_aload_n hx hb dX2_step_104 rfl (lv_at hl 0 rfl) ?_
              refine lv_bipush (v := (nI 6)) hx hb dX2_step_105 (by decide) ?_
              refine x_put E hw (C := RX2) (T := TX2) (N := 15) (ws1 := [(tx, .inr (2, [.ref b0, .int (nI q1), .int (nI q2), .int (nI q3), .int (nI q4), .ref f0, .ref f1, .int (nI q7), .int (nI z), .int (nI (z + 1)), .int (nI 6), .int (nI q11), .int (nI q12), .int (nI q13), .int (nI q14)])), (b0, .inr (1, [.ref d0, .int (nI N)])), (d0, .inl (cJ G, 200, .inr (.inl (fJ gb))))]) hinX2 tyX2_ok nmX2 0 rfl rfl 10 (by decide) (List.mem_of_getElem? (i := 5) rfl) rfl rfl rfl (Nat.le_of_ble_eq_true rfl) rfl dX2_step_107 (fun H locs hw => ?_)
              refine lv_goto (tgt := 163) hx hb dX2_step_110 (by decide) ?_
              exact hret () _ _ _ _ dX2_step_163 trivial (hw.cast (by rw [← hsk, te, if_neg hNp, if_neg (by omega), if_neg (by omega), tk, if_neg hNp, if_pos h59, nq, if_neg hNp, if_neg (by omega)]))
          · have hNp : N ≤ z := by omega
            refine lv_aload_n hx hb dX2_step_77 rfl (lv_at hl 0 rfl) ?_
            refine lv_bipush (v := (nI 7)) hx hb dX2_step_78 (by decide) ?_
            refine x_put E hw (C := RX2) (T := TX2) (N := 15) (ws1 := [(tx, .inr (2, [.ref b0, .int (nI q1), .int (nI q2), .int (nI q3), .int (nI q4), .ref f0, .ref f1, .int (nI q7), .int (nI z), .int (nI (z + 1)), .int (nI 7), .int (nI q11), .int (nI q12), .int (nI q13), .int (nI q14)])), (b0, .inr (1, [.ref d0, .int (nI N)])), (d0, .inl (cJ G, 200, .inr (.inl (fJ gb))))]) hinX2 tyX2_ok nmX2 0 rfl rfl 10 (by decide) (List.mem_of_getElem? (i := 5) rfl) rfl rfl rfl (Nat.le_of_ble_eq_true rfl) rfl dX2_step_80 (fun H locs hw => ?_)
            refine lv_goto (tgt := 163) hx hb dX2_step_83 (by decide) ?_
            exact hret () _ _ _ _ dX2_step_163 trivial (hw.cast (by rw [← hsk, te, if_pos hNp, tk, if_pos hNp, nq, if_pos hNp]))
        · refine lv_aload_n hx hb dX2_step_40 rfl (lv_at hl 0 rfl) ?_
          refine lv_dup hx hb dX2_step_41 rfl ?_
          refine x_get E hw (C := RX2) (T := TX2) (N := 15) hinX2 0 rfl rfl 8 (by decide) rfl (List.mem_of_getElem? (i := 2) rfl) dX2_step_42 ?_
          refine lv_iconst (v := (nI 1)) hx hb dX2_step_45 (by decide) ?_
          refine x_iadd E (v := (nI (z + 1))) dX2_step_46 (nI_add _ _) ?_
          refine x_put E hw (C := RX2) (T := TX2) (N := 15) (ws1 := [(tx, .inr (2, [.ref b0, .int (nI q1), .int (nI q2), .int (nI q3), .int (nI q4), .ref f0, .ref f1, .int (nI q7), .int (nI (z + 1)), .int (nI q9), .int (nI q10), .int (nI q11), .int (nI q12), .int (nI q13), .int (nI q14)])), (b0, .inr (1, [.ref d0, .int (nI N)])), (d0, .inl (cJ G, 200, .inr (.inl (fJ gb))))]) hinX2 tyX2_ok nmX2 0 rfl rfl 8 (by decide) (List.mem_of_getElem? (i := 2) rfl) rfl rfl rfl (Nat.le_of_ble_eq_true rfl) rfl dX2_step_47 (fun H locs hw => ?_)
          refine lv_goto (tgt := 8) hx hb dX2_step_50 (by decide) ?_
          exact ih_8 (z + 1) (by omega) (by omega) ((skL_yes (by omega) (by omega)).symm.trans hinv) (by omega) _ _ _ hw (lv_sub hl [0] rfl)
  exact loop_8 (N - q9 + 1) q9 (by omega) (by omega) rfl (Nat.lt_succ_self _) _ _ _ hw (lv_sub hl [0] rfl)

abbrev rm_X2_begin : Room := { frames := 1, cells := 0, slots := 0, locals := 21 }
set_option maxHeartbeats 4000000 in
set_option maxRecDepth 100000 in
theorem c_X2_begin (l : Launch) (G : XG) (tx : Nat) (b0 : Nat) (d0 : Nat) (f0 : Nat) (e0 : Nat) (f1 : Nat) (e1 : Nat) (q1 : Nat) (q2 : Nat) (q3 : Nat) (q4 : Nat) (q7 : Nat) (q8 : Nat) (q9 : Nat) (q10 : Nat) (q11 : Nat) (q12 : Nat) (q13 : Nat) (q14 : Nat) (N : Nat) (gb : Nat → Nat) (n1 : Nat) (n2 : Nat)  : CfV l yX2_begin wsX2_begin rm_X2_begin G [.ref tx] [(tx, .inr (2, [.ref b0, .int (nI q1), .int (nI q2), .int (nI q3), .int (nI q4), .ref f0, .ref f1, .int (nI q7), .int (nI q8), .int (nI q9), .int (nI q10), .int (nI q11), .int (nI q12), .int (nI q13), .int (nI q14)])), (f0, .inr (1, [.ref e0, .int (nI n1)])), (f1, .inr (1, [.ref e1, .int (nI n2)]))] [(tx, .inr (2, [.ref b0, .int (nI 5), .int (nI 1), .int (nI 0), .int (nI 0), .ref f0, .ref f1, .int (nI 0), .int (nI q8), .int (nI 0), .int (nI q10), .int (nI q11), .int (nI 0), .int (nI q13), .int (nI 0)])), (f0, .inr (1, [.ref e0, .int (nI 0)])), (f1, .inr (1, [.ref e1, .int (nI 0)]))] := by
  refine CtV.go (cc := cX2_begin) (maxL := 1) RX2 rfl (by decide) rfl (Nat.le_of_ble_eq_true rfl) ?_
  intro p e s m args below meth c A Q ls E hw hl hret
  have hx := E.1
  have hb := E.2.1
  have hinX2 : ∀ w ∈ wsX20, w ∈ wsX2_begin := (fun w h => List.mem_cons_of_mem _ (List.mem_append_left _ (List.mem_append_right _ h)))
  have hl : lv_has ls 1 [(0, .ref tx)] := hl
  refine lv_aload_n hx hb dX2_begin_0 rfl (lv_at hl 0 rfl) ?_
  refine lv_iconst (v := (nI 5)) hx hb dX2_begin_1 (by decide) ?_
  refine x_put E hw (C := RX2) (T := TX2) (N := 15) (ws1 := [(tx, .inr (2, [.ref b0, .int (nI 5), .int (nI q2), .int (nI q3), .int (nI q4), .ref f0, .ref f1, .int (nI q7), .int (nI q8), .int (nI q9), .int (nI q10), .int (nI q11), .int (nI q12), .int (nI q13), .int (nI q14)])), (f0, .inr (1, [.ref e0, .int (nI n1)])), (f1, .inr (1, [.ref e1, .int (nI n2)]))]) hinX2 tyX2_ok nmX2 0 rfl rfl 1 (by decide) (List.mem_of_getElem? (i := 1) rfl) rfl rfl rfl (Nat.le_of_ble_eq_true rfl) rfl dX2_begin_2 (fun H locs hw => ?_)
  refine lv_aload_n hx hb dX2_begin_5 rfl (lv_at hl 0 rfl) ?_
  refine lv_iconst (v := (nI 1)) hx hb dX2_begin_6 (by decide) ?_
  refine x_put E hw (C := RX2) (T := TX2) (N := 15) (ws1 := [(tx, .inr (2, [.ref b0, .int (nI 5), .int (nI 1), .int (nI q3), .int (nI q4), .ref f0, .ref f1, .int (nI q7), .int (nI q8), .int (nI q9), .int (nI q10), .int (nI q11), .int (nI q12), .int (nI q13), .int (nI q14)])), (f0, .inr (1, [.ref e0, .int (nI n1)])), (f1, .inr (1, [.ref e1, .int (nI n2)]))]) hinX2 tyX2_ok nmX2 0 rfl rfl 2 (by decide) (List.mem_of_getElem? (i := 2) rfl) rfl rfl rfl (Nat.le_of_ble_eq_true rfl) rfl dX2_begin_7 (fun H locs hw => ?_)
  refine lv_aload_n hx hb dX2_begin_10 rfl (lv_at hl 0 rfl) ?_
  refine lv_iconst (v := (nI 0)) hx hb dX2_begin_11 (by decide) ?_
  refine x_put E hw (C := RX2) (T := TX2) (N := 15) (ws1 := [(tx, .inr (2, [.ref b0, .int (nI 5), .int (nI 1), .int (nI 0), .int (nI q4), .ref f0, .ref f1, .int (nI q7), .int (nI q8), .int (nI q9), .int (nI q10), .int (nI q11), .int (nI q12), .int (nI q13), .int (nI q14)])), (f0, .inr (1, [.ref e0, .int (nI n1)])), (f1, .inr (1, [.ref e1, .int (nI n2)]))]) hinX2 tyX2_ok nmX2 0 rfl rfl 3 (by decide) (List.mem_of_getElem? (i := 3) rfl) rfl rfl rfl (Nat.le_of_ble_eq_true rfl) rfl dX2_begin_12 (fun H locs hw => ?_)
  refine lv_aload_n hx hb dX2_begin_15 rfl (lv_at hl 0 rfl) ?_
  refine lv_iconst (v := (nI 0)) hx hb dX2_begin_16 (by decide) ?_
  refine x_put E hw (C := RX2) (T := TX2) (N := 15) (ws1 := [(tx, .inr (2, [.ref b0, .int (nI 5), .int (nI 1), .int (nI 0), .int (nI 0), .ref f0, .ref f1, .int (nI q7), .int (nI q8), .int (nI q9), .int (nI q10), .int (nI q11), .int (nI q12), .int (nI q13), .int (nI q14)])), (f0, .inr (1, [.ref e0, .int (nI n1)])), (f1, .inr (1, [.ref e1, .int (nI n2)]))]) hinX2 tyX2_ok nmX2 0 rfl rfl 4 (by decide) (List.mem_of_getElem? (i := 4) rfl) rfl rfl rfl (Nat.le_of_ble_eq_true rfl) rfl dX2_begin_17 (fun H locs hw => ?_)
  refine lv_aload_n hx hb dX2_begin_20 rfl (lv_at hl 0 rfl) ?_
  refine x_get E hw (C := RX2) (T := TX2) (N := 15) hinX2 0 rfl rfl 5 (by decide) rfl (List.mem_of_getElem? (i := 5) rfl) dX2_begin_21 ?_
  refine x_cfVi E hw hl.1 (As := []) (rest := []) (c_X1_empty l G f0 e0 n1) 0 gX2_begin_X1_empty rfl rfl rfl (by decide) ⟨Nat.le_of_ble_eq_true rfl, Nat.le_of_ble_eq_true rfl⟩ ⟨Nat.le_of_ble_eq_true rfl, Nat.le_of_ble_eq_true rfl⟩ rfl 1 (ci := 1) (C := RX1) (T := TX1) (N := 2) rfl rfl [1] [0, 2] rfl rfl rfl rfl rfl [0, 2, 1] [(tx, .inr (2, [.ref b0, .int (nI 5), .int (nI 1), .int (nI 0), .int (nI 0), .ref f0, .ref f1, .int (nI q7), .int (nI q8), .int (nI q9), .int (nI q10), .int (nI q11), .int (nI q12), .int (nI q13), .int (nI q14)])), (f0, .inr (1, [.ref e0, .int (nI 0)])), (f1, .inr (1, [.ref e1, .int (nI n2)]))] rfl rfl rfl (Nat.le_of_ble_eq_true rfl) dX2_begin_24 (fun H locs hw => ?_)
  refine lv_pop hx hb dX2_begin_27 rfl ?_
  refine lv_aload_n hx hb dX2_begin_28 rfl (lv_at hl 0 rfl) ?_
  refine x_get E hw (C := RX2) (T := TX2) (N := 15) hinX2 0 rfl rfl 6 (by decide) rfl (List.mem_of_getElem? (i := 6) rfl) dX2_begin_29 ?_
  refine x_cfVi E hw hl.1 (As := []) (rest := []) (c_X1_empty l G f1 e1 n2) 0 gX2_begin_X1_empty rfl rfl rfl (by decide) ⟨Nat.le_of_ble_eq_true rfl, Nat.le_of_ble_eq_true rfl⟩ ⟨Nat.le_of_ble_eq_true rfl, Nat.le_of_ble_eq_true rfl⟩ rfl 2 (ci := 1) (C := RX1) (T := TX1) (N := 2) rfl rfl [2] [0, 1] rfl rfl rfl rfl rfl [0, 1, 2] [(tx, .inr (2, [.ref b0, .int (nI 5), .int (nI 1), .int (nI 0), .int (nI 0), .ref f0, .ref f1, .int (nI q7), .int (nI q8), .int (nI q9), .int (nI q10), .int (nI q11), .int (nI q12), .int (nI q13), .int (nI q14)])), (f0, .inr (1, [.ref e0, .int (nI 0)])), (f1, .inr (1, [.ref e1, .int (nI 0)]))] rfl rfl rfl (Nat.le_of_ble_eq_true rfl) dX2_begin_32 (fun H locs hw => ?_)
  refine lv_pop hx hb dX2_begin_35 rfl ?_
  refine lv_aload_n hx hb dX2_begin_36 rfl (lv_at hl 0 rfl) ?_
  refine lv_iconst (v := (nI 0)) hx hb dX2_begin_37 (by decide) ?_
  refine x_put E hw (C := RX2) (T := TX2) (N := 15) (ws1 := [(tx, .inr (2, [.ref b0, .int (nI 5), .int (nI 1), .int (nI 0), .int (nI 0), .ref f0, .ref f1, .int (nI 0), .int (nI q8), .int (nI q9), .int (nI q10), .int (nI q11), .int (nI q12), .int (nI q13), .int (nI q14)])), (f0, .inr (1, [.ref e0, .int (nI 0)])), (f1, .inr (1, [.ref e1, .int (nI 0)]))]) hinX2 tyX2_ok nmX2 0 rfl rfl 7 (by decide) (List.mem_of_getElem? (i := 7) rfl) rfl rfl rfl (Nat.le_of_ble_eq_true rfl) rfl dX2_begin_38 (fun H locs hw => ?_)
  refine lv_aload_n hx hb dX2_begin_41 rfl (lv_at hl 0 rfl) ?_
  refine lv_iconst (v := (nI 0)) hx hb dX2_begin_42 (by decide) ?_
  refine x_put E hw (C := RX2) (T := TX2) (N := 15) (ws1 := [(tx, .inr (2, [.ref b0, .int (nI 5), .int (nI 1), .int (nI 0), .int (nI 0), .ref f0, .ref f1, .int (nI 0), .int (nI q8), .int (nI 0), .int (nI q10), .int (nI q11), .int (nI q12), .int (nI q13), .int (nI q14)])), (f0, .inr (1, [.ref e0, .int (nI 0)])), (f1, .inr (1, [.ref e1, .int (nI 0)]))]) hinX2 tyX2_ok nmX2 0 rfl rfl 9 (by decide) (List.mem_of_getElem? (i := 8) rfl) rfl rfl rfl (Nat.le_of_ble_eq_true rfl) rfl dX2_begin_43 (fun H locs hw => ?_)
  refine lv_aload_n hx hb dX2_begin_46 rfl (lv_at hl 0 rfl) ?_
  refine lv_iconst (v := (nI 0)) hx hb dX2_begin_47 (by decide) ?_
  refine x_put E hw (C := RX2) (T := TX2) (N := 15) (ws1 := [(tx, .inr (2, [.ref b0, .int (nI 5), .int (nI 1), .int (nI 0), .int (nI 0), .ref f0, .ref f1, .int (nI 0), .int (nI q8), .int (nI 0), .int (nI q10), .int (nI q11), .int (nI 0), .int (nI q13), .int (nI q14)])), (f0, .inr (1, [.ref e0, .int (nI 0)])), (f1, .inr (1, [.ref e1, .int (nI 0)]))]) hinX2 tyX2_ok nmX2 0 rfl rfl 12 (by decide) (List.mem_of_getElem? (i := 9) rfl) rfl rfl rfl (Nat.le_of_ble_eq_true rfl) rfl dX2_begin_48 (fun H locs hw => ?_)
  refine lv_aload_n hx hb dX2_begin_51 rfl (lv_at hl 0 rfl) ?_
  refine lv_iconst (v := (nI 0)) hx hb dX2_begin_52 (by decide) ?_
  refine x_put E hw (C := RX2) (T := TX2) (N := 15) (ws1 := [(tx, .inr (2, [.ref b0, .int (nI 5), .int (nI 1), .int (nI 0), .int (nI 0), .ref f0, .ref f1, .int (nI 0), .int (nI q8), .int (nI 0), .int (nI q10), .int (nI q11), .int (nI 0), .int (nI q13), .int (nI 0)])), (f0, .inr (1, [.ref e0, .int (nI 0)])), (f1, .inr (1, [.ref e1, .int (nI 0)]))]) hinX2 tyX2_ok nmX2 0 rfl rfl 14 (by decide) (List.mem_of_getElem? (i := 10) rfl) rfl rfl rfl (Nat.le_of_ble_eq_true rfl) rfl dX2_begin_53 (fun H locs hw => ?_)
  exact hret () _ _ _ _ dX2_begin_56 trivial hw

abbrev rm_X2_isTold : Room := { frames := 0, cells := 0, slots := 0, locals := 0 }
set_option maxHeartbeats 4000000 in
set_option maxRecDepth 100000 in
theorem c_X2_isTold (l : Launch) (G : XG) (tx : Nat) (b0 : Nat) (d0 : Nat) (f0 : Nat) (e0 : Nat) (f1 : Nat) (e1 : Nat) (q1 : Nat) (q2 : Nat) (q3 : Nat) (q4 : Nat) (q7 : Nat) (q8 : Nat) (q9 : Nat) (q10 : Nat) (q11 : Nat) (q12 : Nat) (q13 : Nat) (q14 : Nat) (N : Nat) (gb : Nat → Nat) (k : Nat) (hk : k ≤ 4) (ht : q14 < 32) : CfI l yX2_isTold wsX2_isTold rm_X2_isTold G [.ref tx, .int (nI k)] [(tx, .inr (2, [.ref b0, .int (nI q1), .int (nI q2), .int (nI q3), .int (nI q4), .ref f0, .ref f1, .int (nI q7), .int (nI q8), .int (nI q9), .int (nI q10), .int (nI q11), .int (nI q12), .int (nI q13), .int (nI q14)]))] (if ¬ q14 &&& 2 ^ k = 0 then 1 else 0) [(tx, .inr (2, [.ref b0, .int (nI q1), .int (nI q2), .int (nI q3), .int (nI q4), .ref f0, .ref f1, .int (nI q7), .int (nI q8), .int (nI q9), .int (nI q10), .int (nI q11), .int (nI q12), .int (nI q13), .int (nI q14)]))] := by
  have hand : q14 &&& 2 ^ k ≤ q14 := Nat.and_le_left
  refine CtI.go (cc := cX2_isTold) (maxL := 2) RX2 rfl (by decide) rfl (Nat.le_of_ble_eq_true rfl) ?_
  intro p e s m args below meth c A Q ls E hw hl hret
  have hx := E.1
  have hb := E.2.1
  have hinX2 : ∀ w ∈ wsX20, w ∈ wsX2_isTold := (fun w h => List.mem_cons_of_mem _ (List.mem_append_right _ h))
  have hl : lv_has ls 2 [(0, .ref tx), (1, .int (nI k))] := hl
  refine lv_aload_n hx hb dX2_isTold_0 rfl (lv_at hl 0 rfl) ?_
  refine x_get E hw (C := RX2) (T := TX2) (N := 15) hinX2 0 rfl rfl 14 (by decide) rfl (List.mem_of_getElem? (i := 1) rfl) dX2_isTold_1 ?_
  refine lv_iconst (v := (nI 1)) hx hb dX2_isTold_4 (by decide) ?_
  refine lv_iload_n hx hb dX2_isTold_5 rfl (lv_at hl 1 rfl) ?_
  refine x_ishl E (v := (nI (2 ^ k))) dX2_isTold_6 (x_shl1 (by omega)) ?_
  refine x_iand E (v := (nI (q14 &&& (2 ^ k)))) dX2_isTold_7 (x_andI _ _) ?_
  refine x_if_eq E (nI_toI (show q14 &&& (2 ^ k) < 2147483648 by omega)) (tgt := 15) dX2_isTold_8 (by decide) (fun c_1 => ?_) (fun c_1 => ?_)
  · refine lv_iconst (v := (nI 0)) hx hb dX2_isTold_15 (by decide) ?_
    exact hret (nI 0) () _ _ _ _ dX2_isTold_16 rfl ((if_neg (by omega)).symm) hw
  · refine lv_iconst (v := (nI 1)) hx hb dX2_isTold_11 (by decide) ?_
    refine lv_goto (tgt := 16) hx hb dX2_isTold_12 (by decide) ?_
    exact hret (nI 1) () _ _ _ _ dX2_isTold_16 rfl ((if_pos (by omega)).symm) hw

abbrev rm_X2_mayStand : Room := { frames := 1, cells := 0, slots := 0, locals := 21 }
set_option maxHeartbeats 4000000 in
set_option maxRecDepth 100000 in
theorem c_X2_mayStand (l : Launch) (G : XG) (tx : Nat) (b0 : Nat) (d0 : Nat) (f0 : Nat) (e0 : Nat) (f1 : Nat) (e1 : Nat) (q1 : Nat) (q2 : Nat) (q3 : Nat) (q4 : Nat) (q7 : Nat) (q8 : Nat) (q9 : Nat) (q10 : Nat) (q11 : Nat) (q12 : Nat) (q13 : Nat) (q14 : Nat) (N : Nat) (gb : Nat → Nat) (n1 : Nat) (g1 : Nat → Nat) (k : Nat) (hk : k ≤ 8) (ht : q14 < 32) (hn1 : n1 ≤ 20) : CfI l yX2_mayStand wsX2_mayStand rm_X2_mayStand G [.ref tx, .int (nI k)] [(tx, .inr (2, [.ref b0, .int (nI q1), .int (nI q2), .int (nI q3), .int (nI q4), .ref f0, .ref f1, .int (nI q7), .int (nI q8), .int (nI q9), .int (nI q10), .int (nI q11), .int (nI q12), .int (nI q13), .int (nI q14)])), (f0, .inr (1, [.ref e0, .int (nI n1)])), (e0, .inl (cJ G, 20, .inr (.inl (fJ g1))))] (if (k = 4 ∧ n1 < 20) ∨ (k = 0 ∧ q14 &&& 2 ^ 0 = 0 ∧ q14 &&& 2 ^ 1 = 0 ∧ q14 &&& 2 ^ 4 = 0) ∨ (1 ≤ k ∧ k ≤ 3 ∧ q14 &&& 2 ^ k = 0 ∧ q14 &&& 2 ^ 4 = 0) then 1 else 0) [(tx, .inr (2, [.ref b0, .int (nI q1), .int (nI q2), .int (nI q3), .int (nI q4), .ref f0, .ref f1, .int (nI q7), .int (nI q8), .int (nI q9), .int (nI q10), .int (nI q11), .int (nI q12), .int (nI q13), .int (nI q14)])), (f0, .inr (1, [.ref e0, .int (nI n1)])), (e0, .inl (cJ G, 20, .inr (.inl (fJ g1))))] := by
  refine CtI.go (cc := cX2_mayStand) (maxL := 2) RX2 rfl (by decide) rfl (Nat.le_of_ble_eq_true rfl) ?_
  intro p e s m args below meth c A Q ls E hw hl hret
  have hx := E.1
  have hb := E.2.1
  have hinX2 : ∀ w ∈ wsX20, w ∈ wsX2_mayStand := (fun w h => List.mem_cons_of_mem _ (List.mem_append_left _ (List.mem_append_right _ h)))
  have hl : lv_has ls 2 [(0, .ref tx), (1, .int (nI k))] := hl
  refine lv_iload_n hx hb dX2_mayStand_0 rfl (lv_at hl 1 rfl) ?_
  rcases (show ((k : Nat) : Int) = 0 ∨ ((k : Nat) : Int) = 1 ∨ ((k : Nat) : Int) = 2 ∨ ((k : Nat) : Int) = 3 ∨ ((k : Nat) : Int) = 4 ∨ (((k : Nat) : Int) < 0 ∨ 4 < ((k : Nat) : Int)) by omega) with c_1 | c_1 | c_1 | c_1 | c_1 | c_1
  · refine x_tsw E ((nI_toI (show k < 2147483648 by omega)).trans c_1) (tgt := 45) dX2_mayStand_1 (by decide) (by decide) rfl (by decide) ?_
    refine lv_aload_n hx hb dX2_mayStand_45 rfl (lv_at hl 0 rfl) ?_
    refine lv_iconst (v := (nI 0)) hx hb dX2_mayStand_46 (by decide) ?_
    refine x_cfVi E hw hl.1 (As := [.int (nI 0)]) (rest := []) (c_X2_isTold l G tx b0 0 f0 0 f1 0 q1 q2 q3 q4 q7 q8 q9 q10 q11 q12 q13 q14 0 (fun _ => 0) 0 (by omega) (by omega)) 1 gX2_mayStand_X2_isTold rfl rfl rfl (by decide) ⟨Nat.le_of_ble_eq_true rfl, Nat.le_of_ble_eq_true rfl⟩ ⟨Nat.le_of_ble_eq_true rfl, Nat.le_of_ble_eq_true rfl⟩ rfl 0 (ci := 2) (C := RX2) (T := TX2) (N := 15) rfl rfl [0] [1, 2] rfl rfl rfl rfl rfl [2, 0, 1] [(tx, .inr (2, [.ref b0, .int (nI q1), .int (nI q2), .int (nI q3), .int (nI q4), .ref f0, .ref f1, .int (nI q7), .int (nI q8), .int (nI q9), .int (nI q10), .int (nI q11), .int (nI q12), .int (nI q13), .int (nI q14)])), (f0, .inr (1, [.ref e0, .int (nI n1)])), (e0, .inl (cJ G, 20, .inr (.inl (fJ g1))))] rfl rfl rfl (Nat.le_of_ble_eq_true rfl) dX2_mayStand_47 (fun H locs hw => ?_)
    refine x_ifb_ne E (P := ¬ q14 &&& 2 ^ 0 = 0) (tgt := 73) dX2_mayStand_50 (by decide) (fun c_2 => ?_) (fun c_2 => ?_)
    · refine lv_iconst (v := (nI 0)) hx hb dX2_mayStand_73 (by decide) ?_
      exact hret (nI 0) () _ _ _ _ dX2_mayStand_74 rfl ((if_neg (by omega)).symm) hw
    · refine lv_aload_n hx hb dX2_mayStand_53 rfl (lv_at hl 0 rfl) ?_
      refine lv_iconst (v := (nI 1)) hx hb dX2_mayStand_54 (by decide) ?_
      refine x_cfVi E hw hl.1 (As := [.int (nI 1)]) (rest := []) (c_X2_isTold l G tx b0 0 f0 0 f1 0 q1 q2 q3 q4 q7 q8 q9 q10 q11 q12 q13 q14 0 (fun _ => 0) 1 (by omega) (by omega)) 1 gX2_mayStand_X2_isTold rfl rfl rfl (by decide) ⟨Nat.le_of_ble_eq_true rfl, Nat.le_of_ble_eq_true rfl⟩ ⟨Nat.le_of_ble_eq_true rfl, Nat.le_of_ble_eq_true rfl⟩ rfl 0 (ci := 2) (C := RX2) (T := TX2) (N := 15) rfl rfl [0] [1, 2] rfl rfl rfl rfl rfl [2, 0, 1] [(tx, .inr (2, [.ref b0, .int (nI q1), .int (nI q2), .int (nI q3), .int (nI q4), .ref f0, .ref f1, .int (nI q7), .int (nI q8), .int (nI q9), .int (nI q10), .int (nI q11), .int (nI q12), .int (nI q13), .int (nI q14)])), (f0, .inr (1, [.ref e0, .int (nI n1)])), (e0, .inl (cJ G, 20, .inr (.inl (fJ g1))))] rfl rfl rfl (Nat.le_of_ble_eq_true rfl) dX2_mayStand_55 (fun H locs hw => ?_)
      refine x_ifb_ne E (P := ¬ q14 &&& 2 ^ 1 = 0) (tgt := 73) dX2_mayStand_58 (by decide) (fun c_3 => ?_) (fun c_3 => ?_)
      · refine lv_iconst (v := (nI 0)) hx hb dX2_mayStand_73 (by decide) ?_
        exact hret (nI 0) () _ _ _ _ dX2_mayStand_74 rfl ((if_neg (by omega)).symm) hw
      · refine lv_aload_n hx hb dX2_mayStand_61 rfl (lv_at hl 0 rfl) ?_
        refine lv_iconst (v := (nI 4)) hx hb dX2_mayStand_62 (by decide) ?_
        refine x_cfVi E hw hl.1 (As := [.int (nI 4)]) (rest := []) (c_X2_isTold l G tx b0 0 f0 0 f1 0 q1 q2 q3 q4 q7 q8 q9 q10 q11 q12 q13 q14 0 (fun _ => 0) 4 (by omega) (by omega)) 1 gX2_mayStand_X2_isTold rfl rfl rfl (by decide) ⟨Nat.le_of_ble_eq_true rfl, Nat.le_of_ble_eq_true rfl⟩ ⟨Nat.le_of_ble_eq_true rfl, Nat.le_of_ble_eq_true rfl⟩ rfl 0 (ci := 2) (C := RX2) (T := TX2) (N := 15) rfl rfl [0] [1, 2] rfl rfl rfl rfl rfl [2, 0, 1] [(tx, .inr (2, [.ref b0, .int (nI q1), .int (nI q2), .int (nI q3), .int (nI q4), .ref f0, .ref f1, .int (nI q7), .int (nI q8), .int (nI q9), .int (nI q10), .int (nI q11), .int (nI q12), .int (nI q13), .int (nI q14)])), (f0, .inr (1, [.ref e0, .int (nI n1)])), (e0, .inl (cJ G, 20, .inr (.inl (fJ g1))))] rfl rfl rfl (Nat.le_of_ble_eq_true rfl) dX2_mayStand_63 (fun H locs hw => ?_)
        refine x_ifb_ne E (P := ¬ q14 &&& 2 ^ 4 = 0) (tgt := 73) dX2_mayStand_66 (by decide) (fun c_4 => ?_) (fun c_4 => ?_)
        · refine lv_iconst (v := (nI 0)) hx hb dX2_mayStand_73 (by decide) ?_
          exact hret (nI 0) () _ _ _ _ dX2_mayStand_74 rfl ((if_neg (by omega)).symm) hw
        · refine lv_iconst (v := (nI 1)) hx hb dX2_mayStand_69 (by decide) ?_
          refine lv_goto (tgt := 74) hx hb dX2_mayStand_70 (by decide) ?_
          exact hret (nI 1) () _ _ _ _ dX2_mayStand_74 rfl ((if_pos (by omega)).symm) hw
  · refine x_tsw E ((nI_toI (show k < 2147483648 by omega)).trans c_1) (tgt := 75) dX2_mayStand_1 (by decide) (by decide) rfl (by decide) ?_
    refine lv_aload_n hx hb dX2_mayStand_75 rfl (lv_at hl 0 rfl) ?_
    refine lv_iload_n hx hb dX2_mayStand_76 rfl (lv_at hl 1 rfl) ?_
    refine x_cfVi E hw hl.1 (As := [.int (nI k)]) (rest := []) (c_X2_isTold l G tx b0 0 f0 0 f1 0 q1 q2 q3 q4 q7 q8 q9 q10 q11 q12 q13 q14 0 (fun _ => 0) k (by omega) (by omega)) 1 gX2_mayStand_X2_isTold rfl rfl rfl (by decide) ⟨Nat.le_of_ble_eq_true rfl, Nat.le_of_ble_eq_true rfl⟩ ⟨Nat.le_of_ble_eq_true rfl, Nat.le_of_ble_eq_true rfl⟩ rfl 0 (ci := 2) (C := RX2) (T := TX2) (N := 15) rfl rfl [0] [1, 2] rfl rfl rfl rfl rfl [2, 0, 1] [(tx, .inr (2, [.ref b0, .int (nI q1), .int (nI q2), .int (nI q3), .int (nI q4), .ref f0, .ref f1, .int (nI q7), .int (nI q8), .int (nI q9), .int (nI q10), .int (nI q11), .int (nI q12), .int (nI q13), .int (nI q14)])), (f0, .inr (1, [.ref e0, .int (nI n1)])), (e0, .inl (cJ G, 20, .inr (.inl (fJ g1))))] rfl rfl rfl (Nat.le_of_ble_eq_true rfl) dX2_mayStand_77 (fun H locs hw => ?_)
    refine x_ifb_ne E (P := ¬ q14 &&& 2 ^ k = 0) (tgt := 95) dX2_mayStand_80 (by decide) (fun c_5 => ?_) (fun c_5 => ?_)
    · refine lv_iconst (v := (nI 0)) hx hb dX2_mayStand_95 (by decide) ?_
      exact hret (nI 0) () _ _ _ _ dX2_mayStand_96 rfl ((if_neg (by omega)).symm) hw
    · refine lv_aload_n hx hb dX2_mayStand_83 rfl (lv_at hl 0 rfl) ?_
      refine lv_iconst (v := (nI 4)) hx hb dX2_mayStand_84 (by decide) ?_
      refine x_cfVi E hw hl.1 (As := [.int (nI 4)]) (rest := []) (c_X2_isTold l G tx b0 0 f0 0 f1 0 q1 q2 q3 q4 q7 q8 q9 q10 q11 q12 q13 q14 0 (fun _ => 0) 4 (by omega) (by omega)) 1 gX2_mayStand_X2_isTold rfl rfl rfl (by decide) ⟨Nat.le_of_ble_eq_true rfl, Nat.le_of_ble_eq_true rfl⟩ ⟨Nat.le_of_ble_eq_true rfl, Nat.le_of_ble_eq_true rfl⟩ rfl 0 (ci := 2) (C := RX2) (T := TX2) (N := 15) rfl rfl [0] [1, 2] rfl rfl rfl rfl rfl [2, 0, 1] [(tx, .inr (2, [.ref b0, .int (nI q1), .int (nI q2), .int (nI q3), .int (nI q4), .ref f0, .ref f1, .int (nI q7), .int (nI q8), .int (nI q9), .int (nI q10), .int (nI q11), .int (nI q12), .int (nI q13), .int (nI q14)])), (f0, .inr (1, [.ref e0, .int (nI n1)])), (e0, .inl (cJ G, 20, .inr (.inl (fJ g1))))] rfl rfl rfl (Nat.le_of_ble_eq_true rfl) dX2_mayStand_85 (fun H locs hw => ?_)
      refine x_ifb_ne E (P := ¬ q14 &&& 2 ^ 4 = 0) (tgt := 95) dX2_mayStand_88 (by decide) (fun c_6 => ?_) (fun c_6 => ?_)
      · refine lv_iconst (v := (nI 0)) hx hb dX2_mayStand_95 (by decide) ?_
        exact hret (nI 0) () _ _ _ _ dX2_mayStand_96 rfl ((if_neg (by omega)).symm) hw
      · refine lv_iconst (v := (nI 1)) hx hb dX2_mayStand_91 (by decide) ?_
        refine lv_goto (tgt := 96) hx hb dX2_mayStand_92 (by decide) ?_
        exact hret (nI 1) () _ _ _ _ dX2_mayStand_96 rfl ((if_pos (by omega)).symm) hw
  · refine x_tsw E ((nI_toI (show k < 2147483648 by omega)).trans c_1) (tgt := 75) dX2_mayStand_1 (by decide) (by decide) rfl (by decide) ?_
    refine lv_aload_n hx hb dX2_mayStand_75 rfl (lv_at hl 0 rfl) ?_
    refine lv_iload_n hx hb dX2_mayStand_76 rfl (lv_at hl 1 rfl) ?_
    refine x_cfVi E hw hl.1 (As := [.int (nI k)]) (rest := []) (c_X2_isTold l G tx b0 0 f0 0 f1 0 q1 q2 q3 q4 q7 q8 q9 q10 q11 q12 q13 q14 0 (fun _ => 0) k (by omega) (by omega)) 1 gX2_mayStand_X2_isTold rfl rfl rfl (by decide) ⟨Nat.le_of_ble_eq_true rfl, Nat.le_of_ble_eq_true rfl⟩ ⟨Nat.le_of_ble_eq_true rfl, Nat.le_of_ble_eq_true rfl⟩ rfl 0 (ci := 2) (C := RX2) (T := TX2) (N := 15) rfl rfl [0] [1, 2] rfl rfl rfl rfl rfl [2, 0, 1] [(tx, .inr (2, [.ref b0, .int (nI q1), .int (nI q2), .int (nI q3), .int (nI q4), .ref f0, .ref f1, .int (nI q7), .int (nI q8), .int (nI q9), .int (nI q10), .int (nI q11), .int (nI q12), .int (nI q13), .int (nI q14)])), (f0, .inr (1, [.ref e0, .int (nI n1)])), (e0, .inl (cJ G, 20, .inr (.inl (fJ g1))))] rfl rfl rfl (Nat.le_of_ble_eq_true rfl) dX2_mayStand_77 (fun H locs hw => ?_)
    refine x_ifb_ne E (P := ¬ q14 &&& 2 ^ k = 0) (tgt := 95) dX2_mayStand_80 (by decide) (fun c_7 => ?_) (fun c_7 => ?_)
    · refine lv_iconst (v := (nI 0)) hx hb dX2_mayStand_95 (by decide) ?_
      exact hret (nI 0) () _ _ _ _ dX2_mayStand_96 rfl ((if_neg (by omega)).symm) hw
    · refine lv_aload_n hx hb dX2_mayStand_83 rfl (lv_at hl 0 rfl) ?_
      refine lv_iconst (v := (nI 4)) hx hb dX2_mayStand_84 (by decide) ?_
      refine x_cfVi E hw hl.1 (As := [.int (nI 4)]) (rest := []) (c_X2_isTold l G tx b0 0 f0 0 f1 0 q1 q2 q3 q4 q7 q8 q9 q10 q11 q12 q13 q14 0 (fun _ => 0) 4 (by omega) (by omega)) 1 gX2_mayStand_X2_isTold rfl rfl rfl (by decide) ⟨Nat.le_of_ble_eq_true rfl, Nat.le_of_ble_eq_true rfl⟩ ⟨Nat.le_of_ble_eq_true rfl, Nat.le_of_ble_eq_true rfl⟩ rfl 0 (ci := 2) (C := RX2) (T := TX2) (N := 15) rfl rfl [0] [1, 2] rfl rfl rfl rfl rfl [2, 0, 1] [(tx, .inr (2, [.ref b0, .int (nI q1), .int (nI q2), .int (nI q3), .int (nI q4), .ref f0, .ref f1, .int (nI q7), .int (nI q8), .int (nI q9), .int (nI q10), .int (nI q11), .int (nI q12), .int (nI q13), .int (nI q14)])), (f0, .inr (1, [.ref e0, .int (nI n1)])), (e0, .inl (cJ G, 20, .inr (.inl (fJ g1))))] rfl rfl rfl (Nat.le_of_ble_eq_true rfl) dX2_mayStand_85 (fun H locs hw => ?_)
      refine x_ifb_ne E (P := ¬ q14 &&& 2 ^ 4 = 0) (tgt := 95) dX2_mayStand_88 (by decide) (fun c_8 => ?_) (fun c_8 => ?_)
      · refine lv_iconst (v := (nI 0)) hx hb dX2_mayStand_95 (by decide) ?_
        exact hret (nI 0) () _ _ _ _ dX2_mayStand_96 rfl ((if_neg (by omega)).symm) hw
      · refine lv_iconst (v := (nI 1)) hx hb dX2_mayStand_91 (by decide) ?_
        refine lv_goto (tgt := 96) hx hb dX2_mayStand_92 (by decide) ?_
        exact hret (nI 1) () _ _ _ _ dX2_mayStand_96 rfl ((if_pos (by omega)).symm) hw
  · refine x_tsw E ((nI_toI (show k < 2147483648 by omega)).trans c_1) (tgt := 75) dX2_mayStand_1 (by decide) (by decide) rfl (by decide) ?_
    refine lv_aload_n hx hb dX2_mayStand_75 rfl (lv_at hl 0 rfl) ?_
    refine lv_iload_n hx hb dX2_mayStand_76 rfl (lv_at hl 1 rfl) ?_
    refine x_cfVi E hw hl.1 (As := [.int (nI k)]) (rest := []) (c_X2_isTold l G tx b0 0 f0 0 f1 0 q1 q2 q3 q4 q7 q8 q9 q10 q11 q12 q13 q14 0 (fun _ => 0) k (by omega) (by omega)) 1 gX2_mayStand_X2_isTold rfl rfl rfl (by decide) ⟨Nat.le_of_ble_eq_true rfl, Nat.le_of_ble_eq_true rfl⟩ ⟨Nat.le_of_ble_eq_true rfl, Nat.le_of_ble_eq_true rfl⟩ rfl 0 (ci := 2) (C := RX2) (T := TX2) (N := 15) rfl rfl [0] [1, 2] rfl rfl rfl rfl rfl [2, 0, 1] [(tx, .inr (2, [.ref b0, .int (nI q1), .int (nI q2), .int (nI q3), .int (nI q4), .ref f0, .ref f1, .int (nI q7), .int (nI q8), .int (nI q9), .int (nI q10), .int (nI q11), .int (nI q12), .int (nI q13), .int (nI q14)])), (f0, .inr (1, [.ref e0, .int (nI n1)])), (e0, .inl (cJ G, 20, .inr (.inl (fJ g1))))] rfl rfl rfl (Nat.le_of_ble_eq_true rfl) dX2_mayStand_77 (fun H locs hw => ?_)
    refine x_ifb_ne E (P := ¬ q14 &&& 2 ^ k = 0) (tgt := 95) dX2_mayStand_80 (by decide) (fun c_9 => ?_) (fun c_9 => ?_)
    · refine lv_iconst (v := (nI 0)) hx hb dX2_mayStand_95 (by decide) ?_
      exact hret (nI 0) () _ _ _ _ dX2_mayStand_96 rfl ((if_neg (by omega)).symm) hw
    · refine lv_aload_n hx hb dX2_mayStand_83 rfl (lv_at hl 0 rfl) ?_
      refine lv_iconst (v := (nI 4)) hx hb dX2_mayStand_84 (by decide) ?_
      refine x_cfVi E hw hl.1 (As := [.int (nI 4)]) (rest := []) (c_X2_isTold l G tx b0 0 f0 0 f1 0 q1 q2 q3 q4 q7 q8 q9 q10 q11 q12 q13 q14 0 (fun _ => 0) 4 (by omega) (by omega)) 1 gX2_mayStand_X2_isTold rfl rfl rfl (by decide) ⟨Nat.le_of_ble_eq_true rfl, Nat.le_of_ble_eq_true rfl⟩ ⟨Nat.le_of_ble_eq_true rfl, Nat.le_of_ble_eq_true rfl⟩ rfl 0 (ci := 2) (C := RX2) (T := TX2) (N := 15) rfl rfl [0] [1, 2] rfl rfl rfl rfl rfl [2, 0, 1] [(tx, .inr (2, [.ref b0, .int (nI q1), .int (nI q2), .int (nI q3), .int (nI q4), .ref f0, .ref f1, .int (nI q7), .int (nI q8), .int (nI q9), .int (nI q10), .int (nI q11), .int (nI q12), .int (nI q13), .int (nI q14)])), (f0, .inr (1, [.ref e0, .int (nI n1)])), (e0, .inl (cJ G, 20, .inr (.inl (fJ g1))))] rfl rfl rfl (Nat.le_of_ble_eq_true rfl) dX2_mayStand_85 (fun H locs hw => ?_)
      refine x_ifb_ne E (P := ¬ q14 &&& 2 ^ 4 = 0) (tgt := 95) dX2_mayStand_88 (by decide) (fun c_10 => ?_) (fun c_10 => ?_)
      · refine lv_iconst (v := (nI 0)) hx hb dX2_mayStand_95 (by decide) ?_
        exact hret (nI 0) () _ _ _ _ dX2_mayStand_96 rfl ((if_neg (by omega)).symm) hw
      · refine lv_iconst (v := (nI 1)) hx hb dX2_mayStand_91 (by decide) ?_
        refine lv_goto (tgt := 96) hx hb dX2_mayStand_92 (by decide) ?_
        exact hret (nI 1) () _ _ _ _ dX2_mayStand_96 rfl ((if_pos (by omega)).symm) hw
  · refine x_tsw E ((nI_toI (show k < 2147483648 by omega)).trans c_1) (tgt := 36) dX2_mayStand_1 (by decide) (by decide) rfl (by decide) ?_
    refine lv_aload_n hx hb dX2_mayStand_36 rfl (lv_at hl 0 rfl) ?_
    refine x_get E hw (C := RX2) (T := TX2) (N := 15) hinX2 0 rfl rfl 5 (by decide) rfl (List.mem_of_getElem? (i := 1) rfl) dX2_mayStand_37 ?_
    refine lv_iconst (v := (nI 1)) hx hb dX2_mayStand_40 (by decide) ?_
    refine x_cfVi E hw hl.1 (As := [.int (nI 1)]) (rest := []) (c_X1_hasRoom l G f0 e0 n1 20 1 g1 (by omega) (by omega)) 1 gX2_mayStand_X1_hasRoom rfl rfl rfl (by decide) ⟨Nat.le_of_ble_eq_true rfl, Nat.le_of_ble_eq_true rfl⟩ ⟨Nat.le_of_ble_eq_true rfl, Nat.le_of_ble_eq_true rfl⟩ rfl 1 (ci := 1) (C := RX1) (T := TX1) (N := 2) rfl rfl [1, 2] [0] rfl rfl rfl rfl rfl [0, 1, 2] [(tx, .inr (2, [.ref b0, .int (nI q1), .int (nI q2), .int (nI q3), .int (nI q4), .ref f0, .ref f1, .int (nI q7), .int (nI q8), .int (nI q9), .int (nI q10), .int (nI q11), .int (nI q12), .int (nI q13), .int (nI q14)])), (f0, .inr (1, [.ref e0, .int (nI n1)])), (e0, .inl (cJ G, 20, .inr (.inl (fJ g1))))] rfl rfl rfl (Nat.le_of_ble_eq_true rfl) dX2_mayStand_41 (fun H locs hw => ?_)
    exact hret (if n1 + 1 ≤ 20 then 1 else 0) () _ _ _ _ dX2_mayStand_44 x_narZ (x_iteC (by omega)) hw
  · refine x_tswD E (nI_toI (show k < 2147483648 by omega)) dX2_mayStand_1 (tgt := 97) c_1 (by decide) ?_
    refine lv_iconst (v := (nI 0)) hx hb dX2_mayStand_97 (by decide) ?_
    exact hret (nI 0) () _ _ _ _ dX2_mayStand_98 rfl ((if_neg (by omega)).symm) hw

abbrev rm_X2_takesWord_no : Room := { frames := 2, cells := 0, slots := 0, locals := 42 }
set_option maxHeartbeats 4000000 in
set_option maxRecDepth 100000 in
theorem c_X2_takesWord_no (l : Launch) (G : XG) (tx : Nat) (b0 : Nat) (d0 : Nat) (f0 : Nat) (e0 : Nat) (f1 : Nat) (e1 : Nat) (q1 : Nat) (q2 : Nat) (q3 : Nat) (q4 : Nat) (q7 : Nat) (q8 : Nat) (q9 : Nat) (q10 : Nat) (q11 : Nat) (q12 : Nat) (q13 : Nat) (q14 : Nat) (N : Nat) (gb : Nat → Nat) (n1 : Nat) (g1 : Nat → Nat) (hk : q10 ≤ 8) (ht : q14 < 32) (hn1 : n1 ≤ 20) (hms : ¬ ((q10 = 4 ∧ n1 < 20) ∨ (q10 = 0 ∧ q14 &&& 2 ^ 0 = 0 ∧ q14 &&& 2 ^ 1 = 0 ∧ q14 &&& 2 ^ 4 = 0) ∨ (1 ≤ q10 ∧ q10 ≤ 3 ∧ q14 &&& 2 ^ q10 = 0 ∧ q14 &&& 2 ^ 4 = 0))) : CfI l yX2_takesWord wsX2_takesWord rm_X2_takesWord_no G [.ref tx] [(tx, .inr (2, [.ref b0, .int (nI q1), .int (nI q2), .int (nI q3), .int (nI q4), .ref f0, .ref f1, .int (nI q7), .int (nI q8), .int (nI q9), .int (nI q10), .int (nI q11), .int (nI q12), .int (nI q13), .int (nI q14)])), (f0, .inr (1, [.ref e0, .int (nI n1)])), (e0, .inl (cJ G, 20, .inr (.inl (fJ g1))))] (nI 0) [(tx, .inr (2, [.ref b0, .int (nI q1), .int (nI q2), .int (nI q3), .int (nI q4), .ref f0, .ref f1, .int (nI q7), .int (nI q8), .int (nI q9), .int (nI q10), .int (nI q11), .int (nI q12), .int (nI q13), .int (nI q14)])), (f0, .inr (1, [.ref e0, .int (nI n1)])), (e0, .inl (cJ G, 20, .inr (.inl (fJ g1))))] := by
  refine CtI.go (cc := cX2_takesWord) (maxL := 1) RX2 rfl (by decide) rfl (Nat.le_of_ble_eq_true rfl) ?_
  intro p e s m args below meth c A Q ls E hw hl hret
  have hx := E.1
  have hb := E.2.1
  have hinX2 : ∀ w ∈ wsX20, w ∈ wsX2_takesWord := (fun w h => List.mem_cons_of_mem _ (List.mem_append_left _ (List.mem_append_right _ h)))
  have hl : lv_has ls 1 [(0, .ref tx)] := hl
  refine lv_aload_n hx hb dX2_takesWord_0 rfl (lv_at hl 0 rfl) ?_
  refine lv_aload_n hx hb dX2_takesWord_1 rfl (lv_at hl 0 rfl) ?_
  refine x_get E hw (C := RX2) (T := TX2) (N := 15) hinX2 0 rfl rfl 10 (by decide) rfl (List.mem_of_getElem? (i := 1) rfl) dX2_takesWord_2 ?_
  refine x_cfVi E hw hl.1 (As := [.int (nI q10)]) (rest := []) (c_X2_mayStand l G tx b0 0 f0 e0 f1 0 q1 q2 q3 q4 q7 q8 q9 q10 q11 q12 q13 q14 0 (fun _ => 0) n1 g1 q10 (by omega) (by omega) (by omega)) 1 gX2_takesWord_X2_mayStand rfl rfl rfl (by decide) ⟨Nat.le_of_ble_eq_true rfl, Nat.le_of_ble_eq_true rfl⟩ ⟨Nat.le_of_ble_eq_true rfl, Nat.le_of_ble_eq_true rfl⟩ rfl 0 (ci := 2) (C := RX2) (T := TX2) (N := 15) rfl rfl [0, 1, 2] [] rfl rfl rfl rfl rfl [0, 1, 2] [(tx, .inr (2, [.ref b0, .int (nI q1), .int (nI q2), .int (nI q3), .int (nI q4), .ref f0, .ref f1, .int (nI q7), .int (nI q8), .int (nI q9), .int (nI q10), .int (nI q11), .int (nI q12), .int (nI q13), .int (nI q14)])), (f0, .inr (1, [.ref e0, .int (nI n1)])), (e0, .inl (cJ G, 20, .inr (.inl (fJ g1))))] rfl rfl rfl (Nat.le_of_ble_eq_true rfl) dX2_takesWord_5 (fun H locs hw => ?_)
  refine x_ifb_ne E (P := (q10 = 4 ∧ n1 < 20) ∨ (q10 = 0 ∧ q14 &&& 2 ^ 0 = 0 ∧ q14 &&& 2 ^ 1 = 0 ∧ q14 &&& 2 ^ 4 = 0) ∨ (1 ≤ q10 ∧ q10 ≤ 3 ∧ q14 &&& 2 ^ q10 = 0 ∧ q14 &&& 2 ^ 4 = 0)) (tgt := 13) dX2_takesWord_8 (by decide) (fun c_1 => ?_) (fun c_1 => ?_)
  · exact absurd c_1 hms
  · refine lv_iconst (v := (nI 0)) hx hb dX2_takesWord_11 (by decide) ?_
    exact hret (nI 0) () _ _ _ _ dX2_takesWord_12 rfl rfl hw

abbrev rm_X2_takesWord_ok : Room := { frames := 2, cells := 0, slots := 0, locals := 42 }
set_option maxHeartbeats 4000000 in
set_option maxRecDepth 100000 in
theorem c_X2_takesWord_ok (l : Launch) (G : XG) (tx : Nat) (b0 : Nat) (d0 : Nat) (f0 : Nat) (e0 : Nat) (f1 : Nat) (e1 : Nat) (q1 : Nat) (q2 : Nat) (q3 : Nat) (q4 : Nat) (q7 : Nat) (q8 : Nat) (q9 : Nat) (q10 : Nat) (q11 : Nat) (q12 : Nat) (q13 : Nat) (q14 : Nat) (N : Nat) (gb : Nat → Nat) (n1 : Nat) (g1 : Nat → Nat) (hk : q10 ≤ 8) (ht : q14 < 32) (hn1 : n1 ≤ 20) (hms : (q10 = 4 ∧ n1 < 20) ∨ (q10 = 0 ∧ q14 &&& 2 ^ 0 = 0 ∧ q14 &&& 2 ^ 1 = 0 ∧ q14 &&& 2 ^ 4 = 0) ∨ (1 ≤ q10 ∧ q10 ≤ 3 ∧ q14 &&& 2 ^ q10 = 0 ∧ q14 &&& 2 ^ 4 = 0)) : CfI l yX2_takesWord wsX2_takesWord rm_X2_takesWord_ok G [.ref tx] [(tx, .inr (2, [.ref b0, .int (nI q1), .int (nI q2), .int (nI q3), .int (nI q4), .ref f0, .ref f1, .int (nI q7), .int (nI q8), .int (nI q9), .int (nI q10), .int (nI q11), .int (nI q12), .int (nI q13), .int (nI q14)])), (f0, .inr (1, [.ref e0, .int (nI n1)])), (e0, .inl (cJ G, 20, .inr (.inl (fJ g1))))] (nI 1) [(tx, .inr (2, [.ref b0, .int (nI q1), .int (nI q2), .int (nI q3), .int (nI q4), .ref f0, .ref f1, .int (nI q7), .int (nI q8), .int (nI q9), .int (nI q10), .int (nI q11), .int (nI 1), .int (nI q10), .int (nI (q14 ||| 2 ^ q10))])), (f0, .inr (1, [.ref e0, .int (nI n1)])), (e0, .inl (cJ G, 20, .inr (.inl (fJ g1))))] := by
  refine CtI.go (cc := cX2_takesWord) (maxL := 1) RX2 rfl (by decide) rfl (Nat.le_of_ble_eq_true rfl) ?_
  intro p e s m args below meth c A Q ls E hw hl hret
  have hx := E.1
  have hb := E.2.1
  have hinX2 : ∀ w ∈ wsX20, w ∈ wsX2_takesWord := (fun w h => List.mem_cons_of_mem _ (List.mem_append_left _ (List.mem_append_right _ h)))
  have hl : lv_has ls 1 [(0, .ref tx)] := hl
  refine lv_aload_n hx hb dX2_takesWord_0 rfl (lv_at hl 0 rfl) ?_
  refine lv_aload_n hx hb dX2_takesWord_1 rfl (lv_at hl 0 rfl) ?_
  refine x_get E hw (C := RX2) (T := TX2) (N := 15) hinX2 0 rfl rfl 10 (by decide) rfl (List.mem_of_getElem? (i := 1) rfl) dX2_takesWord_2 ?_
  refine x_cfVi E hw hl.1 (As := [.int (nI q10)]) (rest := []) (c_X2_mayStand l G tx b0 0 f0 e0 f1 0 q1 q2 q3 q4 q7 q8 q9 q10 q11 q12 q13 q14 0 (fun _ => 0) n1 g1 q10 (by omega) (by omega) (by omega)) 1 gX2_takesWord_X2_mayStand rfl rfl rfl (by decide) ⟨Nat.le_of_ble_eq_true rfl, Nat.le_of_ble_eq_true rfl⟩ ⟨Nat.le_of_ble_eq_true rfl, Nat.le_of_ble_eq_true rfl⟩ rfl 0 (ci := 2) (C := RX2) (T := TX2) (N := 15) rfl rfl [0, 1, 2] [] rfl rfl rfl rfl rfl [0, 1, 2] [(tx, .inr (2, [.ref b0, .int (nI q1), .int (nI q2), .int (nI q3), .int (nI q4), .ref f0, .ref f1, .int (nI q7), .int (nI q8), .int (nI q9), .int (nI q10), .int (nI q11), .int (nI q12), .int (nI q13), .int (nI q14)])), (f0, .inr (1, [.ref e0, .int (nI n1)])), (e0, .inl (cJ G, 20, .inr (.inl (fJ g1))))] rfl rfl rfl (Nat.le_of_ble_eq_true rfl) dX2_takesWord_5 (fun H locs hw => ?_)
  refine x_ifb_ne E (P := (q10 = 4 ∧ n1 < 20) ∨ (q10 = 0 ∧ q14 &&& 2 ^ 0 = 0 ∧ q14 &&& 2 ^ 1 = 0 ∧ q14 &&& 2 ^ 4 = 0) ∨ (1 ≤ q10 ∧ q10 ≤ 3 ∧ q14 &&& 2 ^ q10 = 0 ∧ q14 &&& 2 ^ 4 = 0)) (tgt := 13) dX2_takesWord_8 (by decide) (fun c_1 => ?_) (fun c_1 => ?_)
  · refine lv_aload_n hx hb dX2_takesWord_13 rfl (lv_at hl 0 rfl) ?_
    refine lv_aload_n hx hb dX2_takesWord_14 rfl (lv_at hl 0 rfl) ?_
    refine x_get E hw (C := RX2) (T := TX2) (N := 15) hinX2 0 rfl rfl 10 (by decide) rfl (List.mem_of_getElem? (i := 1) rfl) dX2_takesWord_15 ?_
    refine x_put E hw (C := RX2) (T := TX2) (N := 15) (ws1 := [(tx, .inr (2, [.ref b0, .int (nI q1), .int (nI q2), .int (nI q3), .int (nI q4), .ref f0, .ref f1, .int (nI q7), .int (nI q8), .int (nI q9), .int (nI q10), .int (nI q11), .int (nI q12), .int (nI q10), .int (nI q14)])), (f0, .inr (1, [.ref e0, .int (nI n1)])), (e0, .inl (cJ G, 20, .inr (.inl (fJ g1))))]) hinX2 tyX2_ok nmX2 0 rfl rfl 13 (by decide) (List.mem_of_getElem? (i := 2) rfl) rfl rfl rfl (Nat.le_of_ble_eq_true rfl) rfl dX2_takesWord_18 (fun H locs hw => ?_)
    refine lv_aload_n hx hb dX2_takesWord_21 rfl (lv_at hl 0 rfl) ?_
    refine lv_dup hx hb dX2_takesWord_22 rfl ?_
    refine x_get E hw (C := RX2) (T := TX2) (N := 15) hinX2 0 rfl rfl 14 (by decide) rfl (List.mem_of_getElem? (i := 3) rfl) dX2_takesWord_23 ?_
    refine lv_iconst (v := (nI 1)) hx hb dX2_takesWord_26 (by decide) ?_
    refine lv_aload_n hx hb dX2_takesWord_27 rfl (lv_at hl 0 rfl) ?_
    refine x_get E hw (C := RX2) (T := TX2) (N := 15) hinX2 0 rfl rfl 13 (by decide) rfl (List.mem_of_getElem? (i := 2) rfl) dX2_takesWord_28 ?_
    have hk4 : q10 ≤ 4 := by omega
    refine x_ishl E (v := (nI (2 ^ q10))) dX2_takesWord_31 (x_shl1 (by omega)) ?_
    refine x_ior E (v := (nI (q14 ||| (2 ^ q10)))) dX2_takesWord_32 (x_orI _ _) ?_
    refine x_put E hw (C := RX2) (T := TX2) (N := 15) (ws1 := [(tx, .inr (2, [.ref b0, .int (nI q1), .int (nI q2), .int (nI q3), .int (nI q4), .ref f0, .ref f1, .int (nI q7), .int (nI q8), .int (nI q9), .int (nI q10), .int (nI q11), .int (nI q12), .int (nI q10), .int (nI (q14 ||| (2 ^ q10)))])), (f0, .inr (1, [.ref e0, .int (nI n1)])), (e0, .inl (cJ G, 20, .inr (.inl (fJ g1))))]) hinX2 tyX2_ok nmX2 0 rfl rfl 14 (by decide) (List.mem_of_getElem? (i := 3) rfl) rfl rfl rfl (Nat.le_of_ble_eq_true rfl) rfl dX2_takesWord_33 (fun H locs hw => ?_)
    refine lv_aload_n hx hb dX2_takesWord_36 rfl (lv_at hl 0 rfl) ?_
    refine lv_iconst (v := (nI 1)) hx hb dX2_takesWord_37 (by decide) ?_
    refine x_put E hw (C := RX2) (T := TX2) (N := 15) (ws1 := [(tx, .inr (2, [.ref b0, .int (nI q1), .int (nI q2), .int (nI q3), .int (nI q4), .ref f0, .ref f1, .int (nI q7), .int (nI q8), .int (nI q9), .int (nI q10), .int (nI q11), .int (nI 1), .int (nI q10), .int (nI (q14 ||| (2 ^ q10)))])), (f0, .inr (1, [.ref e0, .int (nI n1)])), (e0, .inl (cJ G, 20, .inr (.inl (fJ g1))))]) hinX2 tyX2_ok nmX2 0 rfl rfl 12 (by decide) (List.mem_of_getElem? (i := 4) rfl) rfl rfl rfl (Nat.le_of_ble_eq_true rfl) rfl dX2_takesWord_38 (fun H locs hw => ?_)
    refine lv_iconst (v := (nI 1)) hx hb dX2_takesWord_41 (by decide) ?_
    exact hret (nI 1) () _ _ _ _ dX2_takesWord_42 rfl rfl hw
  · exact absurd hms c_1

abbrev rm_X2_isToldCrease : Room := { frames := 1, cells := 0, slots := 0, locals := 20 }
set_option maxHeartbeats 4000000 in
set_option maxRecDepth 100000 in
theorem c_X2_isToldCrease (l : Launch) (G : XG) (tx : Nat) (b0 : Nat) (d0 : Nat) (f0 : Nat) (e0 : Nat) (f1 : Nat) (e1 : Nat) (q1 : Nat) (q2 : Nat) (q3 : Nat) (q4 : Nat) (q7 : Nat) (q8 : Nat) (q9 : Nat) (q10 : Nat) (q11 : Nat) (q12 : Nat) (q13 : Nat) (q14 : Nat) (N : Nat) (gb : Nat → Nat) (n2 : Nat) (k : Nat) (hk : k ≤ 100) (hn2 : n2 ≤ 20) : CfI l yX2_isToldCrease wsX2_isToldCrease rm_X2_isToldCrease G [.ref tx, .int (nI k)] [(tx, .inr (2, [.ref b0, .int (nI q1), .int (nI q2), .int (nI q3), .int (nI q4), .ref f0, .ref f1, .int (nI q7), .int (nI q8), .int (nI q9), .int (nI q10), .int (nI q11), .int (nI q12), .int (nI q13), .int (nI q14)])), (f1, .inr (1, [.ref e1, .int (nI n2)]))] (if k < 3 + n2 then 1 else 0) [(tx, .inr (2, [.ref b0, .int (nI q1), .int (nI q2), .int (nI q3), .int (nI q4), .ref f0, .ref f1, .int (nI q7), .int (nI q8), .int (nI q9), .int (nI q10), .int (nI q11), .int (nI q12), .int (nI q13), .int (nI q14)])), (f1, .inr (1, [.ref e1, .int (nI n2)]))] := by
  refine CtI.go (cc := cX2_isToldCrease) (maxL := 2) RX2 rfl (by decide) rfl (Nat.le_of_ble_eq_true rfl) ?_
  intro p e s m args below meth c A Q ls E hw hl hret
  have hx := E.1
  have hb := E.2.1
  have hinX2 : ∀ w ∈ wsX20, w ∈ wsX2_isToldCrease := (fun w h => List.mem_cons_of_mem _ (List.mem_append_left _ (List.mem_append_right _ h)))
  have hl : lv_has ls 2 [(0, .ref tx), (1, .int (nI k))] := hl
  refine lv_iload_n hx hb dX2_isToldCrease_0 rfl (lv_at hl 1 rfl) ?_
  refine x_if_lt E (nI_toI (show k < 2147483648 by omega)) (tgt := 21) dX2_isToldCrease_1 (by decide) (fun c_1 => ?_) (fun c_1 => ?_)
  · refine lv_iconst (v := (nI 0)) hx hb dX2_isToldCrease_21 (by decide) ?_
    exact hret (nI 0) () _ _ _ _ dX2_isToldCrease_22 rfl ((if_neg (by omega)).symm) hw
  · refine lv_iload_n hx hb dX2_isToldCrease_4 rfl (lv_at hl 1 rfl) ?_
    refine lv_iconst (v := (nI 3)) hx hb dX2_isToldCrease_5 (by decide) ?_
    refine lv_aload_n hx hb dX2_isToldCrease_6 rfl (lv_at hl 0 rfl) ?_
    refine x_get E hw (C := RX2) (T := TX2) (N := 15) hinX2 0 rfl rfl 6 (by decide) rfl (List.mem_of_getElem? (i := 1) rfl) dX2_isToldCrease_7 ?_
    refine x_cfVi E hw hl.1 (As := []) (rest := [.int (nI 3), .int (nI k)]) (c_X1_size l G f1 e1 n2) 0 gX2_isToldCrease_X1_size rfl rfl rfl (by decide) ⟨Nat.le_of_ble_eq_true rfl, Nat.le_of_ble_eq_true rfl⟩ ⟨Nat.le_of_ble_eq_true rfl, Nat.le_of_ble_eq_true rfl⟩ rfl 1 (ci := 1) (C := RX1) (T := TX1) (N := 2) rfl rfl [1] [0] rfl rfl rfl rfl rfl [0, 1] [(tx, .inr (2, [.ref b0, .int (nI q1), .int (nI q2), .int (nI q3), .int (nI q4), .ref f0, .ref f1, .int (nI q7), .int (nI q8), .int (nI q9), .int (nI q10), .int (nI q11), .int (nI q12), .int (nI q13), .int (nI q14)])), (f1, .inr (1, [.ref e1, .int (nI n2)]))] rfl rfl rfl (Nat.le_of_ble_eq_true rfl) dX2_isToldCrease_10 (fun H locs hw => ?_)
    refine x_iadd E (v := (nI (3 + n2))) dX2_isToldCrease_13 (nI_add _ _) ?_
    refine x_icmp_ge E (nI_toI (show k < 2147483648 by omega)) (nI_toI (show 3 + n2 < 2147483648 by omega)) (tgt := 21) dX2_isToldCrease_14 (by decide) (fun c_2 => ?_) (fun c_2 => ?_)
    · refine lv_iconst (v := (nI 0)) hx hb dX2_isToldCrease_21 (by decide) ?_
      exact hret (nI 0) () _ _ _ _ dX2_isToldCrease_22 rfl ((if_neg (by omega)).symm) hw
    · refine lv_iconst (v := (nI 1)) hx hb dX2_isToldCrease_17 (by decide) ?_
      refine lv_goto (tgt := 22) hx hb dX2_isToldCrease_18 (by decide) ?_
      exact hret (nI 1) () _ _ _ _ dX2_isToldCrease_22 rfl ((if_pos (by omega)).symm) hw

abbrev rm_X2_mayBe : Room := { frames := 2, cells := 0, slots := 0, locals := 41 }
set_option maxHeartbeats 4000000 in
set_option maxRecDepth 100000 in
theorem c_X2_mayBe (l : Launch) (G : XG) (tx : Nat) (b0 : Nat) (d0 : Nat) (f0 : Nat) (e0 : Nat) (f1 : Nat) (e1 : Nat) (q1 : Nat) (q2 : Nat) (q3 : Nat) (q4 : Nat) (q7 : Nat) (q8 : Nat) (q9 : Nat) (q10 : Nat) (q11 : Nat) (q12 : Nat) (q13 : Nat) (q14 : Nat) (N : Nat) (gb : Nat → Nat) (n2 : Nat) (k : Nat) (hk : k ≤ 100) (hn2 : n2 ≤ 20) (hw : q13 ≤ 4) (hq1 : q1 ≤ 63) : CfI l yX2_mayBe wsX2_mayBe rm_X2_mayBe G [.ref tx, .int (nI k)] [(tx, .inr (2, [.ref b0, .int (nI q1), .int (nI q2), .int (nI q3), .int (nI q4), .ref f0, .ref f1, .int (nI q7), .int (nI q8), .int (nI q9), .int (nI q10), .int (nI q11), .int (nI q12), .int (nI q13), .int (nI q14)])), (f1, .inr (1, [.ref e1, .int (nI n2)]))] (if (q13 = 0 ∧ 3 ≤ k ∧ k ≤ 63 ∧ k % 2 = 1) ∨ (q13 = 1 ∧ 1 ≤ k ∧ k < q1) ∨ (q13 = 2 ∧ k ≤ 99) ∨ (q13 = 3 ∧ k ≤ 9) ∨ (q13 = 4 ∧ k < 3 + n2) then 1 else 0) [(tx, .inr (2, [.ref b0, .int (nI q1), .int (nI q2), .int (nI q3), .int (nI q4), .ref f0, .ref f1, .int (nI q7), .int (nI q8), .int (nI q9), .int (nI q10), .int (nI q11), .int (nI q12), .int (nI q13), .int (nI q14)])), (f1, .inr (1, [.ref e1, .int (nI n2)]))] := by
  refine CtI.go (cc := cX2_mayBe) (maxL := 2) RX2 rfl (by decide) rfl (Nat.le_of_ble_eq_true rfl) ?_
  intro p e s m args below meth c A Q ls E hw hl hret
  have hx := E.1
  have hb := E.2.1
  have hinX2 : ∀ w ∈ wsX20, w ∈ wsX2_mayBe := (fun w h => List.mem_cons_of_mem _ (List.mem_append_left _ (List.mem_append_right _ h)))
  have hl : lv_has ls 2 [(0, .ref tx), (1, .int (nI k))] := hl
  refine lv_aload_n hx hb dX2_mayBe_0 rfl (lv_at hl 0 rfl) ?_
  refine x_get E hw (C := RX2) (T := TX2) (N := 15) hinX2 0 rfl rfl 13 (by decide) rfl (List.mem_of_getElem? (i := 1) rfl) dX2_mayBe_1 ?_
  rcases (show ((q13 : Nat) : Int) = 0 ∨ ((q13 : Nat) : Int) = 1 ∨ ((q13 : Nat) : Int) = 2 ∨ ((q13 : Nat) : Int) = 3 ∨ (((q13 : Nat) : Int) < 0 ∨ 3 < ((q13 : Nat) : Int)) by omega) with c_1 | c_1 | c_1 | c_1 | c_1
  · refine x_tsw E ((nI_toI (show q13 < 2147483648 by omega)).trans c_1) (tgt := 36) dX2_mayBe_4 (by decide) (by decide) rfl (by decide) ?_
    refine lv_iload_n hx hb dX2_mayBe_36 rfl (lv_at hl 1 rfl) ?_
    refine lv_iconst (v := (nI 3)) hx hb dX2_mayBe_37 (by decide) ?_
    refine x_icmp_lt E (nI_toI (show k < 2147483648 by omega)) (nI_toI (by decide)) (tgt := 58) dX2_mayBe_38 (by decide) (fun c_2 => ?_) (fun c_2 => ?_)
    · refine lv_iconst (v := (nI 0)) hx hb dX2_mayBe_58 (by decide) ?_
      exact hret (nI 0) () _ _ _ _ dX2_mayBe_59 rfl ((if_neg (by omega)).symm) hw
    · refine lv_iload_n hx hb dX2_mayBe_41 rfl (lv_at hl 1 rfl) ?_
      refine lv_bipush (v := (nI 63)) hx hb dX2_mayBe_42 (by decide) ?_
      refine x_icmp_gt E (nI_toI (show k < 2147483648 by omega)) (nI_toI (by decide)) (tgt := 58) dX2_mayBe_44 (by decide) (fun c_3 => ?_) (fun c_3 => ?_)
      · refine lv_iconst (v := (nI 0)) hx hb dX2_mayBe_58 (by decide) ?_
        exact hret (nI 0) () _ _ _ _ dX2_mayBe_59 rfl ((if_neg (by omega)).symm) hw
      · refine lv_iload_n hx hb dX2_mayBe_47 rfl (lv_at hl 1 rfl) ?_
        refine lv_iconst (v := (nI 2)) hx hb dX2_mayBe_48 (by decide) ?_
        refine x_irem E (v := (nI (k % 2))) dX2_mayBe_49 (by decide) (pk_rem (by omega) (by omega) (by omega)) ?_
        refine lv_iconst (v := (nI 1)) hx hb dX2_mayBe_50 (by decide) ?_
        refine x_icmp_ne E (nI_toI (show k % 2 < 2147483648 by omega)) (nI_toI (by decide)) (tgt := 58) dX2_mayBe_51 (by decide) (fun c_4 => ?_) (fun c_4 => ?_)
        · refine lv_iconst (v := (nI 0)) hx hb dX2_mayBe_58 (by decide) ?_
          exact hret (nI 0) () _ _ _ _ dX2_mayBe_59 rfl ((if_neg (by omega)).symm) hw
        · refine lv_iconst (v := (nI 1)) hx hb dX2_mayBe_54 (by decide) ?_
          refine lv_goto (tgt := 59) hx hb dX2_mayBe_55 (by decide) ?_
          exact hret (nI 1) () _ _ _ _ dX2_mayBe_59 rfl ((if_pos (by omega)).symm) hw
  · refine x_tsw E ((nI_toI (show q13 < 2147483648 by omega)).trans c_1) (tgt := 60) dX2_mayBe_4 (by decide) (by decide) rfl (by decide) ?_
    refine lv_iload_n hx hb dX2_mayBe_60 rfl (lv_at hl 1 rfl) ?_
    refine lv_iconst (v := (nI 1)) hx hb dX2_mayBe_61 (by decide) ?_
    refine x_icmp_lt E (nI_toI (show k < 2147483648 by omega)) (nI_toI (by decide)) (tgt := 77) dX2_mayBe_62 (by decide) (fun c_5 => ?_) (fun c_5 => ?_)
    · refine lv_iconst (v := (nI 0)) hx hb dX2_mayBe_77 (by decide) ?_
      exact hret (nI 0) () _ _ _ _ dX2_mayBe_78 rfl ((if_neg (by omega)).symm) hw
    · refine lv_iload_n hx hb dX2_mayBe_65 rfl (lv_at hl 1 rfl) ?_
      refine lv_aload_n hx hb dX2_mayBe_66 rfl (lv_at hl 0 rfl) ?_
      refine x_get E hw (C := RX2) (T := TX2) (N := 15) hinX2 0 rfl rfl 1 (by decide) rfl (List.mem_of_getElem? (i := 2) rfl) dX2_mayBe_67 ?_
      refine x_icmp_ge E (nI_toI (show k < 2147483648 by omega)) (nI_toI (show q1 < 2147483648 by omega)) (tgt := 77) dX2_mayBe_70 (by decide) (fun c_6 => ?_) (fun c_6 => ?_)
      · refine lv_iconst (v := (nI 0)) hx hb dX2_mayBe_77 (by decide) ?_
        exact hret (nI 0) () _ _ _ _ dX2_mayBe_78 rfl ((if_neg (by omega)).symm) hw
      · refine lv_iconst (v := (nI 1)) hx hb dX2_mayBe_73 (by decide) ?_
        refine lv_goto (tgt := 78) hx hb dX2_mayBe_74 (by decide) ?_
        exact hret (nI 1) () _ _ _ _ dX2_mayBe_78 rfl ((if_pos (by omega)).symm) hw
  · refine x_tsw E ((nI_toI (show q13 < 2147483648 by omega)).trans c_1) (tgt := 79) dX2_mayBe_4 (by decide) (by decide) rfl (by decide) ?_
    refine lv_iload_n hx hb dX2_mayBe_79 rfl (lv_at hl 1 rfl) ?_
    refine x_if_lt E (nI_toI (show k < 2147483648 by omega)) (tgt := 93) dX2_mayBe_80 (by decide) (fun c_7 => ?_) (fun c_7 => ?_)
    · refine lv_iconst (v := (nI 0)) hx hb dX2_mayBe_93 (by decide) ?_
      exact hret (nI 0) () _ _ _ _ dX2_mayBe_94 rfl ((if_neg (by omega)).symm) hw
    · refine lv_iload_n hx hb dX2_mayBe_83 rfl (lv_at hl 1 rfl) ?_
      refine lv_bipush (v := (nI 99)) hx hb dX2_mayBe_84 (by decide) ?_
      refine x_icmp_gt E (nI_toI (show k < 2147483648 by omega)) (nI_toI (by decide)) (tgt := 93) dX2_mayBe_86 (by decide) (fun c_8 => ?_) (fun c_8 => ?_)
      · refine lv_iconst (v := (nI 0)) hx hb dX2_mayBe_93 (by decide) ?_
        exact hret (nI 0) () _ _ _ _ dX2_mayBe_94 rfl ((if_neg (by omega)).symm) hw
      · refine lv_iconst (v := (nI 1)) hx hb dX2_mayBe_89 (by decide) ?_
        refine lv_goto (tgt := 94) hx hb dX2_mayBe_90 (by decide) ?_
        exact hret (nI 1) () _ _ _ _ dX2_mayBe_94 rfl ((if_pos (by omega)).symm) hw
  · refine x_tsw E ((nI_toI (show q13 < 2147483648 by omega)).trans c_1) (tgt := 95) dX2_mayBe_4 (by decide) (by decide) rfl (by decide) ?_
    refine lv_iload_n hx hb dX2_mayBe_95 rfl (lv_at hl 1 rfl) ?_
    refine x_if_lt E (nI_toI (show k < 2147483648 by omega)) (tgt := 109) dX2_mayBe_96 (by decide) (fun c_9 => ?_) (fun c_9 => ?_)
    · refine lv_iconst (v := (nI 0)) hx hb dX2_mayBe_109 (by decide) ?_
      exact hret (nI 0) () _ _ _ _ dX2_mayBe_110 rfl ((if_neg (by omega)).symm) hw
    · refine lv_iload_n hx hb dX2_mayBe_99 rfl (lv_at hl 1 rfl) ?_
      refine lv_bipush (v := (nI 9)) hx hb dX2_mayBe_100 (by decide) ?_
      refine x_icmp_gt E (nI_toI (show k < 2147483648 by omega)) (nI_toI (by decide)) (tgt := 109) dX2_mayBe_102 (by decide) (fun c_10 => ?_) (fun c_10 => ?_)
      · refine lv_iconst (v := (nI 0)) hx hb dX2_mayBe_109 (by decide) ?_
        exact hret (nI 0) () _ _ _ _ dX2_mayBe_110 rfl ((if_neg (by omega)).symm) hw
      · refine lv_iconst (v := (nI 1)) hx hb dX2_mayBe_105 (by decide) ?_
        refine lv_goto (tgt := 110) hx hb dX2_mayBe_106 (by decide) ?_
        exact hret (nI 1) () _ _ _ _ dX2_mayBe_110 rfl ((if_pos (by omega)).symm) hw
  · refine x_tswD E (nI_toI (show q13 < 2147483648 by omega)) dX2_mayBe_4 (tgt := 111) c_1 (by decide) ?_
    refine lv_aload_n hx hb dX2_mayBe_111 rfl (lv_at hl 0 rfl) ?_
    refine lv_iload_n hx hb dX2_mayBe_112 rfl (lv_at hl 1 rfl) ?_
    refine x_cfVi E hw hl.1 (As := [.int (nI k)]) (rest := []) (c_X2_isToldCrease l G tx b0 0 f0 0 f1 e1 q1 q2 q3 q4 q7 q8 q9 q10 q11 q12 q13 q14 0 (fun _ => 0) n2 k (by omega) (by omega)) 1 gX2_mayBe_X2_isToldCrease rfl rfl rfl (by decide) ⟨Nat.le_of_ble_eq_true rfl, Nat.le_of_ble_eq_true rfl⟩ ⟨Nat.le_of_ble_eq_true rfl, Nat.le_of_ble_eq_true rfl⟩ rfl 0 (ci := 2) (C := RX2) (T := TX2) (N := 15) rfl rfl [0, 1] [] rfl rfl rfl rfl rfl [0, 1] [(tx, .inr (2, [.ref b0, .int (nI q1), .int (nI q2), .int (nI q3), .int (nI q4), .ref f0, .ref f1, .int (nI q7), .int (nI q8), .int (nI q9), .int (nI q10), .int (nI q11), .int (nI q12), .int (nI q13), .int (nI q14)])), (f1, .inr (1, [.ref e1, .int (nI n2)]))] rfl rfl rfl (Nat.le_of_ble_eq_true rfl) dX2_mayBe_113 (fun H locs hw => ?_)
    exact hret (if k < 3 + n2 then 1 else 0) () _ _ _ _ dX2_mayBe_116 x_narZ (x_iteC (by omega)) hw

abbrev rm_X2_takesNumber_no : Room := { frames := 3, cells := 0, slots := 0, locals := 62 }
set_option maxHeartbeats 4000000 in
set_option maxRecDepth 100000 in
theorem c_X2_takesNumber_no (l : Launch) (G : XG) (tx : Nat) (b0 : Nat) (d0 : Nat) (f0 : Nat) (e0 : Nat) (f1 : Nat) (e1 : Nat) (q1 : Nat) (q2 : Nat) (q3 : Nat) (q4 : Nat) (q7 : Nat) (q8 : Nat) (q9 : Nat) (q10 : Nat) (q11 : Nat) (q12 : Nat) (q13 : Nat) (q14 : Nat) (N : Nat) (gb : Nat → Nat) (n1 : Nat) (n2 : Nat) (g1 : Nat → Nat) (hk : q11 ≤ 100) (hn2 : n2 ≤ 20) (hw : q13 ≤ 4) (hq1 : q1 ≤ 63) (hmb : ¬ ((q13 = 0 ∧ 3 ≤ q11 ∧ q11 ≤ 63 ∧ q11 % 2 = 1) ∨ (q13 = 1 ∧ 1 ≤ q11 ∧ q11 < q1) ∨ (q13 = 2 ∧ q11 ≤ 99) ∨ (q13 = 3 ∧ q11 ≤ 9) ∨ (q13 = 4 ∧ q11 < 3 + n2))) : CfI l yX2_takesNumber wsX2_takesNumber rm_X2_takesNumber_no G [.ref tx] [(tx, .inr (2, [.ref b0, .int (nI q1), .int (nI q2), .int (nI q3), .int (nI q4), .ref f0, .ref f1, .int (nI q7), .int (nI q8), .int (nI q9), .int (nI q10), .int (nI q11), .int (nI q12), .int (nI q13), .int (nI q14)])), (f0, .inr (1, [.ref e0, .int (nI n1)])), (e0, .inl (cJ G, 20, .inr (.inl (fJ g1)))), (f1, .inr (1, [.ref e1, .int (nI n2)]))] (nI 0) [(tx, .inr (2, [.ref b0, .int (nI q1), .int (nI q2), .int (nI q3), .int (nI q4), .ref f0, .ref f1, .int (nI q7), .int (nI q8), .int (nI q9), .int (nI q10), .int (nI q11), .int (nI q12), .int (nI q13), .int (nI q14)])), (f0, .inr (1, [.ref e0, .int (nI n1)])), (e0, .inl (cJ G, 20, .inr (.inl (fJ g1)))), (f1, .inr (1, [.ref e1, .int (nI n2)]))] := by
  refine CtI.go (cc := cX2_takesNumber) (maxL := 1) RX2 rfl (by decide) rfl (Nat.le_of_ble_eq_true rfl) ?_
  intro p e s m args below meth c A Q ls E hw hl hret
  have hx := E.1
  have hb := E.2.1
  have hinX2 : ∀ w ∈ wsX20, w ∈ wsX2_takesNumber := (fun w h => List.mem_cons_of_mem _ (List.mem_append_left _ (List.mem_append_right _ h)))
  have hl : lv_has ls 1 [(0, .ref tx)] := hl
  refine lv_aload_n hx hb dX2_takesNumber_0 rfl (lv_at hl 0 rfl) ?_
  refine lv_aload_n hx hb dX2_takesNumber_1 rfl (lv_at hl 0 rfl) ?_
  refine x_get E hw (C := RX2) (T := TX2) (N := 15) hinX2 0 rfl rfl 11 (by decide) rfl (List.mem_of_getElem? (i := 1) rfl) dX2_takesNumber_2 ?_
  refine x_cfVi E hw hl.1 (As := [.int (nI q11)]) (rest := []) (c_X2_mayBe l G tx b0 0 f0 0 f1 e1 q1 q2 q3 q4 q7 q8 q9 q10 q11 q12 q13 q14 0 (fun _ => 0) n2 q11 (by omega) (by omega) (by omega) (by omega)) 1 gX2_takesNumber_X2_mayBe rfl rfl rfl (by decide) ⟨Nat.le_of_ble_eq_true rfl, Nat.le_of_ble_eq_true rfl⟩ ⟨Nat.le_of_ble_eq_true rfl, Nat.le_of_ble_eq_true rfl⟩ rfl 0 (ci := 2) (C := RX2) (T := TX2) (N := 15) rfl rfl [0, 3] [1, 2] rfl rfl rfl rfl rfl [2, 0, 1, 3] [(tx, .inr (2, [.ref b0, .int (nI q1), .int (nI q2), .int (nI q3), .int (nI q4), .ref f0, .ref f1, .int (nI q7), .int (nI q8), .int (nI q9), .int (nI q10), .int (nI q11), .int (nI q12), .int (nI q13), .int (nI q14)])), (f0, .inr (1, [.ref e0, .int (nI n1)])), (e0, .inl (cJ G, 20, .inr (.inl (fJ g1)))), (f1, .inr (1, [.ref e1, .int (nI n2)]))] rfl rfl rfl (Nat.le_of_ble_eq_true rfl) dX2_takesNumber_5 (fun H locs hw => ?_)
  refine x_ifb_ne E (P := (q13 = 0 ∧ 3 ≤ q11 ∧ q11 ≤ 63 ∧ q11 % 2 = 1) ∨ (q13 = 1 ∧ 1 ≤ q11 ∧ q11 < q1) ∨ (q13 = 2 ∧ q11 ≤ 99) ∨ (q13 = 3 ∧ q11 ≤ 9) ∨ (q13 = 4 ∧ q11 < 3 + n2)) (tgt := 13) dX2_takesNumber_8 (by decide) (fun c_1 => ?_) (fun c_1 => ?_)
  · exact absurd c_1 hmb
  · refine lv_iconst (v := (nI 0)) hx hb dX2_takesNumber_11 (by decide) ?_
    exact hret (nI 0) () _ _ _ _ dX2_takesNumber_12 rfl rfl hw

abbrev rm_X2_takesNumber_0 : Room := { frames := 3, cells := 0, slots := 0, locals := 62 }
set_option maxHeartbeats 4000000 in
set_option maxRecDepth 100000 in
theorem c_X2_takesNumber_0 (l : Launch) (G : XG) (tx : Nat) (b0 : Nat) (d0 : Nat) (f0 : Nat) (e0 : Nat) (f1 : Nat) (e1 : Nat) (q1 : Nat) (q2 : Nat) (q3 : Nat) (q4 : Nat) (q7 : Nat) (q8 : Nat) (q9 : Nat) (q10 : Nat) (q11 : Nat) (q12 : Nat) (q13 : Nat) (q14 : Nat) (N : Nat) (gb : Nat → Nat) (n1 : Nat) (n2 : Nat) (g1 : Nat → Nat) (hk : q11 ≤ 100) (hn2 : n2 ≤ 20) (hw : q13 ≤ 4) (hq1 : q1 ≤ 63) (hmb : (q13 = 0 ∧ 3 ≤ q11 ∧ q11 ≤ 63 ∧ q11 % 2 = 1) ∨ (q13 = 1 ∧ 1 ≤ q11 ∧ q11 < q1) ∨ (q13 = 2 ∧ q11 ≤ 99) ∨ (q13 = 3 ∧ q11 ≤ 9) ∨ (q13 = 4 ∧ q11 < 3 + n2)) (hwi : q13 = 0) : CfI l yX2_takesNumber wsX2_takesNumber rm_X2_takesNumber_0 G [.ref tx] [(tx, .inr (2, [.ref b0, .int (nI q1), .int (nI q2), .int (nI q3), .int (nI q4), .ref f0, .ref f1, .int (nI q7), .int (nI q8), .int (nI q9), .int (nI q10), .int (nI q11), .int (nI q12), .int (nI q13), .int (nI q14)])), (f0, .inr (1, [.ref e0, .int (nI n1)])), (e0, .inl (cJ G, 20, .inr (.inl (fJ g1)))), (f1, .inr (1, [.ref e1, .int (nI n2)]))] (nI 1) [(tx, .inr (2, [.ref b0, .int (nI q11), .int (nI q2), .int (nI q3), .int (nI q4), .ref f0, .ref f1, .int (nI q7), .int (nI q8), .int (nI q9), .int (nI q10), .int (nI q11), .int (nI 3), .int (nI q13), .int (nI q14)])), (f0, .inr (1, [.ref e0, .int (nI n1)])), (e0, .inl (cJ G, 20, .inr (.inl (fJ g1)))), (f1, .inr (1, [.ref e1, .int (nI n2)]))] := by
  refine CtI.go (cc := cX2_takesNumber) (maxL := 1) RX2 rfl (by decide) rfl (Nat.le_of_ble_eq_true rfl) ?_
  intro p e s m args below meth c A Q ls E hw hl hret
  have hx := E.1
  have hb := E.2.1
  have hinX2 : ∀ w ∈ wsX20, w ∈ wsX2_takesNumber := (fun w h => List.mem_cons_of_mem _ (List.mem_append_left _ (List.mem_append_right _ h)))
  have hl : lv_has ls 1 [(0, .ref tx)] := hl
  refine lv_aload_n hx hb dX2_takesNumber_0 rfl (lv_at hl 0 rfl) ?_
  refine lv_aload_n hx hb dX2_takesNumber_1 rfl (lv_at hl 0 rfl) ?_
  refine x_get E hw (C := RX2) (T := TX2) (N := 15) hinX2 0 rfl rfl 11 (by decide) rfl (List.mem_of_getElem? (i := 1) rfl) dX2_takesNumber_2 ?_
  refine x_cfVi E hw hl.1 (As := [.int (nI q11)]) (rest := []) (c_X2_mayBe l G tx b0 0 f0 0 f1 e1 q1 q2 q3 q4 q7 q8 q9 q10 q11 q12 q13 q14 0 (fun _ => 0) n2 q11 (by omega) (by omega) (by omega) (by omega)) 1 gX2_takesNumber_X2_mayBe rfl rfl rfl (by decide) ⟨Nat.le_of_ble_eq_true rfl, Nat.le_of_ble_eq_true rfl⟩ ⟨Nat.le_of_ble_eq_true rfl, Nat.le_of_ble_eq_true rfl⟩ rfl 0 (ci := 2) (C := RX2) (T := TX2) (N := 15) rfl rfl [0, 3] [1, 2] rfl rfl rfl rfl rfl [2, 0, 1, 3] [(tx, .inr (2, [.ref b0, .int (nI q1), .int (nI q2), .int (nI q3), .int (nI q4), .ref f0, .ref f1, .int (nI q7), .int (nI q8), .int (nI q9), .int (nI q10), .int (nI q11), .int (nI q12), .int (nI q13), .int (nI q14)])), (f0, .inr (1, [.ref e0, .int (nI n1)])), (e0, .inl (cJ G, 20, .inr (.inl (fJ g1)))), (f1, .inr (1, [.ref e1, .int (nI n2)]))] rfl rfl rfl (Nat.le_of_ble_eq_true rfl) dX2_takesNumber_5 (fun H locs hw => ?_)
  refine x_ifb_ne E (P := (q13 = 0 ∧ 3 ≤ q11 ∧ q11 ≤ 63 ∧ q11 % 2 = 1) ∨ (q13 = 1 ∧ 1 ≤ q11 ∧ q11 < q1) ∨ (q13 = 2 ∧ q11 ≤ 99) ∨ (q13 = 3 ∧ q11 ≤ 9) ∨ (q13 = 4 ∧ q11 < 3 + n2)) (tgt := 13) dX2_takesNumber_8 (by decide) (fun c_1 => ?_) (fun c_1 => ?_)
  · refine lv_aload_n hx hb dX2_takesNumber_13 rfl (lv_at hl 0 rfl) ?_
    refine x_get E hw (C := RX2) (T := TX2) (N := 15) hinX2 0 rfl rfl 13 (by decide) rfl (List.mem_of_getElem? (i := 2) rfl) dX2_takesNumber_14 ?_
    rcases (show ((q13 : Nat) : Int) = 0 by omega) with c_1
    · refine x_tsw E ((nI_toI (show q13 < 2147483648 by omega)).trans c_1) (tgt := 48) dX2_takesNumber_17 (by decide) (by decide) rfl (by decide) ?_
      refine lv_aload_n hx hb dX2_takesNumber_48 rfl (lv_at hl 0 rfl) ?_
      refine lv_aload_n hx hb dX2_takesNumber_49 rfl (lv_at hl 0 rfl) ?_
      refine x_get E hw (C := RX2) (T := TX2) (N := 15) hinX2 0 rfl rfl 11 (by decide) rfl (List.mem_of_getElem? (i := 1) rfl) dX2_takesNumber_50 ?_
      refine x_put E hw (C := RX2) (T := TX2) (N := 15) (ws1 := [(tx, .inr (2, [.ref b0, .int (nI q11), .int (nI q2), .int (nI q3), .int (nI q4), .ref f0, .ref f1, .int (nI q7), .int (nI q8), .int (nI q9), .int (nI q10), .int (nI q11), .int (nI q12), .int (nI q13), .int (nI q14)])), (f0, .inr (1, [.ref e0, .int (nI n1)])), (e0, .inl (cJ G, 20, .inr (.inl (fJ g1)))), (f1, .inr (1, [.ref e1, .int (nI n2)]))]) hinX2 tyX2_ok nmX2 0 rfl rfl 1 (by decide) (List.mem_of_getElem? (i := 3) rfl) rfl rfl rfl (Nat.le_of_ble_eq_true rfl) rfl dX2_takesNumber_53 (fun H locs hw => ?_)
      refine lv_goto (tgt := 104) hx hb dX2_takesNumber_56 (by decide) ?_
      refine lv_aload_n hx hb dX2_takesNumber_104 rfl (lv_at hl 0 rfl) ?_
      refine lv_aload_n hx hb dX2_takesNumber_105 rfl (lv_at hl 0 rfl) ?_
      refine x_get E hw (C := RX2) (T := TX2) (N := 15) hinX2 0 rfl rfl 13 (by decide) rfl (List.mem_of_getElem? (i := 2) rfl) dX2_takesNumber_106 ?_
      refine lv_iconst (v := (nI 4)) hx hb dX2_takesNumber_109 (by decide) ?_
      refine x_icmp_ne E (nI_toI (show q13 < 2147483648 by omega)) (nI_toI (by decide)) (tgt := 117) dX2_takesNumber_110 (by decide) (fun c_2 => ?_) (fun c_2 => ?_)
      · refine lv_iconst (v := (nI 3)) hx hb dX2_takesNumber_117 (by decide) ?_
        refine x_put E hw (C := RX2) (T := TX2) (N := 15) (ws1 := [(tx, .inr (2, [.ref b0, .int (nI q11), .int (nI q2), .int (nI q3), .int (nI q4), .ref f0, .ref f1, .int (nI q7), .int (nI q8), .int (nI q9), .int (nI q10), .int (nI q11), .int (nI 3), .int (nI q13), .int (nI q14)])), (f0, .inr (1, [.ref e0, .int (nI n1)])), (e0, .inl (cJ G, 20, .inr (.inl (fJ g1)))), (f1, .inr (1, [.ref e1, .int (nI n2)]))]) hinX2 tyX2_ok nmX2 0 rfl rfl 12 (by decide) (List.mem_of_getElem? (i := 8) rfl) rfl rfl rfl (Nat.le_of_ble_eq_true rfl) rfl dX2_takesNumber_118 (fun H locs hw => ?_)
        refine lv_iconst (v := (nI 1)) hx hb dX2_takesNumber_121 (by decide) ?_
        exact hret (nI 1) () _ _ _ _ dX2_takesNumber_122 rfl rfl hw
      · exfalso; omega
  · exact absurd hmb c_1

abbrev rm_X2_takesNumber_1 : Room := { frames := 3, cells := 0, slots := 0, locals := 62 }
set_option maxHeartbeats 4000000 in
set_option maxRecDepth 100000 in
theorem c_X2_takesNumber_1 (l : Launch) (G : XG) (tx : Nat) (b0 : Nat) (d0 : Nat) (f0 : Nat) (e0 : Nat) (f1 : Nat) (e1 : Nat) (q1 : Nat) (q2 : Nat) (q3 : Nat) (q4 : Nat) (q7 : Nat) (q8 : Nat) (q9 : Nat) (q10 : Nat) (q11 : Nat) (q12 : Nat) (q13 : Nat) (q14 : Nat) (N : Nat) (gb : Nat → Nat) (n1 : Nat) (n2 : Nat) (g1 : Nat → Nat) (hk : q11 ≤ 100) (hn2 : n2 ≤ 20) (hw : q13 ≤ 4) (hq1 : q1 ≤ 63) (hmb : (q13 = 0 ∧ 3 ≤ q11 ∧ q11 ≤ 63 ∧ q11 % 2 = 1) ∨ (q13 = 1 ∧ 1 ≤ q11 ∧ q11 < q1) ∨ (q13 = 2 ∧ q11 ≤ 99) ∨ (q13 = 3 ∧ q11 ≤ 9) ∨ (q13 = 4 ∧ q11 < 3 + n2)) (hwi : q13 = 1) : CfI l yX2_takesNumber wsX2_takesNumber rm_X2_takesNumber_1 G [.ref tx] [(tx, .inr (2, [.ref b0, .int (nI q1), .int (nI q2), .int (nI q3), .int (nI q4), .ref f0, .ref f1, .int (nI q7), .int (nI q8), .int (nI q9), .int (nI q10), .int (nI q11), .int (nI q12), .int (nI q13), .int (nI q14)])), (f0, .inr (1, [.ref e0, .int (nI n1)])), (e0, .inl (cJ G, 20, .inr (.inl (fJ g1)))), (f1, .inr (1, [.ref e1, .int (nI n2)]))] (nI 1) [(tx, .inr (2, [.ref b0, .int (nI q1), .int (nI q11), .int (nI q3), .int (nI q4), .ref f0, .ref f1, .int (nI q7), .int (nI q8), .int (nI q9), .int (nI q10), .int (nI q11), .int (nI 3), .int (nI q13), .int (nI q14)])), (f0, .inr (1, [.ref e0, .int (nI n1)])), (e0, .inl (cJ G, 20, .inr (.inl (fJ g1)))), (f1, .inr (1, [.ref e1, .int (nI n2)]))] := by
  refine CtI.go (cc := cX2_takesNumber) (maxL := 1) RX2 rfl (by decide) rfl (Nat.le_of_ble_eq_true rfl) ?_
  intro p e s m args below meth c A Q ls E hw hl hret
  have hx := E.1
  have hb := E.2.1
  have hinX2 : ∀ w ∈ wsX20, w ∈ wsX2_takesNumber := (fun w h => List.mem_cons_of_mem _ (List.mem_append_left _ (List.mem_append_right _ h)))
  have hl : lv_has ls 1 [(0, .ref tx)] := hl
  refine lv_aload_n hx hb dX2_takesNumber_0 rfl (lv_at hl 0 rfl) ?_
  refine lv_aload_n hx hb dX2_takesNumber_1 rfl (lv_at hl 0 rfl) ?_
  refine x_get E hw (C := RX2) (T := TX2) (N := 15) hinX2 0 rfl rfl 11 (by decide) rfl (List.mem_of_getElem? (i := 1) rfl) dX2_takesNumber_2 ?_
  refine x_cfVi E hw hl.1 (As := [.int (nI q11)]) (rest := []) (c_X2_mayBe l G tx b0 0 f0 0 f1 e1 q1 q2 q3 q4 q7 q8 q9 q10 q11 q12 q13 q14 0 (fun _ => 0) n2 q11 (by omega) (by omega) (by omega) (by omega)) 1 gX2_takesNumber_X2_mayBe rfl rfl rfl (by decide) ⟨Nat.le_of_ble_eq_true rfl, Nat.le_of_ble_eq_true rfl⟩ ⟨Nat.le_of_ble_eq_true rfl, Nat.le_of_ble_eq_true rfl⟩ rfl 0 (ci := 2) (C := RX2) (T := TX2) (N := 15) rfl rfl [0, 3] [1, 2] rfl rfl rfl rfl rfl [2, 0, 1, 3] [(tx, .inr (2, [.ref b0, .int (nI q1), .int (nI q2), .int (nI q3), .int (nI q4), .ref f0, .ref f1, .int (nI q7), .int (nI q8), .int (nI q9), .int (nI q10), .int (nI q11), .int (nI q12), .int (nI q13), .int (nI q14)])), (f0, .inr (1, [.ref e0, .int (nI n1)])), (e0, .inl (cJ G, 20, .inr (.inl (fJ g1)))), (f1, .inr (1, [.ref e1, .int (nI n2)]))] rfl rfl rfl (Nat.le_of_ble_eq_true rfl) dX2_takesNumber_5 (fun H locs hw => ?_)
  refine x_ifb_ne E (P := (q13 = 0 ∧ 3 ≤ q11 ∧ q11 ≤ 63 ∧ q11 % 2 = 1) ∨ (q13 = 1 ∧ 1 ≤ q11 ∧ q11 < q1) ∨ (q13 = 2 ∧ q11 ≤ 99) ∨ (q13 = 3 ∧ q11 ≤ 9) ∨ (q13 = 4 ∧ q11 < 3 + n2)) (tgt := 13) dX2_takesNumber_8 (by decide) (fun c_1 => ?_) (fun c_1 => ?_)
  · refine lv_aload_n hx hb dX2_takesNumber_13 rfl (lv_at hl 0 rfl) ?_
    refine x_get E hw (C := RX2) (T := TX2) (N := 15) hinX2 0 rfl rfl 13 (by decide) rfl (List.mem_of_getElem? (i := 2) rfl) dX2_takesNumber_14 ?_
    rcases (show ((q13 : Nat) : Int) = 1 by omega) with c_1
    · refine x_tsw E ((nI_toI (show q13 < 2147483648 by omega)).trans c_1) (tgt := 59) dX2_takesNumber_17 (by decide) (by decide) rfl (by decide) ?_
      refine lv_aload_n hx hb dX2_takesNumber_59 rfl (lv_at hl 0 rfl) ?_
      refine lv_aload_n hx hb dX2_takesNumber_60 rfl (lv_at hl 0 rfl) ?_
      refine x_get E hw (C := RX2) (T := TX2) (N := 15) hinX2 0 rfl rfl 11 (by decide) rfl (List.mem_of_getElem? (i := 1) rfl) dX2_takesNumber_61 ?_
      refine x_put E hw (C := RX2) (T := TX2) (N := 15) (ws1 := [(tx, .inr (2, [.ref b0, .int (nI q1), .int (nI q11), .int (nI q3), .int (nI q4), .ref f0, .ref f1, .int (nI q7), .int (nI q8), .int (nI q9), .int (nI q10), .int (nI q11), .int (nI q12), .int (nI q13), .int (nI q14)])), (f0, .inr (1, [.ref e0, .int (nI n1)])), (e0, .inl (cJ G, 20, .inr (.inl (fJ g1)))), (f1, .inr (1, [.ref e1, .int (nI n2)]))]) hinX2 tyX2_ok nmX2 0 rfl rfl 2 (by decide) (List.mem_of_getElem? (i := 4) rfl) rfl rfl rfl (Nat.le_of_ble_eq_true rfl) rfl dX2_takesNumber_64 (fun H locs hw => ?_)
      refine lv_goto (tgt := 104) hx hb dX2_takesNumber_67 (by decide) ?_
      refine lv_aload_n hx hb dX2_takesNumber_104 rfl (lv_at hl 0 rfl) ?_
      refine lv_aload_n hx hb dX2_takesNumber_105 rfl (lv_at hl 0 rfl) ?_
      refine x_get E hw (C := RX2) (T := TX2) (N := 15) hinX2 0 rfl rfl 13 (by decide) rfl (List.mem_of_getElem? (i := 2) rfl) dX2_takesNumber_106 ?_
      refine lv_iconst (v := (nI 4)) hx hb dX2_takesNumber_109 (by decide) ?_
      refine x_icmp_ne E (nI_toI (show q13 < 2147483648 by omega)) (nI_toI (by decide)) (tgt := 117) dX2_takesNumber_110 (by decide) (fun c_2 => ?_) (fun c_2 => ?_)
      · refine lv_iconst (v := (nI 3)) hx hb dX2_takesNumber_117 (by decide) ?_
        refine x_put E hw (C := RX2) (T := TX2) (N := 15) (ws1 := [(tx, .inr (2, [.ref b0, .int (nI q1), .int (nI q11), .int (nI q3), .int (nI q4), .ref f0, .ref f1, .int (nI q7), .int (nI q8), .int (nI q9), .int (nI q10), .int (nI q11), .int (nI 3), .int (nI q13), .int (nI q14)])), (f0, .inr (1, [.ref e0, .int (nI n1)])), (e0, .inl (cJ G, 20, .inr (.inl (fJ g1)))), (f1, .inr (1, [.ref e1, .int (nI n2)]))]) hinX2 tyX2_ok nmX2 0 rfl rfl 12 (by decide) (List.mem_of_getElem? (i := 8) rfl) rfl rfl rfl (Nat.le_of_ble_eq_true rfl) rfl dX2_takesNumber_118 (fun H locs hw => ?_)
        refine lv_iconst (v := (nI 1)) hx hb dX2_takesNumber_121 (by decide) ?_
        exact hret (nI 1) () _ _ _ _ dX2_takesNumber_122 rfl rfl hw
      · exfalso; omega
  · exact absurd hmb c_1

abbrev rm_X2_takesNumber_2 : Room := { frames := 3, cells := 0, slots := 0, locals := 62 }
set_option maxHeartbeats 4000000 in
set_option maxRecDepth 100000 in
theorem c_X2_takesNumber_2 (l : Launch) (G : XG) (tx : Nat) (b0 : Nat) (d0 : Nat) (f0 : Nat) (e0 : Nat) (f1 : Nat) (e1 : Nat) (q1 : Nat) (q2 : Nat) (q3 : Nat) (q4 : Nat) (q7 : Nat) (q8 : Nat) (q9 : Nat) (q10 : Nat) (q11 : Nat) (q12 : Nat) (q13 : Nat) (q14 : Nat) (N : Nat) (gb : Nat → Nat) (n1 : Nat) (n2 : Nat) (g1 : Nat → Nat) (hk : q11 ≤ 100) (hn2 : n2 ≤ 20) (hw : q13 ≤ 4) (hq1 : q1 ≤ 63) (hmb : (q13 = 0 ∧ 3 ≤ q11 ∧ q11 ≤ 63 ∧ q11 % 2 = 1) ∨ (q13 = 1 ∧ 1 ≤ q11 ∧ q11 < q1) ∨ (q13 = 2 ∧ q11 ≤ 99) ∨ (q13 = 3 ∧ q11 ≤ 9) ∨ (q13 = 4 ∧ q11 < 3 + n2)) (hwi : q13 = 2) : CfI l yX2_takesNumber wsX2_takesNumber rm_X2_takesNumber_2 G [.ref tx] [(tx, .inr (2, [.ref b0, .int (nI q1), .int (nI q2), .int (nI q3), .int (nI q4), .ref f0, .ref f1, .int (nI q7), .int (nI q8), .int (nI q9), .int (nI q10), .int (nI q11), .int (nI q12), .int (nI q13), .int (nI q14)])), (f0, .inr (1, [.ref e0, .int (nI n1)])), (e0, .inl (cJ G, 20, .inr (.inl (fJ g1)))), (f1, .inr (1, [.ref e1, .int (nI n2)]))] (nI 1) [(tx, .inr (2, [.ref b0, .int (nI q1), .int (nI q2), .int (nI q11), .int (nI q4), .ref f0, .ref f1, .int (nI q7), .int (nI q8), .int (nI q9), .int (nI q10), .int (nI q11), .int (nI 3), .int (nI q13), .int (nI q14)])), (f0, .inr (1, [.ref e0, .int (nI n1)])), (e0, .inl (cJ G, 20, .inr (.inl (fJ g1)))), (f1, .inr (1, [.ref e1, .int (nI n2)]))] := by
  refine CtI.go (cc := cX2_takesNumber) (maxL := 1) RX2 rfl (by decide) rfl (Nat.le_of_ble_eq_true rfl) ?_
  intro p e s m args below meth c A Q ls E hw hl hret
  have hx := E.1
  have hb := E.2.1
  have hinX2 : ∀ w ∈ wsX20, w ∈ wsX2_takesNumber := (fun w h => List.mem_cons_of_mem _ (List.mem_append_left _ (List.mem_append_right _ h)))
  have hl : lv_has ls 1 [(0, .ref tx)] := hl
  refine lv_aload_n hx hb dX2_takesNumber_0 rfl (lv_at hl 0 rfl) ?_
  refine lv_aload_n hx hb dX2_takesNumber_1 rfl (lv_at hl 0 rfl) ?_
  refine x_get E hw (C := RX2) (T := TX2) (N := 15) hinX2 0 rfl rfl 11 (by decide) rfl (List.mem_of_getElem? (i := 1) rfl) dX2_takesNumber_2 ?_
  refine x_cfVi E hw hl.1 (As := [.int (nI q11)]) (rest := []) (c_X2_mayBe l G tx b0 0 f0 0 f1 e1 q1 q2 q3 q4 q7 q8 q9 q10 q11 q12 q13 q14 0 (fun _ => 0) n2 q11 (by omega) (by omega) (by omega) (by omega)) 1 gX2_takesNumber_X2_mayBe rfl rfl rfl (by decide) ⟨Nat.le_of_ble_eq_true rfl, Nat.le_of_ble_eq_true rfl⟩ ⟨Nat.le_of_ble_eq_true rfl, Nat.le_of_ble_eq_true rfl⟩ rfl 0 (ci := 2) (C := RX2) (T := TX2) (N := 15) rfl rfl [0, 3] [1, 2] rfl rfl rfl rfl rfl [2, 0, 1, 3] [(tx, .inr (2, [.ref b0, .int (nI q1), .int (nI q2), .int (nI q3), .int (nI q4), .ref f0, .ref f1, .int (nI q7), .int (nI q8), .int (nI q9), .int (nI q10), .int (nI q11), .int (nI q12), .int (nI q13), .int (nI q14)])), (f0, .inr (1, [.ref e0, .int (nI n1)])), (e0, .inl (cJ G, 20, .inr (.inl (fJ g1)))), (f1, .inr (1, [.ref e1, .int (nI n2)]))] rfl rfl rfl (Nat.le_of_ble_eq_true rfl) dX2_takesNumber_5 (fun H locs hw => ?_)
  refine x_ifb_ne E (P := (q13 = 0 ∧ 3 ≤ q11 ∧ q11 ≤ 63 ∧ q11 % 2 = 1) ∨ (q13 = 1 ∧ 1 ≤ q11 ∧ q11 < q1) ∨ (q13 = 2 ∧ q11 ≤ 99) ∨ (q13 = 3 ∧ q11 ≤ 9) ∨ (q13 = 4 ∧ q11 < 3 + n2)) (tgt := 13) dX2_takesNumber_8 (by decide) (fun c_1 => ?_) (fun c_1 => ?_)
  · refine lv_aload_n hx hb dX2_takesNumber_13 rfl (lv_at hl 0 rfl) ?_
    refine x_get E hw (C := RX2) (T := TX2) (N := 15) hinX2 0 rfl rfl 13 (by decide) rfl (List.mem_of_getElem? (i := 2) rfl) dX2_takesNumber_14 ?_
    rcases (show ((q13 : Nat) : Int) = 2 by omega) with c_1
    · refine x_tsw E ((nI_toI (show q13 < 2147483648 by omega)).trans c_1) (tgt := 70) dX2_takesNumber_17 (by decide) (by decide) rfl (by decide) ?_
      refine lv_aload_n hx hb dX2_takesNumber_70 rfl (lv_at hl 0 rfl) ?_
      refine lv_aload_n hx hb dX2_takesNumber_71 rfl (lv_at hl 0 rfl) ?_
      refine x_get E hw (C := RX2) (T := TX2) (N := 15) hinX2 0 rfl rfl 11 (by decide) rfl (List.mem_of_getElem? (i := 1) rfl) dX2_takesNumber_72 ?_
      refine x_put E hw (C := RX2) (T := TX2) (N := 15) (ws1 := [(tx, .inr (2, [.ref b0, .int (nI q1), .int (nI q2), .int (nI q11), .int (nI q4), .ref f0, .ref f1, .int (nI q7), .int (nI q8), .int (nI q9), .int (nI q10), .int (nI q11), .int (nI q12), .int (nI q13), .int (nI q14)])), (f0, .inr (1, [.ref e0, .int (nI n1)])), (e0, .inl (cJ G, 20, .inr (.inl (fJ g1)))), (f1, .inr (1, [.ref e1, .int (nI n2)]))]) hinX2 tyX2_ok nmX2 0 rfl rfl 3 (by decide) (List.mem_of_getElem? (i := 5) rfl) rfl rfl rfl (Nat.le_of_ble_eq_true rfl) rfl dX2_takesNumber_75 (fun H locs hw => ?_)
      refine lv_goto (tgt := 104) hx hb dX2_takesNumber_78 (by decide) ?_
      refine lv_aload_n hx hb dX2_takesNumber_104 rfl (lv_at hl 0 rfl) ?_
      refine lv_aload_n hx hb dX2_takesNumber_105 rfl (lv_at hl 0 rfl) ?_
      refine x_get E hw (C := RX2) (T := TX2) (N := 15) hinX2 0 rfl rfl 13 (by decide) rfl (List.mem_of_getElem? (i := 2) rfl) dX2_takesNumber_106 ?_
      refine lv_iconst (v := (nI 4)) hx hb dX2_takesNumber_109 (by decide) ?_
      refine x_icmp_ne E (nI_toI (show q13 < 2147483648 by omega)) (nI_toI (by decide)) (tgt := 117) dX2_takesNumber_110 (by decide) (fun c_2 => ?_) (fun c_2 => ?_)
      · refine lv_iconst (v := (nI 3)) hx hb dX2_takesNumber_117 (by decide) ?_
        refine x_put E hw (C := RX2) (T := TX2) (N := 15) (ws1 := [(tx, .inr (2, [.ref b0, .int (nI q1), .int (nI q2), .int (nI q11), .int (nI q4), .ref f0, .ref f1, .int (nI q7), .int (nI q8), .int (nI q9), .int (nI q10), .int (nI q11), .int (nI 3), .int (nI q13), .int (nI q14)])), (f0, .inr (1, [.ref e0, .int (nI n1)])), (e0, .inl (cJ G, 20, .inr (.inl (fJ g1)))), (f1, .inr (1, [.ref e1, .int (nI n2)]))]) hinX2 tyX2_ok nmX2 0 rfl rfl 12 (by decide) (List.mem_of_getElem? (i := 8) rfl) rfl rfl rfl (Nat.le_of_ble_eq_true rfl) rfl dX2_takesNumber_118 (fun H locs hw => ?_)
        refine lv_iconst (v := (nI 1)) hx hb dX2_takesNumber_121 (by decide) ?_
        exact hret (nI 1) () _ _ _ _ dX2_takesNumber_122 rfl rfl hw
      · exfalso; omega
  · exact absurd hmb c_1

abbrev rm_X2_takesNumber_3 : Room := { frames := 3, cells := 0, slots := 0, locals := 62 }
set_option maxHeartbeats 4000000 in
set_option maxRecDepth 100000 in
theorem c_X2_takesNumber_3 (l : Launch) (G : XG) (tx : Nat) (b0 : Nat) (d0 : Nat) (f0 : Nat) (e0 : Nat) (f1 : Nat) (e1 : Nat) (q1 : Nat) (q2 : Nat) (q3 : Nat) (q4 : Nat) (q7 : Nat) (q8 : Nat) (q9 : Nat) (q10 : Nat) (q11 : Nat) (q12 : Nat) (q13 : Nat) (q14 : Nat) (N : Nat) (gb : Nat → Nat) (n1 : Nat) (n2 : Nat) (g1 : Nat → Nat) (hk : q11 ≤ 100) (hn2 : n2 ≤ 20) (hw : q13 ≤ 4) (hq1 : q1 ≤ 63) (hmb : (q13 = 0 ∧ 3 ≤ q11 ∧ q11 ≤ 63 ∧ q11 % 2 = 1) ∨ (q13 = 1 ∧ 1 ≤ q11 ∧ q11 < q1) ∨ (q13 = 2 ∧ q11 ≤ 99) ∨ (q13 = 3 ∧ q11 ≤ 9) ∨ (q13 = 4 ∧ q11 < 3 + n2)) (hwi : q13 = 3) : CfI l yX2_takesNumber wsX2_takesNumber rm_X2_takesNumber_3 G [.ref tx] [(tx, .inr (2, [.ref b0, .int (nI q1), .int (nI q2), .int (nI q3), .int (nI q4), .ref f0, .ref f1, .int (nI q7), .int (nI q8), .int (nI q9), .int (nI q10), .int (nI q11), .int (nI q12), .int (nI q13), .int (nI q14)])), (f0, .inr (1, [.ref e0, .int (nI n1)])), (e0, .inl (cJ G, 20, .inr (.inl (fJ g1)))), (f1, .inr (1, [.ref e1, .int (nI n2)]))] (nI 1) [(tx, .inr (2, [.ref b0, .int (nI q1), .int (nI q2), .int (nI q3), .int (nI q11), .ref f0, .ref f1, .int (nI q7), .int (nI q8), .int (nI q9), .int (nI q10), .int (nI q11), .int (nI 3), .int (nI q13), .int (nI q14)])), (f0, .inr (1, [.ref e0, .int (nI n1)])), (e0, .inl (cJ G, 20, .inr (.inl (fJ g1)))), (f1, .inr (1, [.ref e1, .int (nI n2)]))] := by
  refine CtI.go (cc := cX2_takesNumber) (maxL := 1) RX2 rfl (by decide) rfl (Nat.le_of_ble_eq_true rfl) ?_
  intro p e s m args below meth c A Q ls E hw hl hret
  have hx := E.1
  have hb := E.2.1
  have hinX2 : ∀ w ∈ wsX20, w ∈ wsX2_takesNumber := (fun w h => List.mem_cons_of_mem _ (List.mem_append_left _ (List.mem_append_right _ h)))
  have hl : lv_has ls 1 [(0, .ref tx)] := hl
  refine lv_aload_n hx hb dX2_takesNumber_0 rfl (lv_at hl 0 rfl) ?_
  refine lv_aload_n hx hb dX2_takesNumber_1 rfl (lv_at hl 0 rfl) ?_
  refine x_get E hw (C := RX2) (T := TX2) (N := 15) hinX2 0 rfl rfl 11 (by decide) rfl (List.mem_of_getElem? (i := 1) rfl) dX2_takesNumber_2 ?_
  refine x_cfVi E hw hl.1 (As := [.int (nI q11)]) (rest := []) (c_X2_mayBe l G tx b0 0 f0 0 f1 e1 q1 q2 q3 q4 q7 q8 q9 q10 q11 q12 q13 q14 0 (fun _ => 0) n2 q11 (by omega) (by omega) (by omega) (by omega)) 1 gX2_takesNumber_X2_mayBe rfl rfl rfl (by decide) ⟨Nat.le_of_ble_eq_true rfl, Nat.le_of_ble_eq_true rfl⟩ ⟨Nat.le_of_ble_eq_true rfl, Nat.le_of_ble_eq_true rfl⟩ rfl 0 (ci := 2) (C := RX2) (T := TX2) (N := 15) rfl rfl [0, 3] [1, 2] rfl rfl rfl rfl rfl [2, 0, 1, 3] [(tx, .inr (2, [.ref b0, .int (nI q1), .int (nI q2), .int (nI q3), .int (nI q4), .ref f0, .ref f1, .int (nI q7), .int (nI q8), .int (nI q9), .int (nI q10), .int (nI q11), .int (nI q12), .int (nI q13), .int (nI q14)])), (f0, .inr (1, [.ref e0, .int (nI n1)])), (e0, .inl (cJ G, 20, .inr (.inl (fJ g1)))), (f1, .inr (1, [.ref e1, .int (nI n2)]))] rfl rfl rfl (Nat.le_of_ble_eq_true rfl) dX2_takesNumber_5 (fun H locs hw => ?_)
  refine x_ifb_ne E (P := (q13 = 0 ∧ 3 ≤ q11 ∧ q11 ≤ 63 ∧ q11 % 2 = 1) ∨ (q13 = 1 ∧ 1 ≤ q11 ∧ q11 < q1) ∨ (q13 = 2 ∧ q11 ≤ 99) ∨ (q13 = 3 ∧ q11 ≤ 9) ∨ (q13 = 4 ∧ q11 < 3 + n2)) (tgt := 13) dX2_takesNumber_8 (by decide) (fun c_1 => ?_) (fun c_1 => ?_)
  · refine lv_aload_n hx hb dX2_takesNumber_13 rfl (lv_at hl 0 rfl) ?_
    refine x_get E hw (C := RX2) (T := TX2) (N := 15) hinX2 0 rfl rfl 13 (by decide) rfl (List.mem_of_getElem? (i := 2) rfl) dX2_takesNumber_14 ?_
    rcases (show ((q13 : Nat) : Int) = 3 by omega) with c_1
    · refine x_tsw E ((nI_toI (show q13 < 2147483648 by omega)).trans c_1) (tgt := 81) dX2_takesNumber_17 (by decide) (by decide) rfl (by decide) ?_
      refine lv_aload_n hx hb dX2_takesNumber_81 rfl (lv_at hl 0 rfl) ?_
      refine lv_aload_n hx hb dX2_takesNumber_82 rfl (lv_at hl 0 rfl) ?_
      refine x_get E hw (C := RX2) (T := TX2) (N := 15) hinX2 0 rfl rfl 11 (by decide) rfl (List.mem_of_getElem? (i := 1) rfl) dX2_takesNumber_83 ?_
      refine x_put E hw (C := RX2) (T := TX2) (N := 15) (ws1 := [(tx, .inr (2, [.ref b0, .int (nI q1), .int (nI q2), .int (nI q3), .int (nI q11), .ref f0, .ref f1, .int (nI q7), .int (nI q8), .int (nI q9), .int (nI q10), .int (nI q11), .int (nI q12), .int (nI q13), .int (nI q14)])), (f0, .inr (1, [.ref e0, .int (nI n1)])), (e0, .inl (cJ G, 20, .inr (.inl (fJ g1)))), (f1, .inr (1, [.ref e1, .int (nI n2)]))]) hinX2 tyX2_ok nmX2 0 rfl rfl 4 (by decide) (List.mem_of_getElem? (i := 6) rfl) rfl rfl rfl (Nat.le_of_ble_eq_true rfl) rfl dX2_takesNumber_86 (fun H locs hw => ?_)
      refine lv_goto (tgt := 104) hx hb dX2_takesNumber_89 (by decide) ?_
      refine lv_aload_n hx hb dX2_takesNumber_104 rfl (lv_at hl 0 rfl) ?_
      refine lv_aload_n hx hb dX2_takesNumber_105 rfl (lv_at hl 0 rfl) ?_
      refine x_get E hw (C := RX2) (T := TX2) (N := 15) hinX2 0 rfl rfl 13 (by decide) rfl (List.mem_of_getElem? (i := 2) rfl) dX2_takesNumber_106 ?_
      refine lv_iconst (v := (nI 4)) hx hb dX2_takesNumber_109 (by decide) ?_
      refine x_icmp_ne E (nI_toI (show q13 < 2147483648 by omega)) (nI_toI (by decide)) (tgt := 117) dX2_takesNumber_110 (by decide) (fun c_2 => ?_) (fun c_2 => ?_)
      · refine lv_iconst (v := (nI 3)) hx hb dX2_takesNumber_117 (by decide) ?_
        refine x_put E hw (C := RX2) (T := TX2) (N := 15) (ws1 := [(tx, .inr (2, [.ref b0, .int (nI q1), .int (nI q2), .int (nI q3), .int (nI q11), .ref f0, .ref f1, .int (nI q7), .int (nI q8), .int (nI q9), .int (nI q10), .int (nI q11), .int (nI 3), .int (nI q13), .int (nI q14)])), (f0, .inr (1, [.ref e0, .int (nI n1)])), (e0, .inl (cJ G, 20, .inr (.inl (fJ g1)))), (f1, .inr (1, [.ref e1, .int (nI n2)]))]) hinX2 tyX2_ok nmX2 0 rfl rfl 12 (by decide) (List.mem_of_getElem? (i := 8) rfl) rfl rfl rfl (Nat.le_of_ble_eq_true rfl) rfl dX2_takesNumber_118 (fun H locs hw => ?_)
        refine lv_iconst (v := (nI 1)) hx hb dX2_takesNumber_121 (by decide) ?_
        exact hret (nI 1) () _ _ _ _ dX2_takesNumber_122 rfl rfl hw
      · exfalso; omega
  · exact absurd hmb c_1

abbrev rm_X2_takesNumber_4 : Room := { frames := 3, cells := 0, slots := 0, locals := 62 }
set_option maxHeartbeats 4000000 in
set_option maxRecDepth 100000 in
theorem c_X2_takesNumber_4 (l : Launch) (G : XG) (tx : Nat) (b0 : Nat) (d0 : Nat) (f0 : Nat) (e0 : Nat) (f1 : Nat) (e1 : Nat) (q1 : Nat) (q2 : Nat) (q3 : Nat) (q4 : Nat) (q7 : Nat) (q8 : Nat) (q9 : Nat) (q10 : Nat) (q11 : Nat) (q12 : Nat) (q13 : Nat) (q14 : Nat) (N : Nat) (gb : Nat → Nat) (n1 : Nat) (n2 : Nat) (g1 : Nat → Nat) (hk : q11 ≤ 100) (hn2 : n2 ≤ 20) (hw : q13 ≤ 4) (hq1 : q1 ≤ 63) (hmb : (q13 = 0 ∧ 3 ≤ q11 ∧ q11 ≤ 63 ∧ q11 % 2 = 1) ∨ (q13 = 1 ∧ 1 ≤ q11 ∧ q11 < q1) ∨ (q13 = 2 ∧ q11 ≤ 99) ∨ (q13 = 3 ∧ q11 ≤ 9) ∨ (q13 = 4 ∧ q11 < 3 + n2)) (hwi : q13 = 4) (hn1 : n1 < 20) : CfI l yX2_takesNumber wsX2_takesNumber rm_X2_takesNumber_4 G [.ref tx] [(tx, .inr (2, [.ref b0, .int (nI q1), .int (nI q2), .int (nI q3), .int (nI q4), .ref f0, .ref f1, .int (nI q7), .int (nI q8), .int (nI q9), .int (nI q10), .int (nI q11), .int (nI q12), .int (nI q13), .int (nI q14)])), (f0, .inr (1, [.ref e0, .int (nI n1)])), (e0, .inl (cJ G, 20, .inr (.inl (fJ g1)))), (f1, .inr (1, [.ref e1, .int (nI n2)]))] (nI 1) [(tx, .inr (2, [.ref b0, .int (nI q1), .int (nI q2), .int (nI q3), .int (nI q4), .ref f0, .ref f1, .int (nI q7), .int (nI q8), .int (nI q9), .int (nI q10), .int (nI q11), .int (nI 2), .int (nI q13), .int (nI q14)])), (f0, .inr (1, [.ref e0, .int (nI (n1 + 1))])), (e0, .inl (cJ G, 20, .inr (.inl (fJ (va_up g1 n1 q11))))), (f1, .inr (1, [.ref e1, .int (nI n2)]))] := by
  refine CtI.go (cc := cX2_takesNumber) (maxL := 1) RX2 rfl (by decide) rfl (Nat.le_of_ble_eq_true rfl) ?_
  intro p e s m args below meth c A Q ls E hw hl hret
  have hx := E.1
  have hb := E.2.1
  have hinX2 : ∀ w ∈ wsX20, w ∈ wsX2_takesNumber := (fun w h => List.mem_cons_of_mem _ (List.mem_append_left _ (List.mem_append_right _ h)))
  have hl : lv_has ls 1 [(0, .ref tx)] := hl
  refine lv_aload_n hx hb dX2_takesNumber_0 rfl (lv_at hl 0 rfl) ?_
  refine lv_aload_n hx hb dX2_takesNumber_1 rfl (lv_at hl 0 rfl) ?_
  refine x_get E hw (C := RX2) (T := TX2) (N := 15) hinX2 0 rfl rfl 11 (by decide) rfl (List.mem_of_getElem? (i := 1) rfl) dX2_takesNumber_2 ?_
  refine x_cfVi E hw hl.1 (As := [.int (nI q11)]) (rest := []) (c_X2_mayBe l G tx b0 0 f0 0 f1 e1 q1 q2 q3 q4 q7 q8 q9 q10 q11 q12 q13 q14 0 (fun _ => 0) n2 q11 (by omega) (by omega) (by omega) (by omega)) 1 gX2_takesNumber_X2_mayBe rfl rfl rfl (by decide) ⟨Nat.le_of_ble_eq_true rfl, Nat.le_of_ble_eq_true rfl⟩ ⟨Nat.le_of_ble_eq_true rfl, Nat.le_of_ble_eq_true rfl⟩ rfl 0 (ci := 2) (C := RX2) (T := TX2) (N := 15) rfl rfl [0, 3] [1, 2] rfl rfl rfl rfl rfl [2, 0, 1, 3] [(tx, .inr (2, [.ref b0, .int (nI q1), .int (nI q2), .int (nI q3), .int (nI q4), .ref f0, .ref f1, .int (nI q7), .int (nI q8), .int (nI q9), .int (nI q10), .int (nI q11), .int (nI q12), .int (nI q13), .int (nI q14)])), (f0, .inr (1, [.ref e0, .int (nI n1)])), (e0, .inl (cJ G, 20, .inr (.inl (fJ g1)))), (f1, .inr (1, [.ref e1, .int (nI n2)]))] rfl rfl rfl (Nat.le_of_ble_eq_true rfl) dX2_takesNumber_5 (fun H locs hw => ?_)
  refine x_ifb_ne E (P := (q13 = 0 ∧ 3 ≤ q11 ∧ q11 ≤ 63 ∧ q11 % 2 = 1) ∨ (q13 = 1 ∧ 1 ≤ q11 ∧ q11 < q1) ∨ (q13 = 2 ∧ q11 ≤ 99) ∨ (q13 = 3 ∧ q11 ≤ 9) ∨ (q13 = 4 ∧ q11 < 3 + n2)) (tgt := 13) dX2_takesNumber_8 (by decide) (fun c_1 => ?_) (fun c_1 => ?_)
  · refine lv_aload_n hx hb dX2_takesNumber_13 rfl (lv_at hl 0 rfl) ?_
    refine x_get E hw (C := RX2) (T := TX2) (N := 15) hinX2 0 rfl rfl 13 (by decide) rfl (List.mem_of_getElem? (i := 2) rfl) dX2_takesNumber_14 ?_
    rcases (show (((q13 : Nat) : Int) < 0 ∨ 3 < ((q13 : Nat) : Int)) by omega) with c_1
    · refine x_tswD E (nI_toI (show q13 < 2147483648 by omega)) dX2_takesNumber_17 (tgt := 92) c_1 (by decide) ?_
      refine lv_aload_n hx hb dX2_takesNumber_92 rfl (lv_at hl 0 rfl) ?_
      refine x_get E hw (C := RX2) (T := TX2) (N := 15) hinX2 0 rfl rfl 5 (by decide) rfl (List.mem_of_getElem? (i := 7) rfl) dX2_takesNumber_93 ?_
      refine lv_aload_n hx hb dX2_takesNumber_96 rfl (lv_at hl 0 rfl) ?_
      refine x_get E hw (C := RX2) (T := TX2) (N := 15) hinX2 0 rfl rfl 11 (by decide) rfl (List.mem_of_getElem? (i := 1) rfl) dX2_takesNumber_97 ?_
      refine lv_i2l (v := (lN q11)) hx hb dX2_takesNumber_100 (nI_l (by omega)) ?_
      refine x_cfVv E hw hl.1 (As := [.long (lN q11)]) (rest := []) (c_X1_add l G f0 e0 n1 20 q11 g1 (by omega) (by omega)) 1 gX2_takesNumber_X1_add rfl rfl rfl (by decide) ⟨Nat.le_of_ble_eq_true rfl, Nat.le_of_ble_eq_true rfl⟩ ⟨Nat.le_of_ble_eq_true rfl, Nat.le_of_ble_eq_true rfl⟩ rfl 1 (ci := 1) (C := RX1) (T := TX1) (N := 2) rfl rfl [1, 2] [0, 3] rfl rfl rfl rfl rfl [0, 2, 3, 1] [(tx, .inr (2, [.ref b0, .int (nI q1), .int (nI q2), .int (nI q3), .int (nI q4), .ref f0, .ref f1, .int (nI q7), .int (nI q8), .int (nI q9), .int (nI q10), .int (nI q11), .int (nI q12), .int (nI q13), .int (nI q14)])), (f0, .inr (1, [.ref e0, .int (nI (n1 + 1))])), (e0, .inl (cJ G, 20, .inr (.inl (fJ (va_up g1 n1 q11))))), (f1, .inr (1, [.ref e1, .int (nI n2)]))] rfl rfl rfl (Nat.le_of_ble_eq_true rfl) dX2_takesNumber_101 (fun H locs hw => ?_)
      refine lv_aload_n hx hb dX2_takesNumber_104 rfl (lv_at hl 0 rfl) ?_
      refine lv_aload_n hx hb dX2_takesNumber_105 rfl (lv_at hl 0 rfl) ?_
      refine x_get E hw (C := RX2) (T := TX2) (N := 15) hinX2 0 rfl rfl 13 (by decide) rfl (List.mem_of_getElem? (i := 2) rfl) dX2_takesNumber_106 ?_
      refine lv_iconst (v := (nI 4)) hx hb dX2_takesNumber_109 (by decide) ?_
      refine x_icmp_ne E (nI_toI (show q13 < 2147483648 by omega)) (nI_toI (by decide)) (tgt := 117) dX2_takesNumber_110 (by decide) (fun c_2 => ?_) (fun c_2 => ?_)
      · exfalso; omega
      · refine lv_iconst (v := (nI 2)) hx hb dX2_takesNumber_113 (by decide) ?_
        refine lv_goto (tgt := 118) hx hb dX2_takesNumber_114 (by decide) ?_
        refine x_put E hw (C := RX2) (T := TX2) (N := 15) (ws1 := [(tx, .inr (2, [.ref b0, .int (nI q1), .int (nI q2), .int (nI q3), .int (nI q4), .ref f0, .ref f1, .int (nI q7), .int (nI q8), .int (nI q9), .int (nI q10), .int (nI q11), .int (nI 2), .int (nI q13), .int (nI q14)])), (f0, .inr (1, [.ref e0, .int (nI (n1 + 1))])), (e0, .inl (cJ G, 20, .inr (.inl (fJ (va_up g1 n1 q11))))), (f1, .inr (1, [.ref e1, .int (nI n2)]))]) hinX2 tyX2_ok nmX2 0 rfl rfl 12 (by decide) (List.mem_of_getElem? (i := 8) rfl) rfl rfl rfl (Nat.le_of_ble_eq_true rfl) rfl dX2_takesNumber_118 (fun H locs hw => ?_)
        refine lv_iconst (v := (nI 1)) hx hb dX2_takesNumber_121 (by decide) ?_
        exact hret (nI 1) () _ _ _ _ dX2_takesNumber_122 rfl rfl hw
  · exact absurd hmb c_1

abbrev rm_X2_takesSecond_no : Room := { frames := 2, cells := 0, slots := 0, locals := 41 }
set_option maxHeartbeats 4000000 in
set_option maxRecDepth 100000 in
theorem c_X2_takesSecond_no (l : Launch) (G : XG) (tx : Nat) (b0 : Nat) (d0 : Nat) (f0 : Nat) (e0 : Nat) (f1 : Nat) (e1 : Nat) (q1 : Nat) (q2 : Nat) (q3 : Nat) (q4 : Nat) (q7 : Nat) (q8 : Nat) (q9 : Nat) (q10 : Nat) (q11 : Nat) (q12 : Nat) (q13 : Nat) (q14 : Nat) (N : Nat) (gb : Nat → Nat) (n1 : Nat) (n2 : Nat) (g1 : Nat → Nat) (g2 : Nat → Nat) (hk : q11 ≤ 100) (hn2 : n2 < 20) (hg1 : g1 n2 ≤ 100) (hs : ¬ (q11 < 3 + n2 ∧ q11 ≠ g1 n2)) : CfI l yX2_takesSecond wsX2_takesSecond rm_X2_takesSecond_no G [.ref tx] [(tx, .inr (2, [.ref b0, .int (nI q1), .int (nI q2), .int (nI q3), .int (nI q4), .ref f0, .ref f1, .int (nI q7), .int (nI q8), .int (nI q9), .int (nI q10), .int (nI q11), .int (nI q12), .int (nI q13), .int (nI q14)])), (f0, .inr (1, [.ref e0, .int (nI n1)])), (e0, .inl (cJ G, 20, .inr (.inl (fJ g1)))), (f1, .inr (1, [.ref e1, .int (nI n2)])), (e1, .inl (cJ G, 20, .inr (.inl (fJ g2))))] (nI 0) [(tx, .inr (2, [.ref b0, .int (nI q1), .int (nI q2), .int (nI q3), .int (nI q4), .ref f0, .ref f1, .int (nI q7), .int (nI q8), .int (nI q9), .int (nI q10), .int (nI q11), .int (nI q12), .int (nI q13), .int (nI q14)])), (f0, .inr (1, [.ref e0, .int (nI n1)])), (e0, .inl (cJ G, 20, .inr (.inl (fJ g1)))), (f1, .inr (1, [.ref e1, .int (nI n2)])), (e1, .inl (cJ G, 20, .inr (.inl (fJ g2))))] := by
  refine CtI.go (cc := cX2_takesSecond) (maxL := 1) RX2 rfl (by decide) rfl (Nat.le_of_ble_eq_true rfl) ?_
  intro p e s m args below meth c A Q ls E hw hl hret
  have hx := E.1
  have hb := E.2.1
  have hinX2 : ∀ w ∈ wsX20, w ∈ wsX2_takesSecond := (fun w h => List.mem_cons_of_mem _ (List.mem_append_left _ (List.mem_append_right _ h)))
  have hl : lv_has ls 1 [(0, .ref tx)] := hl
  refine lv_aload_n hx hb dX2_takesSecond_0 rfl (lv_at hl 0 rfl) ?_
  refine lv_aload_n hx hb dX2_takesSecond_1 rfl (lv_at hl 0 rfl) ?_
  refine x_get E hw (C := RX2) (T := TX2) (N := 15) hinX2 0 rfl rfl 11 (by decide) rfl (List.mem_of_getElem? (i := 1) rfl) dX2_takesSecond_2 ?_
  refine x_cfVi E hw hl.1 (As := [.int (nI q11)]) (rest := []) (c_X2_isToldCrease l G tx b0 0 f0 0 f1 e1 q1 q2 q3 q4 q7 q8 q9 q10 q11 q12 q13 q14 0 (fun _ => 0) n2 q11 (by omega) (by omega)) 1 gX2_takesSecond_X2_isToldCrease rfl rfl rfl (by decide) ⟨Nat.le_of_ble_eq_true rfl, Nat.le_of_ble_eq_true rfl⟩ ⟨Nat.le_of_ble_eq_true rfl, Nat.le_of_ble_eq_true rfl⟩ rfl 0 (ci := 2) (C := RX2) (T := TX2) (N := 15) rfl rfl [0, 3] [1, 2, 4] rfl rfl rfl rfl rfl [3, 0, 1, 4, 2] [(tx, .inr (2, [.ref b0, .int (nI q1), .int (nI q2), .int (nI q3), .int (nI q4), .ref f0, .ref f1, .int (nI q7), .int (nI q8), .int (nI q9), .int (nI q10), .int (nI q11), .int (nI q12), .int (nI q13), .int (nI q14)])), (f0, .inr (1, [.ref e0, .int (nI n1)])), (e0, .inl (cJ G, 20, .inr (.inl (fJ g1)))), (f1, .inr (1, [.ref e1, .int (nI n2)])), (e1, .inl (cJ G, 20, .inr (.inl (fJ g2))))] rfl rfl rfl (Nat.le_of_ble_eq_true rfl) dX2_takesSecond_5 (fun H locs hw => ?_)
  refine x_ifb_eq E (P := q11 < 3 + n2) (tgt := 34) dX2_takesSecond_8 (by decide) (fun c_1 => ?_) (fun c_1 => ?_)
  · refine lv_iconst (v := (nI 0)) hx hb dX2_takesSecond_34 (by decide) ?_
    exact hret (nI 0) () _ _ _ _ dX2_takesSecond_35 rfl rfl hw
  · refine lv_aload_n hx hb dX2_takesSecond_11 rfl (lv_at hl 0 rfl) ?_
    refine x_get E hw (C := RX2) (T := TX2) (N := 15) hinX2 0 rfl rfl 11 (by decide) rfl (List.mem_of_getElem? (i := 1) rfl) dX2_takesSecond_12 ?_
    refine lv_i2l (v := (lN q11)) hx hb dX2_takesSecond_15 (nI_l (by omega)) ?_
    refine lv_aload_n hx hb dX2_takesSecond_16 rfl (lv_at hl 0 rfl) ?_
    refine x_get E hw (C := RX2) (T := TX2) (N := 15) hinX2 0 rfl rfl 5 (by decide) rfl (List.mem_of_getElem? (i := 2) rfl) dX2_takesSecond_17 ?_
    refine lv_aload_n hx hb dX2_takesSecond_20 rfl (lv_at hl 0 rfl) ?_
    refine x_get E hw (C := RX2) (T := TX2) (N := 15) hinX2 0 rfl rfl 6 (by decide) rfl (List.mem_of_getElem? (i := 3) rfl) dX2_takesSecond_21 ?_
    refine x_cfVi E hw hl.1 (As := []) (rest := [.ref f0, .long (lN q11)]) (c_X1_size l G f1 e1 n2) 0 gX2_takesSecond_X1_size rfl rfl rfl (by decide) ⟨Nat.le_of_ble_eq_true rfl, Nat.le_of_ble_eq_true rfl⟩ ⟨Nat.le_of_ble_eq_true rfl, Nat.le_of_ble_eq_true rfl⟩ rfl 3 (ci := 1) (C := RX1) (T := TX1) (N := 2) rfl rfl [3] [0, 1, 2, 4] rfl rfl rfl rfl rfl [0, 1, 2, 4, 3] [(tx, .inr (2, [.ref b0, .int (nI q1), .int (nI q2), .int (nI q3), .int (nI q4), .ref f0, .ref f1, .int (nI q7), .int (nI q8), .int (nI q9), .int (nI q10), .int (nI q11), .int (nI q12), .int (nI q13), .int (nI q14)])), (f0, .inr (1, [.ref e0, .int (nI n1)])), (e0, .inl (cJ G, 20, .inr (.inl (fJ g1)))), (f1, .inr (1, [.ref e1, .int (nI n2)])), (e1, .inl (cJ G, 20, .inr (.inl (fJ g2))))] rfl rfl rfl (Nat.le_of_ble_eq_true rfl) dX2_takesSecond_24 (fun H locs hw => ?_)
    refine x_cfVl E hw hl.1 (As := [.int (nI n2)]) (rest := [.long (lN q11)]) (c_X1_at l G f0 e0 n1 20 n2 g1 (by omega) (by omega)) 1 gX2_takesSecond_X1_at rfl rfl rfl (by decide) ⟨Nat.le_of_ble_eq_true rfl, Nat.le_of_ble_eq_true rfl⟩ ⟨Nat.le_of_ble_eq_true rfl, Nat.le_of_ble_eq_true rfl⟩ rfl 1 (ci := 1) (C := RX1) (T := TX1) (N := 2) rfl rfl [1, 2] [0, 3, 4] rfl rfl rfl rfl rfl [0, 3, 4, 1, 2] [(tx, .inr (2, [.ref b0, .int (nI q1), .int (nI q2), .int (nI q3), .int (nI q4), .ref f0, .ref f1, .int (nI q7), .int (nI q8), .int (nI q9), .int (nI q10), .int (nI q11), .int (nI q12), .int (nI q13), .int (nI q14)])), (f0, .inr (1, [.ref e0, .int (nI n1)])), (e0, .inl (cJ G, 20, .inr (.inl (fJ g1)))), (f1, .inr (1, [.ref e1, .int (nI n2)])), (e1, .inl (cJ G, 20, .inr (.inl (fJ g2))))] rfl rfl rfl (Nat.le_of_ble_eq_true rfl) dX2_takesSecond_27 (fun H locs hw => ?_)
    refine x_lc_ne E (lN_toI (show q11 < 9223372036854775808 by omega)) (lN_toI (show g1 n2 < 9223372036854775808 by omega)) (tgt := 36) dX2_takesSecond_30 dX2_takesSecond_31 (by decide) (fun c_2 => ?_) (fun c_2 => ?_)
    · exfalso; omega
    · refine lv_iconst (v := (nI 0)) hx hb dX2_takesSecond_34 (by decide) ?_
      exact hret (nI 0) () _ _ _ _ dX2_takesSecond_35 rfl rfl hw

abbrev rm_X2_takesSecond_ok : Room := { frames := 2, cells := 0, slots := 0, locals := 41 }
set_option maxHeartbeats 4000000 in
set_option maxRecDepth 100000 in
theorem c_X2_takesSecond_ok (l : Launch) (G : XG) (tx : Nat) (b0 : Nat) (d0 : Nat) (f0 : Nat) (e0 : Nat) (f1 : Nat) (e1 : Nat) (q1 : Nat) (q2 : Nat) (q3 : Nat) (q4 : Nat) (q7 : Nat) (q8 : Nat) (q9 : Nat) (q10 : Nat) (q11 : Nat) (q12 : Nat) (q13 : Nat) (q14 : Nat) (N : Nat) (gb : Nat → Nat) (n1 : Nat) (n2 : Nat) (g1 : Nat → Nat) (g2 : Nat → Nat) (hk : q11 ≤ 100) (hn2 : n2 < 20) (hg1 : g1 n2 ≤ 100) (hs : q11 < 3 + n2 ∧ q11 ≠ g1 n2) : CfI l yX2_takesSecond wsX2_takesSecond rm_X2_takesSecond_ok G [.ref tx] [(tx, .inr (2, [.ref b0, .int (nI q1), .int (nI q2), .int (nI q3), .int (nI q4), .ref f0, .ref f1, .int (nI q7), .int (nI q8), .int (nI q9), .int (nI q10), .int (nI q11), .int (nI q12), .int (nI q13), .int (nI q14)])), (f0, .inr (1, [.ref e0, .int (nI n1)])), (e0, .inl (cJ G, 20, .inr (.inl (fJ g1)))), (f1, .inr (1, [.ref e1, .int (nI n2)])), (e1, .inl (cJ G, 20, .inr (.inl (fJ g2))))] (nI 1) [(tx, .inr (2, [.ref b0, .int (nI q1), .int (nI q2), .int (nI q3), .int (nI q4), .ref f0, .ref f1, .int (nI q7), .int (nI q8), .int (nI q9), .int (nI q10), .int (nI q11), .int (nI 3), .int (nI q13), .int (nI q14)])), (f0, .inr (1, [.ref e0, .int (nI n1)])), (e0, .inl (cJ G, 20, .inr (.inl (fJ g1)))), (f1, .inr (1, [.ref e1, .int (nI (n2 + 1))])), (e1, .inl (cJ G, 20, .inr (.inl (fJ (va_up g2 n2 q11)))))] := by
  refine CtI.go (cc := cX2_takesSecond) (maxL := 1) RX2 rfl (by decide) rfl (Nat.le_of_ble_eq_true rfl) ?_
  intro p e s m args below meth c A Q ls E hw hl hret
  have hx := E.1
  have hb := E.2.1
  have hinX2 : ∀ w ∈ wsX20, w ∈ wsX2_takesSecond := (fun w h => List.mem_cons_of_mem _ (List.mem_append_left _ (List.mem_append_right _ h)))
  have hl : lv_has ls 1 [(0, .ref tx)] := hl
  refine lv_aload_n hx hb dX2_takesSecond_0 rfl (lv_at hl 0 rfl) ?_
  refine lv_aload_n hx hb dX2_takesSecond_1 rfl (lv_at hl 0 rfl) ?_
  refine x_get E hw (C := RX2) (T := TX2) (N := 15) hinX2 0 rfl rfl 11 (by decide) rfl (List.mem_of_getElem? (i := 1) rfl) dX2_takesSecond_2 ?_
  refine x_cfVi E hw hl.1 (As := [.int (nI q11)]) (rest := []) (c_X2_isToldCrease l G tx b0 0 f0 0 f1 e1 q1 q2 q3 q4 q7 q8 q9 q10 q11 q12 q13 q14 0 (fun _ => 0) n2 q11 (by omega) (by omega)) 1 gX2_takesSecond_X2_isToldCrease rfl rfl rfl (by decide) ⟨Nat.le_of_ble_eq_true rfl, Nat.le_of_ble_eq_true rfl⟩ ⟨Nat.le_of_ble_eq_true rfl, Nat.le_of_ble_eq_true rfl⟩ rfl 0 (ci := 2) (C := RX2) (T := TX2) (N := 15) rfl rfl [0, 3] [1, 2, 4] rfl rfl rfl rfl rfl [3, 0, 1, 4, 2] [(tx, .inr (2, [.ref b0, .int (nI q1), .int (nI q2), .int (nI q3), .int (nI q4), .ref f0, .ref f1, .int (nI q7), .int (nI q8), .int (nI q9), .int (nI q10), .int (nI q11), .int (nI q12), .int (nI q13), .int (nI q14)])), (f0, .inr (1, [.ref e0, .int (nI n1)])), (e0, .inl (cJ G, 20, .inr (.inl (fJ g1)))), (f1, .inr (1, [.ref e1, .int (nI n2)])), (e1, .inl (cJ G, 20, .inr (.inl (fJ g2))))] rfl rfl rfl (Nat.le_of_ble_eq_true rfl) dX2_takesSecond_5 (fun H locs hw => ?_)
  refine x_ifb_eq E (P := q11 < 3 + n2) (tgt := 34) dX2_takesSecond_8 (by decide) (fun c_1 => ?_) (fun c_1 => ?_)
  · exfalso; omega
  · refine lv_aload_n hx hb dX2_takesSecond_11 rfl (lv_at hl 0 rfl) ?_
    refine x_get E hw (C := RX2) (T := TX2) (N := 15) hinX2 0 rfl rfl 11 (by decide) rfl (List.mem_of_getElem? (i := 1) rfl) dX2_takesSecond_12 ?_
    refine lv_i2l (v := (lN q11)) hx hb dX2_takesSecond_15 (nI_l (by omega)) ?_
    refine lv_aload_n hx hb dX2_takesSecond_16 rfl (lv_at hl 0 rfl) ?_
    refine x_get E hw (C := RX2) (T := TX2) (N := 15) hinX2 0 rfl rfl 5 (by decide) rfl (List.mem_of_getElem? (i := 2) rfl) dX2_takesSecond_17 ?_
    refine lv_aload_n hx hb dX2_takesSecond_20 rfl (lv_at hl 0 rfl) ?_
    refine x_get E hw (C := RX2) (T := TX2) (N := 15) hinX2 0 rfl rfl 6 (by decide) rfl (List.mem_of_getElem? (i := 3) rfl) dX2_takesSecond_21 ?_
    refine x_cfVi E hw hl.1 (As := []) (rest := [.ref f0, .long (lN q11)]) (c_X1_size l G f1 e1 n2) 0 gX2_takesSecond_X1_size rfl rfl rfl (by decide) ⟨Nat.le_of_ble_eq_true rfl, Nat.le_of_ble_eq_true rfl⟩ ⟨Nat.le_of_ble_eq_true rfl, Nat.le_of_ble_eq_true rfl⟩ rfl 3 (ci := 1) (C := RX1) (T := TX1) (N := 2) rfl rfl [3] [0, 1, 2, 4] rfl rfl rfl rfl rfl [0, 1, 2, 4, 3] [(tx, .inr (2, [.ref b0, .int (nI q1), .int (nI q2), .int (nI q3), .int (nI q4), .ref f0, .ref f1, .int (nI q7), .int (nI q8), .int (nI q9), .int (nI q10), .int (nI q11), .int (nI q12), .int (nI q13), .int (nI q14)])), (f0, .inr (1, [.ref e0, .int (nI n1)])), (e0, .inl (cJ G, 20, .inr (.inl (fJ g1)))), (f1, .inr (1, [.ref e1, .int (nI n2)])), (e1, .inl (cJ G, 20, .inr (.inl (fJ g2))))] rfl rfl rfl (Nat.le_of_ble_eq_true rfl) dX2_takesSecond_24 (fun H locs hw => ?_)
    refine x_cfVl E hw hl.1 (As := [.int (nI n2)]) (rest := [.long (lN q11)]) (c_X1_at l G f0 e0 n1 20 n2 g1 (by omega) (by omega)) 1 gX2_takesSecond_X1_at rfl rfl rfl (by decide) ⟨Nat.le_of_ble_eq_true rfl, Nat.le_of_ble_eq_true rfl⟩ ⟨Nat.le_of_ble_eq_true rfl, Nat.le_of_ble_eq_true rfl⟩ rfl 1 (ci := 1) (C := RX1) (T := TX1) (N := 2) rfl rfl [1, 2] [0, 3, 4] rfl rfl rfl rfl rfl [0, 3, 4, 1, 2] [(tx, .inr (2, [.ref b0, .int (nI q1), .int (nI q2), .int (nI q3), .int (nI q4), .ref f0, .ref f1, .int (nI q7), .int (nI q8), .int (nI q9), .int (nI q10), .int (nI q11), .int (nI q12), .int (nI q13), .int (nI q14)])), (f0, .inr (1, [.ref e0, .int (nI n1)])), (e0, .inl (cJ G, 20, .inr (.inl (fJ g1)))), (f1, .inr (1, [.ref e1, .int (nI n2)])), (e1, .inl (cJ G, 20, .inr (.inl (fJ g2))))] rfl rfl rfl (Nat.le_of_ble_eq_true rfl) dX2_takesSecond_27 (fun H locs hw => ?_)
    refine x_lc_ne E (lN_toI (show q11 < 9223372036854775808 by omega)) (lN_toI (show g1 n2 < 9223372036854775808 by omega)) (tgt := 36) dX2_takesSecond_30 dX2_takesSecond_31 (by decide) (fun c_2 => ?_) (fun c_2 => ?_)
    · refine lv_aload_n hx hb dX2_takesSecond_36 rfl (lv_at hl 0 rfl) ?_
      refine x_get E hw (C := RX2) (T := TX2) (N := 15) hinX2 0 rfl rfl 6 (by decide) rfl (List.mem_of_getElem? (i := 3) rfl) dX2_takesSecond_37 ?_
      refine lv_aload_n hx hb dX2_takesSecond_40 rfl (lv_at hl 0 rfl) ?_
      refine x_get E hw (C := RX2) (T := TX2) (N := 15) hinX2 0 rfl rfl 11 (by decide) rfl (List.mem_of_getElem? (i := 1) rfl) dX2_takesSecond_41 ?_
      refine lv_i2l (v := (lN q11)) hx hb dX2_takesSecond_44 (nI_l (by omega)) ?_
      refine x_cfVv E hw hl.1 (As := [.long (lN q11)]) (rest := []) (c_X1_add l G f1 e1 n2 20 q11 g2 (by omega) (by omega)) 1 gX2_takesSecond_X1_add rfl rfl rfl (by decide) ⟨Nat.le_of_ble_eq_true rfl, Nat.le_of_ble_eq_true rfl⟩ ⟨Nat.le_of_ble_eq_true rfl, Nat.le_of_ble_eq_true rfl⟩ rfl 3 (ci := 1) (C := RX1) (T := TX1) (N := 2) rfl rfl [3, 4] [0, 1, 2] rfl rfl rfl rfl rfl [0, 1, 2, 3, 4] [(tx, .inr (2, [.ref b0, .int (nI q1), .int (nI q2), .int (nI q3), .int (nI q4), .ref f0, .ref f1, .int (nI q7), .int (nI q8), .int (nI q9), .int (nI q10), .int (nI q11), .int (nI q12), .int (nI q13), .int (nI q14)])), (f0, .inr (1, [.ref e0, .int (nI n1)])), (e0, .inl (cJ G, 20, .inr (.inl (fJ g1)))), (f1, .inr (1, [.ref e1, .int (nI (n2 + 1))])), (e1, .inl (cJ G, 20, .inr (.inl (fJ (va_up g2 n2 q11)))))] rfl rfl rfl (Nat.le_of_ble_eq_true rfl) dX2_takesSecond_45 (fun H locs hw => ?_)
      refine lv_aload_n hx hb dX2_takesSecond_48 rfl (lv_at hl 0 rfl) ?_
      refine lv_iconst (v := (nI 3)) hx hb dX2_takesSecond_49 (by decide) ?_
      refine x_put E hw (C := RX2) (T := TX2) (N := 15) (ws1 := [(tx, .inr (2, [.ref b0, .int (nI q1), .int (nI q2), .int (nI q3), .int (nI q4), .ref f0, .ref f1, .int (nI q7), .int (nI q8), .int (nI q9), .int (nI q10), .int (nI q11), .int (nI 3), .int (nI q13), .int (nI q14)])), (f0, .inr (1, [.ref e0, .int (nI n1)])), (e0, .inl (cJ G, 20, .inr (.inl (fJ g1)))), (f1, .inr (1, [.ref e1, .int (nI (n2 + 1))])), (e1, .inl (cJ G, 20, .inr (.inl (fJ (va_up g2 n2 q11)))))]) hinX2 tyX2_ok nmX2 0 rfl rfl 12 (by decide) (List.mem_of_getElem? (i := 4) rfl) rfl rfl rfl (Nat.le_of_ble_eq_true rfl) rfl dX2_takesSecond_50 (fun H locs hw => ?_)
      refine lv_iconst (v := (nI 1)) hx hb dX2_takesSecond_53 (by decide) ?_
      exact hret (nI 1) () _ _ _ _ dX2_takesSecond_54 rfl rfl hw
    · exfalso; omega

abbrev rm_X2_takesSemicolon_no : Room := { frames := 0, cells := 0, slots := 0, locals := 0 }
set_option maxHeartbeats 4000000 in
set_option maxRecDepth 100000 in
theorem c_X2_takesSemicolon_no (l : Launch) (G : XG) (tx : Nat) (b0 : Nat) (d0 : Nat) (f0 : Nat) (e0 : Nat) (f1 : Nat) (e1 : Nat) (q1 : Nat) (q2 : Nat) (q3 : Nat) (q4 : Nat) (q7 : Nat) (q8 : Nat) (q9 : Nat) (q10 : Nat) (q11 : Nat) (q12 : Nat) (q13 : Nat) (q14 : Nat) (N : Nat) (gb : Nat → Nat) (hk : q10 ≤ 8) (hs : ¬ q10 = 6) : CfI l yX2_takesSemicolon wsX2_takesSemicolon rm_X2_takesSemicolon_no G [.ref tx] [(tx, .inr (2, [.ref b0, .int (nI q1), .int (nI q2), .int (nI q3), .int (nI q4), .ref f0, .ref f1, .int (nI q7), .int (nI q8), .int (nI q9), .int (nI q10), .int (nI q11), .int (nI q12), .int (nI q13), .int (nI q14)]))] (nI 0) [(tx, .inr (2, [.ref b0, .int (nI q1), .int (nI q2), .int (nI q3), .int (nI q4), .ref f0, .ref f1, .int (nI q7), .int (nI q8), .int (nI q9), .int (nI q10), .int (nI q11), .int (nI q12), .int (nI q13), .int (nI q14)]))] := by
  refine CtI.go (cc := cX2_takesSemicolon) (maxL := 1) RX2 rfl (by decide) rfl (Nat.le_of_ble_eq_true rfl) ?_
  intro p e s m args below meth c A Q ls E hw hl hret
  have hx := E.1
  have hb := E.2.1
  have hinX2 : ∀ w ∈ wsX20, w ∈ wsX2_takesSemicolon := (fun w h => List.mem_cons_of_mem _ (List.mem_append_right _ h))
  have hl : lv_has ls 1 [(0, .ref tx)] := hl
  refine lv_aload_n hx hb dX2_takesSemicolon_0 rfl (lv_at hl 0 rfl) ?_
  refine x_get E hw (C := RX2) (T := TX2) (N := 15) hinX2 0 rfl rfl 10 (by decide) rfl (List.mem_of_getElem? (i := 1) rfl) dX2_takesSemicolon_1 ?_
  refine lv_bipush (v := (nI 6)) hx hb dX2_takesSemicolon_4 (by decide) ?_
  refine x_icmp_eq E (nI_toI (show q10 < 2147483648 by omega)) (nI_toI (by decide)) (tgt := 11) dX2_takesSemicolon_6 (by decide) (fun c_1 => ?_) (fun c_1 => ?_)
  · exfalso; omega
  · refine lv_iconst (v := (nI 0)) hx hb dX2_takesSemicolon_9 (by decide) ?_
    exact hret (nI 0) () _ _ _ _ dX2_takesSemicolon_10 rfl rfl hw

abbrev rm_X2_takesSemicolon_ok : Room := { frames := 0, cells := 0, slots := 0, locals := 0 }
set_option maxHeartbeats 4000000 in
set_option maxRecDepth 100000 in
theorem c_X2_takesSemicolon_ok (l : Launch) (G : XG) (tx : Nat) (b0 : Nat) (d0 : Nat) (f0 : Nat) (e0 : Nat) (f1 : Nat) (e1 : Nat) (q1 : Nat) (q2 : Nat) (q3 : Nat) (q4 : Nat) (q7 : Nat) (q8 : Nat) (q9 : Nat) (q10 : Nat) (q11 : Nat) (q12 : Nat) (q13 : Nat) (q14 : Nat) (N : Nat) (gb : Nat → Nat) (hs : q10 = 6) : CfI l yX2_takesSemicolon wsX2_takesSemicolon rm_X2_takesSemicolon_ok G [.ref tx] [(tx, .inr (2, [.ref b0, .int (nI q1), .int (nI q2), .int (nI q3), .int (nI q4), .ref f0, .ref f1, .int (nI q7), .int (nI q8), .int (nI q9), .int (nI q10), .int (nI q11), .int (nI q12), .int (nI q13), .int (nI q14)]))] (nI 1) [(tx, .inr (2, [.ref b0, .int (nI q1), .int (nI q2), .int (nI q3), .int (nI q4), .ref f0, .ref f1, .int (nI (q7 + 1)), .int (nI q8), .int (nI q9), .int (nI q10), .int (nI q11), .int (nI 0), .int (nI q13), .int (nI q14)]))] := by
  refine CtI.go (cc := cX2_takesSemicolon) (maxL := 1) RX2 rfl (by decide) rfl (Nat.le_of_ble_eq_true rfl) ?_
  intro p e s m args below meth c A Q ls E hw hl hret
  have hx := E.1
  have hb := E.2.1
  have hinX2 : ∀ w ∈ wsX20, w ∈ wsX2_takesSemicolon := (fun w h => List.mem_cons_of_mem _ (List.mem_append_right _ h))
  have hl : lv_has ls 1 [(0, .ref tx)] := hl
  refine lv_aload_n hx hb dX2_takesSemicolon_0 rfl (lv_at hl 0 rfl) ?_
  refine x_get E hw (C := RX2) (T := TX2) (N := 15) hinX2 0 rfl rfl 10 (by decide) rfl (List.mem_of_getElem? (i := 1) rfl) dX2_takesSemicolon_1 ?_
  refine lv_bipush (v := (nI 6)) hx hb dX2_takesSemicolon_4 (by decide) ?_
  refine x_icmp_eq E (nI_toI (show q10 < 2147483648 by omega)) (nI_toI (by decide)) (tgt := 11) dX2_takesSemicolon_6 (by decide) (fun c_1 => ?_) (fun c_1 => ?_)
  · refine lv_aload_n hx hb dX2_takesSemicolon_11 rfl (lv_at hl 0 rfl) ?_
    refine lv_dup hx hb dX2_takesSemicolon_12 rfl ?_
    refine x_get E hw (C := RX2) (T := TX2) (N := 15) hinX2 0 rfl rfl 7 (by decide) rfl (List.mem_of_getElem? (i := 2) rfl) dX2_takesSemicolon_13 ?_
    refine lv_iconst (v := (nI 1)) hx hb dX2_takesSemicolon_16 (by decide) ?_
    refine x_iadd E (v := (nI (q7 + 1))) dX2_takesSemicolon_17 (nI_add _ _) ?_
    refine x_put E hw (C := RX2) (T := TX2) (N := 15) (ws1 := [(tx, .inr (2, [.ref b0, .int (nI q1), .int (nI q2), .int (nI q3), .int (nI q4), .ref f0, .ref f1, .int (nI (q7 + 1)), .int (nI q8), .int (nI q9), .int (nI q10), .int (nI q11), .int (nI q12), .int (nI q13), .int (nI q14)]))]) hinX2 tyX2_ok nmX2 0 rfl rfl 7 (by decide) (List.mem_of_getElem? (i := 2) rfl) rfl rfl rfl (Nat.le_of_ble_eq_true rfl) rfl dX2_takesSemicolon_18 (fun H locs hw => ?_)
    refine lv_aload_n hx hb dX2_takesSemicolon_21 rfl (lv_at hl 0 rfl) ?_
    refine lv_iconst (v := (nI 0)) hx hb dX2_takesSemicolon_22 (by decide) ?_
    refine x_put E hw (C := RX2) (T := TX2) (N := 15) (ws1 := [(tx, .inr (2, [.ref b0, .int (nI q1), .int (nI q2), .int (nI q3), .int (nI q4), .ref f0, .ref f1, .int (nI (q7 + 1)), .int (nI q8), .int (nI q9), .int (nI q10), .int (nI q11), .int (nI 0), .int (nI q13), .int (nI q14)]))]) hinX2 tyX2_ok nmX2 0 rfl rfl 12 (by decide) (List.mem_of_getElem? (i := 3) rfl) rfl rfl rfl (Nat.le_of_ble_eq_true rfl) rfl dX2_takesSemicolon_23 (fun H locs hw => ?_)
    refine lv_iconst (v := (nI 1)) hx hb dX2_takesSemicolon_26 (by decide) ?_
    exact hret (nI 1) () _ _ _ _ dX2_takesSemicolon_27 rfl rfl hw
  · exfalso; omega

abbrev rm_X2_takesToken_w_no : Room := { frames := 3, cells := 0, slots := 0, locals := 62 }
set_option maxHeartbeats 4000000 in
set_option maxRecDepth 100000 in
theorem c_X2_takesToken_w_no (l : Launch) (G : XG) (tx : Nat) (b0 : Nat) (d0 : Nat) (f0 : Nat) (e0 : Nat) (f1 : Nat) (e1 : Nat) (q1 : Nat) (q2 : Nat) (q3 : Nat) (q4 : Nat) (q7 : Nat) (q8 : Nat) (q9 : Nat) (q10 : Nat) (q11 : Nat) (q12 : Nat) (q13 : Nat) (q14 : Nat) (N : Nat) (gb : Nat → Nat) (n1 : Nat) (n2 : Nat) (g1 : Nat → Nat) (g2 : Nat → Nat) (haw : q12 = 0) (hk : q10 ≤ 8) (ht : q14 < 32) (hn1 : n1 ≤ 20) (hms : ¬ ((q10 = 4 ∧ n1 < 20) ∨ (q10 = 0 ∧ q14 &&& 2 ^ 0 = 0 ∧ q14 &&& 2 ^ 1 = 0 ∧ q14 &&& 2 ^ 4 = 0) ∨ (1 ≤ q10 ∧ q10 ≤ 3 ∧ q14 &&& 2 ^ q10 = 0 ∧ q14 &&& 2 ^ 4 = 0))) : CfI l yX2_takesToken wsX2_takesToken rm_X2_takesToken_w_no G [.ref tx] [(tx, .inr (2, [.ref b0, .int (nI q1), .int (nI q2), .int (nI q3), .int (nI q4), .ref f0, .ref f1, .int (nI q7), .int (nI q8), .int (nI q9), .int (nI q10), .int (nI q11), .int (nI q12), .int (nI q13), .int (nI q14)])), (f0, .inr (1, [.ref e0, .int (nI n1)])), (e0, .inl (cJ G, 20, .inr (.inl (fJ g1)))), (f1, .inr (1, [.ref e1, .int (nI n2)])), (e1, .inl (cJ G, 20, .inr (.inl (fJ g2))))] (nI 0) [(tx, .inr (2, [.ref b0, .int (nI q1), .int (nI q2), .int (nI q3), .int (nI q4), .ref f0, .ref f1, .int (nI q7), .int (nI q8), .int (nI q9), .int (nI q10), .int (nI q11), .int (nI q12), .int (nI q13), .int (nI q14)])), (f0, .inr (1, [.ref e0, .int (nI n1)])), (e0, .inl (cJ G, 20, .inr (.inl (fJ g1)))), (f1, .inr (1, [.ref e1, .int (nI n2)])), (e1, .inl (cJ G, 20, .inr (.inl (fJ g2))))] := by
  refine CtI.go (cc := cX2_takesToken) (maxL := 1) RX2 rfl (by decide) rfl (Nat.le_of_ble_eq_true rfl) ?_
  intro p e s m args below meth c A Q ls E hw hl hret
  have hx := E.1
  have hb := E.2.1
  have hinX2 : ∀ w ∈ wsX20, w ∈ wsX2_takesToken := (fun w h => List.mem_cons_of_mem _ (List.mem_append_left _ (List.mem_append_right _ h)))
  have hl : lv_has ls 1 [(0, .ref tx)] := hl
  refine lv_aload_n hx hb dX2_takesToken_0 rfl (lv_at hl 0 rfl) ?_
  refine x_get E hw (C := RX2) (T := TX2) (N := 15) hinX2 0 rfl rfl 12 (by decide) rfl (List.mem_of_getElem? (i := 1) rfl) dX2_takesToken_1 ?_
  rcases (show ((q12 : Nat) : Int) = 0 by omega) with c_1
  · refine x_tsw E ((nI_toI (show q12 < 2147483648 by omega)).trans c_1) (tgt := 32) dX2_takesToken_4 (by decide) (by decide) rfl (by decide) ?_
    refine lv_aload_n hx hb dX2_takesToken_32 rfl (lv_at hl 0 rfl) ?_
    refine x_cfVi E hw hl.1 (As := []) (rest := []) (c_X2_takesWord_no l G tx b0 0 f0 e0 f1 0 q1 q2 q3 q4 q7 q8 q9 q10 q11 q12 q13 q14 0 (fun _ => 0) n1 g1 (by omega) (by omega) (by omega) hms) 0 gX2_takesToken_X2_takesWord rfl rfl rfl (by decide) ⟨Nat.le_of_ble_eq_true rfl, Nat.le_of_ble_eq_true rfl⟩ ⟨Nat.le_of_ble_eq_true rfl, Nat.le_of_ble_eq_true rfl⟩ rfl 0 (ci := 2) (C := RX2) (T := TX2) (N := 15) rfl rfl [0, 1, 2] [3, 4] rfl rfl rfl rfl rfl [2, 3, 4, 0, 1] [(tx, .inr (2, [.ref b0, .int (nI q1), .int (nI q2), .int (nI q3), .int (nI q4), .ref f0, .ref f1, .int (nI q7), .int (nI q8), .int (nI q9), .int (nI q10), .int (nI q11), .int (nI q12), .int (nI q13), .int (nI q14)])), (f0, .inr (1, [.ref e0, .int (nI n1)])), (e0, .inl (cJ G, 20, .inr (.inl (fJ g1)))), (f1, .inr (1, [.ref e1, .int (nI n2)])), (e1, .inl (cJ G, 20, .inr (.inl (fJ g2))))] rfl rfl rfl (Nat.le_of_ble_eq_true rfl) dX2_takesToken_33 (fun H locs hw => ?_)
    exact hret (nI 0) () _ _ _ _ dX2_takesToken_36 rfl rfl hw

abbrev rm_X2_takesToken_w_ok : Room := { frames := 3, cells := 0, slots := 0, locals := 62 }
set_option maxHeartbeats 4000000 in
set_option maxRecDepth 100000 in
theorem c_X2_takesToken_w_ok (l : Launch) (G : XG) (tx : Nat) (b0 : Nat) (d0 : Nat) (f0 : Nat) (e0 : Nat) (f1 : Nat) (e1 : Nat) (q1 : Nat) (q2 : Nat) (q3 : Nat) (q4 : Nat) (q7 : Nat) (q8 : Nat) (q9 : Nat) (q10 : Nat) (q11 : Nat) (q12 : Nat) (q13 : Nat) (q14 : Nat) (N : Nat) (gb : Nat → Nat) (n1 : Nat) (n2 : Nat) (g1 : Nat → Nat) (g2 : Nat → Nat) (haw : q12 = 0) (hk : q10 ≤ 8) (ht : q14 < 32) (hn1 : n1 ≤ 20) (hms : (q10 = 4 ∧ n1 < 20) ∨ (q10 = 0 ∧ q14 &&& 2 ^ 0 = 0 ∧ q14 &&& 2 ^ 1 = 0 ∧ q14 &&& 2 ^ 4 = 0) ∨ (1 ≤ q10 ∧ q10 ≤ 3 ∧ q14 &&& 2 ^ q10 = 0 ∧ q14 &&& 2 ^ 4 = 0)) : CfI l yX2_takesToken wsX2_takesToken rm_X2_takesToken_w_ok G [.ref tx] [(tx, .inr (2, [.ref b0, .int (nI q1), .int (nI q2), .int (nI q3), .int (nI q4), .ref f0, .ref f1, .int (nI q7), .int (nI q8), .int (nI q9), .int (nI q10), .int (nI q11), .int (nI q12), .int (nI q13), .int (nI q14)])), (f0, .inr (1, [.ref e0, .int (nI n1)])), (e0, .inl (cJ G, 20, .inr (.inl (fJ g1)))), (f1, .inr (1, [.ref e1, .int (nI n2)])), (e1, .inl (cJ G, 20, .inr (.inl (fJ g2))))] (nI 1) [(tx, .inr (2, [.ref b0, .int (nI q1), .int (nI q2), .int (nI q3), .int (nI q4), .ref f0, .ref f1, .int (nI q7), .int (nI q8), .int (nI q9), .int (nI q10), .int (nI q11), .int (nI 1), .int (nI q10), .int (nI (q14 ||| 2 ^ q10))])), (f0, .inr (1, [.ref e0, .int (nI n1)])), (e0, .inl (cJ G, 20, .inr (.inl (fJ g1)))), (f1, .inr (1, [.ref e1, .int (nI n2)])), (e1, .inl (cJ G, 20, .inr (.inl (fJ g2))))] := by
  refine CtI.go (cc := cX2_takesToken) (maxL := 1) RX2 rfl (by decide) rfl (Nat.le_of_ble_eq_true rfl) ?_
  intro p e s m args below meth c A Q ls E hw hl hret
  have hx := E.1
  have hb := E.2.1
  have hinX2 : ∀ w ∈ wsX20, w ∈ wsX2_takesToken := (fun w h => List.mem_cons_of_mem _ (List.mem_append_left _ (List.mem_append_right _ h)))
  have hl : lv_has ls 1 [(0, .ref tx)] := hl
  refine lv_aload_n hx hb dX2_takesToken_0 rfl (lv_at hl 0 rfl) ?_
  refine x_get E hw (C := RX2) (T := TX2) (N := 15) hinX2 0 rfl rfl 12 (by decide) rfl (List.mem_of_getElem? (i := 1) rfl) dX2_takesToken_1 ?_
  rcases (show ((q12 : Nat) : Int) = 0 by omega) with c_1
  · refine x_tsw E ((nI_toI (show q12 < 2147483648 by omega)).trans c_1) (tgt := 32) dX2_takesToken_4 (by decide) (by decide) rfl (by decide) ?_
    refine lv_aload_n hx hb dX2_takesToken_32 rfl (lv_at hl 0 rfl) ?_
    refine x_cfVi E hw hl.1 (As := []) (rest := []) (c_X2_takesWord_ok l G tx b0 0 f0 e0 f1 0 q1 q2 q3 q4 q7 q8 q9 q10 q11 q12 q13 q14 0 (fun _ => 0) n1 g1 (by omega) (by omega) (by omega) hms) 0 gX2_takesToken_X2_takesWord rfl rfl rfl (by decide) ⟨Nat.le_of_ble_eq_true rfl, Nat.le_of_ble_eq_true rfl⟩ ⟨Nat.le_of_ble_eq_true rfl, Nat.le_of_ble_eq_true rfl⟩ rfl 0 (ci := 2) (C := RX2) (T := TX2) (N := 15) rfl rfl [0, 1, 2] [3, 4] rfl rfl rfl rfl rfl [2, 3, 4, 0, 1] [(tx, .inr (2, [.ref b0, .int (nI q1), .int (nI q2), .int (nI q3), .int (nI q4), .ref f0, .ref f1, .int (nI q7), .int (nI q8), .int (nI q9), .int (nI q10), .int (nI q11), .int (nI 1), .int (nI q10), .int (nI (q14 ||| 2 ^ q10))])), (f0, .inr (1, [.ref e0, .int (nI n1)])), (e0, .inl (cJ G, 20, .inr (.inl (fJ g1)))), (f1, .inr (1, [.ref e1, .int (nI n2)])), (e1, .inl (cJ G, 20, .inr (.inl (fJ g2))))] rfl rfl rfl (Nat.le_of_ble_eq_true rfl) dX2_takesToken_33 (fun H locs hw => ?_)
    exact hret (nI 1) () _ _ _ _ dX2_takesToken_36 rfl rfl hw

abbrev rm_X2_takesToken_n_no : Room := { frames := 4, cells := 0, slots := 0, locals := 82 }
set_option maxHeartbeats 4000000 in
set_option maxRecDepth 100000 in
theorem c_X2_takesToken_n_no (l : Launch) (G : XG) (tx : Nat) (b0 : Nat) (d0 : Nat) (f0 : Nat) (e0 : Nat) (f1 : Nat) (e1 : Nat) (q1 : Nat) (q2 : Nat) (q3 : Nat) (q4 : Nat) (q7 : Nat) (q8 : Nat) (q9 : Nat) (q10 : Nat) (q11 : Nat) (q12 : Nat) (q13 : Nat) (q14 : Nat) (N : Nat) (gb : Nat → Nat) (n1 : Nat) (n2 : Nat) (g1 : Nat → Nat) (g2 : Nat → Nat) (haw : q12 = 1) (hk : q11 ≤ 100) (hn2 : n2 ≤ 20) (hw : q13 ≤ 4) (hq1 : q1 ≤ 63) (h5 : q10 = 5) (hmb : ¬ ((q13 = 0 ∧ 3 ≤ q11 ∧ q11 ≤ 63 ∧ q11 % 2 = 1) ∨ (q13 = 1 ∧ 1 ≤ q11 ∧ q11 < q1) ∨ (q13 = 2 ∧ q11 ≤ 99) ∨ (q13 = 3 ∧ q11 ≤ 9) ∨ (q13 = 4 ∧ q11 < 3 + n2))) : CfI l yX2_takesToken wsX2_takesToken rm_X2_takesToken_n_no G [.ref tx] [(tx, .inr (2, [.ref b0, .int (nI q1), .int (nI q2), .int (nI q3), .int (nI q4), .ref f0, .ref f1, .int (nI q7), .int (nI q8), .int (nI q9), .int (nI q10), .int (nI q11), .int (nI q12), .int (nI q13), .int (nI q14)])), (f0, .inr (1, [.ref e0, .int (nI n1)])), (e0, .inl (cJ G, 20, .inr (.inl (fJ g1)))), (f1, .inr (1, [.ref e1, .int (nI n2)])), (e1, .inl (cJ G, 20, .inr (.inl (fJ g2))))] (nI 0) [(tx, .inr (2, [.ref b0, .int (nI q1), .int (nI q2), .int (nI q3), .int (nI q4), .ref f0, .ref f1, .int (nI q7), .int (nI q8), .int (nI q9), .int (nI q10), .int (nI q11), .int (nI q12), .int (nI q13), .int (nI q14)])), (f0, .inr (1, [.ref e0, .int (nI n1)])), (e0, .inl (cJ G, 20, .inr (.inl (fJ g1)))), (f1, .inr (1, [.ref e1, .int (nI n2)])), (e1, .inl (cJ G, 20, .inr (.inl (fJ g2))))] := by
  refine CtI.go (cc := cX2_takesToken) (maxL := 1) RX2 rfl (by decide) rfl (Nat.le_of_ble_eq_true rfl) ?_
  intro p e s m args below meth c A Q ls E hw hl hret
  have hx := E.1
  have hb := E.2.1
  have hinX2 : ∀ w ∈ wsX20, w ∈ wsX2_takesToken := (fun w h => List.mem_cons_of_mem _ (List.mem_append_left _ (List.mem_append_right _ h)))
  have hl : lv_has ls 1 [(0, .ref tx)] := hl
  refine lv_aload_n hx hb dX2_takesToken_0 rfl (lv_at hl 0 rfl) ?_
  refine x_get E hw (C := RX2) (T := TX2) (N := 15) hinX2 0 rfl rfl 12 (by decide) rfl (List.mem_of_getElem? (i := 1) rfl) dX2_takesToken_1 ?_
  rcases (show ((q12 : Nat) : Int) = 1 by omega) with c_1
  · refine x_tsw E ((nI_toI (show q12 < 2147483648 by omega)).trans c_1) (tgt := 37) dX2_takesToken_4 (by decide) (by decide) rfl (by decide) ?_
    refine lv_aload_n hx hb dX2_takesToken_37 rfl (lv_at hl 0 rfl) ?_
    refine x_get E hw (C := RX2) (T := TX2) (N := 15) hinX2 0 rfl rfl 10 (by decide) rfl (List.mem_of_getElem? (i := 2) rfl) dX2_takesToken_38 ?_
    refine lv_iconst (v := (nI 5)) hx hb dX2_takesToken_41 (by decide) ?_
    refine x_icmp_ne E (nI_toI (show q10 < 2147483648 by omega)) (nI_toI (by decide)) (tgt := 56) dX2_takesToken_42 (by decide) (fun c_2 => ?_) (fun c_2 => ?_)
    · refine lv_iconst (v := (nI 0)) hx hb dX2_takesToken_56 (by decide) ?_
      exact hret (nI 0) () _ _ _ _ dX2_takesToken_57 rfl rfl hw
    · refine lv_aload_n hx hb dX2_takesToken_45 rfl (lv_at hl 0 rfl) ?_
      refine x_cfVi E hw hl.1 (As := []) (rest := []) (c_X2_takesNumber_no l G tx b0 0 f0 e0 f1 e1 q1 q2 q3 q4 q7 q8 q9 q10 q11 q12 q13 q14 0 (fun _ => 0) n1 n2 g1 (by omega) (by omega) (by omega) (by omega) hmb) 0 gX2_takesToken_X2_takesNumber rfl rfl rfl (by decide) ⟨Nat.le_of_ble_eq_true rfl, Nat.le_of_ble_eq_true rfl⟩ ⟨Nat.le_of_ble_eq_true rfl, Nat.le_of_ble_eq_true rfl⟩ rfl 0 (ci := 2) (C := RX2) (T := TX2) (N := 15) rfl rfl [0, 1, 2, 3] [4] rfl rfl rfl rfl rfl [1, 2, 3, 4, 0] [(tx, .inr (2, [.ref b0, .int (nI q1), .int (nI q2), .int (nI q3), .int (nI q4), .ref f0, .ref f1, .int (nI q7), .int (nI q8), .int (nI q9), .int (nI q10), .int (nI q11), .int (nI q12), .int (nI q13), .int (nI q14)])), (f0, .inr (1, [.ref e0, .int (nI n1)])), (e0, .inl (cJ G, 20, .inr (.inl (fJ g1)))), (f1, .inr (1, [.ref e1, .int (nI n2)])), (e1, .inl (cJ G, 20, .inr (.inl (fJ g2))))] rfl rfl rfl (Nat.le_of_ble_eq_true rfl) dX2_takesToken_46 (fun H locs hw => ?_)
      refine x_if_eq E (nI_toI (by decide)) (tgt := 56) dX2_takesToken_49 (by decide) (fun c_3 => ?_) (fun c_3 => ?_)
      · refine lv_iconst (v := (nI 0)) hx hb dX2_takesToken_56 (by decide) ?_
        exact hret (nI 0) () _ _ _ _ dX2_takesToken_57 rfl rfl hw
      · exact absurd c_3 (by decide)

abbrev rm_X2_takesToken_n_0 : Room := { frames := 4, cells := 0, slots := 0, locals := 82 }
set_option maxHeartbeats 4000000 in
set_option maxRecDepth 100000 in
theorem c_X2_takesToken_n_0 (l : Launch) (G : XG) (tx : Nat) (b0 : Nat) (d0 : Nat) (f0 : Nat) (e0 : Nat) (f1 : Nat) (e1 : Nat) (q1 : Nat) (q2 : Nat) (q3 : Nat) (q4 : Nat) (q7 : Nat) (q8 : Nat) (q9 : Nat) (q10 : Nat) (q11 : Nat) (q12 : Nat) (q13 : Nat) (q14 : Nat) (N : Nat) (gb : Nat → Nat) (n1 : Nat) (n2 : Nat) (g1 : Nat → Nat) (g2 : Nat → Nat) (haw : q12 = 1) (hk : q11 ≤ 100) (hn2 : n2 ≤ 20) (hw : q13 ≤ 4) (hq1 : q1 ≤ 63) (h5 : q10 = 5) (hmb : (q13 = 0 ∧ 3 ≤ q11 ∧ q11 ≤ 63 ∧ q11 % 2 = 1) ∨ (q13 = 1 ∧ 1 ≤ q11 ∧ q11 < q1) ∨ (q13 = 2 ∧ q11 ≤ 99) ∨ (q13 = 3 ∧ q11 ≤ 9) ∨ (q13 = 4 ∧ q11 < 3 + n2)) (hwi : q13 = 0) : CfI l yX2_takesToken wsX2_takesToken rm_X2_takesToken_n_0 G [.ref tx] [(tx, .inr (2, [.ref b0, .int (nI q1), .int (nI q2), .int (nI q3), .int (nI q4), .ref f0, .ref f1, .int (nI q7), .int (nI q8), .int (nI q9), .int (nI q10), .int (nI q11), .int (nI q12), .int (nI q13), .int (nI q14)])), (f0, .inr (1, [.ref e0, .int (nI n1)])), (e0, .inl (cJ G, 20, .inr (.inl (fJ g1)))), (f1, .inr (1, [.ref e1, .int (nI n2)])), (e1, .inl (cJ G, 20, .inr (.inl (fJ g2))))] (nI 1) [(tx, .inr (2, [.ref b0, .int (nI q11), .int (nI q2), .int (nI q3), .int (nI q4), .ref f0, .ref f1, .int (nI q7), .int (nI q8), .int (nI q9), .int (nI q10), .int (nI q11), .int (nI 3), .int (nI q13), .int (nI q14)])), (f0, .inr (1, [.ref e0, .int (nI n1)])), (e0, .inl (cJ G, 20, .inr (.inl (fJ g1)))), (f1, .inr (1, [.ref e1, .int (nI n2)])), (e1, .inl (cJ G, 20, .inr (.inl (fJ g2))))] := by
  refine CtI.go (cc := cX2_takesToken) (maxL := 1) RX2 rfl (by decide) rfl (Nat.le_of_ble_eq_true rfl) ?_
  intro p e s m args below meth c A Q ls E hw hl hret
  have hx := E.1
  have hb := E.2.1
  have hinX2 : ∀ w ∈ wsX20, w ∈ wsX2_takesToken := (fun w h => List.mem_cons_of_mem _ (List.mem_append_left _ (List.mem_append_right _ h)))
  have hl : lv_has ls 1 [(0, .ref tx)] := hl
  refine lv_aload_n hx hb dX2_takesToken_0 rfl (lv_at hl 0 rfl) ?_
  refine x_get E hw (C := RX2) (T := TX2) (N := 15) hinX2 0 rfl rfl 12 (by decide) rfl (List.mem_of_getElem? (i := 1) rfl) dX2_takesToken_1 ?_
  rcases (show ((q12 : Nat) : Int) = 1 by omega) with c_1
  · refine x_tsw E ((nI_toI (show q12 < 2147483648 by omega)).trans c_1) (tgt := 37) dX2_takesToken_4 (by decide) (by decide) rfl (by decide) ?_
    refine lv_aload_n hx hb dX2_takesToken_37 rfl (lv_at hl 0 rfl) ?_
    refine x_get E hw (C := RX2) (T := TX2) (N := 15) hinX2 0 rfl rfl 10 (by decide) rfl (List.mem_of_getElem? (i := 2) rfl) dX2_takesToken_38 ?_
    refine lv_iconst (v := (nI 5)) hx hb dX2_takesToken_41 (by decide) ?_
    refine x_icmp_ne E (nI_toI (show q10 < 2147483648 by omega)) (nI_toI (by decide)) (tgt := 56) dX2_takesToken_42 (by decide) (fun c_2 => ?_) (fun c_2 => ?_)
    · exfalso; omega
    · refine lv_aload_n hx hb dX2_takesToken_45 rfl (lv_at hl 0 rfl) ?_
      refine x_cfVi E hw hl.1 (As := []) (rest := []) (c_X2_takesNumber_0 l G tx b0 0 f0 e0 f1 e1 q1 q2 q3 q4 q7 q8 q9 q10 q11 q12 q13 q14 0 (fun _ => 0) n1 n2 g1 (by omega) (by omega) (by omega) (by omega) hmb (by omega)) 0 gX2_takesToken_X2_takesNumber rfl rfl rfl (by decide) ⟨Nat.le_of_ble_eq_true rfl, Nat.le_of_ble_eq_true rfl⟩ ⟨Nat.le_of_ble_eq_true rfl, Nat.le_of_ble_eq_true rfl⟩ rfl 0 (ci := 2) (C := RX2) (T := TX2) (N := 15) rfl rfl [0, 1, 2, 3] [4] rfl rfl rfl rfl rfl [1, 2, 3, 4, 0] [(tx, .inr (2, [.ref b0, .int (nI q11), .int (nI q2), .int (nI q3), .int (nI q4), .ref f0, .ref f1, .int (nI q7), .int (nI q8), .int (nI q9), .int (nI q10), .int (nI q11), .int (nI 3), .int (nI q13), .int (nI q14)])), (f0, .inr (1, [.ref e0, .int (nI n1)])), (e0, .inl (cJ G, 20, .inr (.inl (fJ g1)))), (f1, .inr (1, [.ref e1, .int (nI n2)])), (e1, .inl (cJ G, 20, .inr (.inl (fJ g2))))] rfl rfl rfl (Nat.le_of_ble_eq_true rfl) dX2_takesToken_46 (fun H locs hw => ?_)
      refine x_if_eq E (nI_toI (by decide)) (tgt := 56) dX2_takesToken_49 (by decide) (fun c_3 => ?_) (fun c_3 => ?_)
      · exact absurd c_3 (by decide)
      · refine lv_iconst (v := (nI 1)) hx hb dX2_takesToken_52 (by decide) ?_
        refine lv_goto (tgt := 57) hx hb dX2_takesToken_53 (by decide) ?_
        exact hret (nI 1) () _ _ _ _ dX2_takesToken_57 rfl rfl hw

abbrev rm_X2_takesToken_n_1 : Room := { frames := 4, cells := 0, slots := 0, locals := 82 }
set_option maxHeartbeats 4000000 in
set_option maxRecDepth 100000 in
theorem c_X2_takesToken_n_1 (l : Launch) (G : XG) (tx : Nat) (b0 : Nat) (d0 : Nat) (f0 : Nat) (e0 : Nat) (f1 : Nat) (e1 : Nat) (q1 : Nat) (q2 : Nat) (q3 : Nat) (q4 : Nat) (q7 : Nat) (q8 : Nat) (q9 : Nat) (q10 : Nat) (q11 : Nat) (q12 : Nat) (q13 : Nat) (q14 : Nat) (N : Nat) (gb : Nat → Nat) (n1 : Nat) (n2 : Nat) (g1 : Nat → Nat) (g2 : Nat → Nat) (haw : q12 = 1) (hk : q11 ≤ 100) (hn2 : n2 ≤ 20) (hw : q13 ≤ 4) (hq1 : q1 ≤ 63) (h5 : q10 = 5) (hmb : (q13 = 0 ∧ 3 ≤ q11 ∧ q11 ≤ 63 ∧ q11 % 2 = 1) ∨ (q13 = 1 ∧ 1 ≤ q11 ∧ q11 < q1) ∨ (q13 = 2 ∧ q11 ≤ 99) ∨ (q13 = 3 ∧ q11 ≤ 9) ∨ (q13 = 4 ∧ q11 < 3 + n2)) (hwi : q13 = 1) : CfI l yX2_takesToken wsX2_takesToken rm_X2_takesToken_n_1 G [.ref tx] [(tx, .inr (2, [.ref b0, .int (nI q1), .int (nI q2), .int (nI q3), .int (nI q4), .ref f0, .ref f1, .int (nI q7), .int (nI q8), .int (nI q9), .int (nI q10), .int (nI q11), .int (nI q12), .int (nI q13), .int (nI q14)])), (f0, .inr (1, [.ref e0, .int (nI n1)])), (e0, .inl (cJ G, 20, .inr (.inl (fJ g1)))), (f1, .inr (1, [.ref e1, .int (nI n2)])), (e1, .inl (cJ G, 20, .inr (.inl (fJ g2))))] (nI 1) [(tx, .inr (2, [.ref b0, .int (nI q1), .int (nI q11), .int (nI q3), .int (nI q4), .ref f0, .ref f1, .int (nI q7), .int (nI q8), .int (nI q9), .int (nI q10), .int (nI q11), .int (nI 3), .int (nI q13), .int (nI q14)])), (f0, .inr (1, [.ref e0, .int (nI n1)])), (e0, .inl (cJ G, 20, .inr (.inl (fJ g1)))), (f1, .inr (1, [.ref e1, .int (nI n2)])), (e1, .inl (cJ G, 20, .inr (.inl (fJ g2))))] := by
  refine CtI.go (cc := cX2_takesToken) (maxL := 1) RX2 rfl (by decide) rfl (Nat.le_of_ble_eq_true rfl) ?_
  intro p e s m args below meth c A Q ls E hw hl hret
  have hx := E.1
  have hb := E.2.1
  have hinX2 : ∀ w ∈ wsX20, w ∈ wsX2_takesToken := (fun w h => List.mem_cons_of_mem _ (List.mem_append_left _ (List.mem_append_right _ h)))
  have hl : lv_has ls 1 [(0, .ref tx)] := hl
  refine lv_aload_n hx hb dX2_takesToken_0 rfl (lv_at hl 0 rfl) ?_
  refine x_get E hw (C := RX2) (T := TX2) (N := 15) hinX2 0 rfl rfl 12 (by decide) rfl (List.mem_of_getElem? (i := 1) rfl) dX2_takesToken_1 ?_
  rcases (show ((q12 : Nat) : Int) = 1 by omega) with c_1
  · refine x_tsw E ((nI_toI (show q12 < 2147483648 by omega)).trans c_1) (tgt := 37) dX2_takesToken_4 (by decide) (by decide) rfl (by decide) ?_
    refine lv_aload_n hx hb dX2_takesToken_37 rfl (lv_at hl 0 rfl) ?_
    refine x_get E hw (C := RX2) (T := TX2) (N := 15) hinX2 0 rfl rfl 10 (by decide) rfl (List.mem_of_getElem? (i := 2) rfl) dX2_takesToken_38 ?_
    refine lv_iconst (v := (nI 5)) hx hb dX2_takesToken_41 (by decide) ?_
    refine x_icmp_ne E (nI_toI (show q10 < 2147483648 by omega)) (nI_toI (by decide)) (tgt := 56) dX2_takesToken_42 (by decide) (fun c_2 => ?_) (fun c_2 => ?_)
    · exfalso; omega
    · refine lv_aload_n hx hb dX2_takesToken_45 rfl (lv_at hl 0 rfl) ?_
      refine x_cfVi E hw hl.1 (As := []) (rest := []) (c_X2_takesNumber_1 l G tx b0 0 f0 e0 f1 e1 q1 q2 q3 q4 q7 q8 q9 q10 q11 q12 q13 q14 0 (fun _ => 0) n1 n2 g1 (by omega) (by omega) (by omega) (by omega) hmb (by omega)) 0 gX2_takesToken_X2_takesNumber rfl rfl rfl (by decide) ⟨Nat.le_of_ble_eq_true rfl, Nat.le_of_ble_eq_true rfl⟩ ⟨Nat.le_of_ble_eq_true rfl, Nat.le_of_ble_eq_true rfl⟩ rfl 0 (ci := 2) (C := RX2) (T := TX2) (N := 15) rfl rfl [0, 1, 2, 3] [4] rfl rfl rfl rfl rfl [1, 2, 3, 4, 0] [(tx, .inr (2, [.ref b0, .int (nI q1), .int (nI q11), .int (nI q3), .int (nI q4), .ref f0, .ref f1, .int (nI q7), .int (nI q8), .int (nI q9), .int (nI q10), .int (nI q11), .int (nI 3), .int (nI q13), .int (nI q14)])), (f0, .inr (1, [.ref e0, .int (nI n1)])), (e0, .inl (cJ G, 20, .inr (.inl (fJ g1)))), (f1, .inr (1, [.ref e1, .int (nI n2)])), (e1, .inl (cJ G, 20, .inr (.inl (fJ g2))))] rfl rfl rfl (Nat.le_of_ble_eq_true rfl) dX2_takesToken_46 (fun H locs hw => ?_)
      refine x_if_eq E (nI_toI (by decide)) (tgt := 56) dX2_takesToken_49 (by decide) (fun c_3 => ?_) (fun c_3 => ?_)
      · exact absurd c_3 (by decide)
      · refine lv_iconst (v := (nI 1)) hx hb dX2_takesToken_52 (by decide) ?_
        refine lv_goto (tgt := 57) hx hb dX2_takesToken_53 (by decide) ?_
        exact hret (nI 1) () _ _ _ _ dX2_takesToken_57 rfl rfl hw

abbrev rm_X2_takesToken_n_2 : Room := { frames := 4, cells := 0, slots := 0, locals := 82 }
set_option maxHeartbeats 4000000 in
set_option maxRecDepth 100000 in
theorem c_X2_takesToken_n_2 (l : Launch) (G : XG) (tx : Nat) (b0 : Nat) (d0 : Nat) (f0 : Nat) (e0 : Nat) (f1 : Nat) (e1 : Nat) (q1 : Nat) (q2 : Nat) (q3 : Nat) (q4 : Nat) (q7 : Nat) (q8 : Nat) (q9 : Nat) (q10 : Nat) (q11 : Nat) (q12 : Nat) (q13 : Nat) (q14 : Nat) (N : Nat) (gb : Nat → Nat) (n1 : Nat) (n2 : Nat) (g1 : Nat → Nat) (g2 : Nat → Nat) (haw : q12 = 1) (hk : q11 ≤ 100) (hn2 : n2 ≤ 20) (hw : q13 ≤ 4) (hq1 : q1 ≤ 63) (h5 : q10 = 5) (hmb : (q13 = 0 ∧ 3 ≤ q11 ∧ q11 ≤ 63 ∧ q11 % 2 = 1) ∨ (q13 = 1 ∧ 1 ≤ q11 ∧ q11 < q1) ∨ (q13 = 2 ∧ q11 ≤ 99) ∨ (q13 = 3 ∧ q11 ≤ 9) ∨ (q13 = 4 ∧ q11 < 3 + n2)) (hwi : q13 = 2) : CfI l yX2_takesToken wsX2_takesToken rm_X2_takesToken_n_2 G [.ref tx] [(tx, .inr (2, [.ref b0, .int (nI q1), .int (nI q2), .int (nI q3), .int (nI q4), .ref f0, .ref f1, .int (nI q7), .int (nI q8), .int (nI q9), .int (nI q10), .int (nI q11), .int (nI q12), .int (nI q13), .int (nI q14)])), (f0, .inr (1, [.ref e0, .int (nI n1)])), (e0, .inl (cJ G, 20, .inr (.inl (fJ g1)))), (f1, .inr (1, [.ref e1, .int (nI n2)])), (e1, .inl (cJ G, 20, .inr (.inl (fJ g2))))] (nI 1) [(tx, .inr (2, [.ref b0, .int (nI q1), .int (nI q2), .int (nI q11), .int (nI q4), .ref f0, .ref f1, .int (nI q7), .int (nI q8), .int (nI q9), .int (nI q10), .int (nI q11), .int (nI 3), .int (nI q13), .int (nI q14)])), (f0, .inr (1, [.ref e0, .int (nI n1)])), (e0, .inl (cJ G, 20, .inr (.inl (fJ g1)))), (f1, .inr (1, [.ref e1, .int (nI n2)])), (e1, .inl (cJ G, 20, .inr (.inl (fJ g2))))] := by
  refine CtI.go (cc := cX2_takesToken) (maxL := 1) RX2 rfl (by decide) rfl (Nat.le_of_ble_eq_true rfl) ?_
  intro p e s m args below meth c A Q ls E hw hl hret
  have hx := E.1
  have hb := E.2.1
  have hinX2 : ∀ w ∈ wsX20, w ∈ wsX2_takesToken := (fun w h => List.mem_cons_of_mem _ (List.mem_append_left _ (List.mem_append_right _ h)))
  have hl : lv_has ls 1 [(0, .ref tx)] := hl
  refine lv_aload_n hx hb dX2_takesToken_0 rfl (lv_at hl 0 rfl) ?_
  refine x_get E hw (C := RX2) (T := TX2) (N := 15) hinX2 0 rfl rfl 12 (by decide) rfl (List.mem_of_getElem? (i := 1) rfl) dX2_takesToken_1 ?_
  rcases (show ((q12 : Nat) : Int) = 1 by omega) with c_1
  · refine x_tsw E ((nI_toI (show q12 < 2147483648 by omega)).trans c_1) (tgt := 37) dX2_takesToken_4 (by decide) (by decide) rfl (by decide) ?_
    refine lv_aload_n hx hb dX2_takesToken_37 rfl (lv_at hl 0 rfl) ?_
    refine x_get E hw (C := RX2) (T := TX2) (N := 15) hinX2 0 rfl rfl 10 (by decide) rfl (List.mem_of_getElem? (i := 2) rfl) dX2_takesToken_38 ?_
    refine lv_iconst (v := (nI 5)) hx hb dX2_takesToken_41 (by decide) ?_
    refine x_icmp_ne E (nI_toI (show q10 < 2147483648 by omega)) (nI_toI (by decide)) (tgt := 56) dX2_takesToken_42 (by decide) (fun c_2 => ?_) (fun c_2 => ?_)
    · exfalso; omega
    · refine lv_aload_n hx hb dX2_takesToken_45 rfl (lv_at hl 0 rfl) ?_
      refine x_cfVi E hw hl.1 (As := []) (rest := []) (c_X2_takesNumber_2 l G tx b0 0 f0 e0 f1 e1 q1 q2 q3 q4 q7 q8 q9 q10 q11 q12 q13 q14 0 (fun _ => 0) n1 n2 g1 (by omega) (by omega) (by omega) (by omega) hmb (by omega)) 0 gX2_takesToken_X2_takesNumber rfl rfl rfl (by decide) ⟨Nat.le_of_ble_eq_true rfl, Nat.le_of_ble_eq_true rfl⟩ ⟨Nat.le_of_ble_eq_true rfl, Nat.le_of_ble_eq_true rfl⟩ rfl 0 (ci := 2) (C := RX2) (T := TX2) (N := 15) rfl rfl [0, 1, 2, 3] [4] rfl rfl rfl rfl rfl [1, 2, 3, 4, 0] [(tx, .inr (2, [.ref b0, .int (nI q1), .int (nI q2), .int (nI q11), .int (nI q4), .ref f0, .ref f1, .int (nI q7), .int (nI q8), .int (nI q9), .int (nI q10), .int (nI q11), .int (nI 3), .int (nI q13), .int (nI q14)])), (f0, .inr (1, [.ref e0, .int (nI n1)])), (e0, .inl (cJ G, 20, .inr (.inl (fJ g1)))), (f1, .inr (1, [.ref e1, .int (nI n2)])), (e1, .inl (cJ G, 20, .inr (.inl (fJ g2))))] rfl rfl rfl (Nat.le_of_ble_eq_true rfl) dX2_takesToken_46 (fun H locs hw => ?_)
      refine x_if_eq E (nI_toI (by decide)) (tgt := 56) dX2_takesToken_49 (by decide) (fun c_3 => ?_) (fun c_3 => ?_)
      · exact absurd c_3 (by decide)
      · refine lv_iconst (v := (nI 1)) hx hb dX2_takesToken_52 (by decide) ?_
        refine lv_goto (tgt := 57) hx hb dX2_takesToken_53 (by decide) ?_
        exact hret (nI 1) () _ _ _ _ dX2_takesToken_57 rfl rfl hw

abbrev rm_X2_takesToken_n_3 : Room := { frames := 4, cells := 0, slots := 0, locals := 82 }
set_option maxHeartbeats 4000000 in
set_option maxRecDepth 100000 in
theorem c_X2_takesToken_n_3 (l : Launch) (G : XG) (tx : Nat) (b0 : Nat) (d0 : Nat) (f0 : Nat) (e0 : Nat) (f1 : Nat) (e1 : Nat) (q1 : Nat) (q2 : Nat) (q3 : Nat) (q4 : Nat) (q7 : Nat) (q8 : Nat) (q9 : Nat) (q10 : Nat) (q11 : Nat) (q12 : Nat) (q13 : Nat) (q14 : Nat) (N : Nat) (gb : Nat → Nat) (n1 : Nat) (n2 : Nat) (g1 : Nat → Nat) (g2 : Nat → Nat) (haw : q12 = 1) (hk : q11 ≤ 100) (hn2 : n2 ≤ 20) (hw : q13 ≤ 4) (hq1 : q1 ≤ 63) (h5 : q10 = 5) (hmb : (q13 = 0 ∧ 3 ≤ q11 ∧ q11 ≤ 63 ∧ q11 % 2 = 1) ∨ (q13 = 1 ∧ 1 ≤ q11 ∧ q11 < q1) ∨ (q13 = 2 ∧ q11 ≤ 99) ∨ (q13 = 3 ∧ q11 ≤ 9) ∨ (q13 = 4 ∧ q11 < 3 + n2)) (hwi : q13 = 3) : CfI l yX2_takesToken wsX2_takesToken rm_X2_takesToken_n_3 G [.ref tx] [(tx, .inr (2, [.ref b0, .int (nI q1), .int (nI q2), .int (nI q3), .int (nI q4), .ref f0, .ref f1, .int (nI q7), .int (nI q8), .int (nI q9), .int (nI q10), .int (nI q11), .int (nI q12), .int (nI q13), .int (nI q14)])), (f0, .inr (1, [.ref e0, .int (nI n1)])), (e0, .inl (cJ G, 20, .inr (.inl (fJ g1)))), (f1, .inr (1, [.ref e1, .int (nI n2)])), (e1, .inl (cJ G, 20, .inr (.inl (fJ g2))))] (nI 1) [(tx, .inr (2, [.ref b0, .int (nI q1), .int (nI q2), .int (nI q3), .int (nI q11), .ref f0, .ref f1, .int (nI q7), .int (nI q8), .int (nI q9), .int (nI q10), .int (nI q11), .int (nI 3), .int (nI q13), .int (nI q14)])), (f0, .inr (1, [.ref e0, .int (nI n1)])), (e0, .inl (cJ G, 20, .inr (.inl (fJ g1)))), (f1, .inr (1, [.ref e1, .int (nI n2)])), (e1, .inl (cJ G, 20, .inr (.inl (fJ g2))))] := by
  refine CtI.go (cc := cX2_takesToken) (maxL := 1) RX2 rfl (by decide) rfl (Nat.le_of_ble_eq_true rfl) ?_
  intro p e s m args below meth c A Q ls E hw hl hret
  have hx := E.1
  have hb := E.2.1
  have hinX2 : ∀ w ∈ wsX20, w ∈ wsX2_takesToken := (fun w h => List.mem_cons_of_mem _ (List.mem_append_left _ (List.mem_append_right _ h)))
  have hl : lv_has ls 1 [(0, .ref tx)] := hl
  refine lv_aload_n hx hb dX2_takesToken_0 rfl (lv_at hl 0 rfl) ?_
  refine x_get E hw (C := RX2) (T := TX2) (N := 15) hinX2 0 rfl rfl 12 (by decide) rfl (List.mem_of_getElem? (i := 1) rfl) dX2_takesToken_1 ?_
  rcases (show ((q12 : Nat) : Int) = 1 by omega) with c_1
  · refine x_tsw E ((nI_toI (show q12 < 2147483648 by omega)).trans c_1) (tgt := 37) dX2_takesToken_4 (by decide) (by decide) rfl (by decide) ?_
    refine lv_aload_n hx hb dX2_takesToken_37 rfl (lv_at hl 0 rfl) ?_
    refine x_get E hw (C := RX2) (T := TX2) (N := 15) hinX2 0 rfl rfl 10 (by decide) rfl (List.mem_of_getElem? (i := 2) rfl) dX2_takesToken_38 ?_
    refine lv_iconst (v := (nI 5)) hx hb dX2_takesToken_41 (by decide) ?_
    refine x_icmp_ne E (nI_toI (show q10 < 2147483648 by omega)) (nI_toI (by decide)) (tgt := 56) dX2_takesToken_42 (by decide) (fun c_2 => ?_) (fun c_2 => ?_)
    · exfalso; omega
    · refine lv_aload_n hx hb dX2_takesToken_45 rfl (lv_at hl 0 rfl) ?_
      refine x_cfVi E hw hl.1 (As := []) (rest := []) (c_X2_takesNumber_3 l G tx b0 0 f0 e0 f1 e1 q1 q2 q3 q4 q7 q8 q9 q10 q11 q12 q13 q14 0 (fun _ => 0) n1 n2 g1 (by omega) (by omega) (by omega) (by omega) hmb (by omega)) 0 gX2_takesToken_X2_takesNumber rfl rfl rfl (by decide) ⟨Nat.le_of_ble_eq_true rfl, Nat.le_of_ble_eq_true rfl⟩ ⟨Nat.le_of_ble_eq_true rfl, Nat.le_of_ble_eq_true rfl⟩ rfl 0 (ci := 2) (C := RX2) (T := TX2) (N := 15) rfl rfl [0, 1, 2, 3] [4] rfl rfl rfl rfl rfl [1, 2, 3, 4, 0] [(tx, .inr (2, [.ref b0, .int (nI q1), .int (nI q2), .int (nI q3), .int (nI q11), .ref f0, .ref f1, .int (nI q7), .int (nI q8), .int (nI q9), .int (nI q10), .int (nI q11), .int (nI 3), .int (nI q13), .int (nI q14)])), (f0, .inr (1, [.ref e0, .int (nI n1)])), (e0, .inl (cJ G, 20, .inr (.inl (fJ g1)))), (f1, .inr (1, [.ref e1, .int (nI n2)])), (e1, .inl (cJ G, 20, .inr (.inl (fJ g2))))] rfl rfl rfl (Nat.le_of_ble_eq_true rfl) dX2_takesToken_46 (fun H locs hw => ?_)
      refine x_if_eq E (nI_toI (by decide)) (tgt := 56) dX2_takesToken_49 (by decide) (fun c_3 => ?_) (fun c_3 => ?_)
      · exact absurd c_3 (by decide)
      · refine lv_iconst (v := (nI 1)) hx hb dX2_takesToken_52 (by decide) ?_
        refine lv_goto (tgt := 57) hx hb dX2_takesToken_53 (by decide) ?_
        exact hret (nI 1) () _ _ _ _ dX2_takesToken_57 rfl rfl hw

abbrev rm_X2_takesToken_n_4 : Room := { frames := 4, cells := 0, slots := 0, locals := 82 }
set_option maxHeartbeats 4000000 in
set_option maxRecDepth 100000 in
theorem c_X2_takesToken_n_4 (l : Launch) (G : XG) (tx : Nat) (b0 : Nat) (d0 : Nat) (f0 : Nat) (e0 : Nat) (f1 : Nat) (e1 : Nat) (q1 : Nat) (q2 : Nat) (q3 : Nat) (q4 : Nat) (q7 : Nat) (q8 : Nat) (q9 : Nat) (q10 : Nat) (q11 : Nat) (q12 : Nat) (q13 : Nat) (q14 : Nat) (N : Nat) (gb : Nat → Nat) (n1 : Nat) (n2 : Nat) (g1 : Nat → Nat) (g2 : Nat → Nat) (haw : q12 = 1) (hk : q11 ≤ 100) (hn2 : n2 ≤ 20) (hw : q13 ≤ 4) (hq1 : q1 ≤ 63) (h5 : q10 = 5) (hmb : (q13 = 0 ∧ 3 ≤ q11 ∧ q11 ≤ 63 ∧ q11 % 2 = 1) ∨ (q13 = 1 ∧ 1 ≤ q11 ∧ q11 < q1) ∨ (q13 = 2 ∧ q11 ≤ 99) ∨ (q13 = 3 ∧ q11 ≤ 9) ∨ (q13 = 4 ∧ q11 < 3 + n2)) (hwi : q13 = 4) (hn1 : n1 < 20) : CfI l yX2_takesToken wsX2_takesToken rm_X2_takesToken_n_4 G [.ref tx] [(tx, .inr (2, [.ref b0, .int (nI q1), .int (nI q2), .int (nI q3), .int (nI q4), .ref f0, .ref f1, .int (nI q7), .int (nI q8), .int (nI q9), .int (nI q10), .int (nI q11), .int (nI q12), .int (nI q13), .int (nI q14)])), (f0, .inr (1, [.ref e0, .int (nI n1)])), (e0, .inl (cJ G, 20, .inr (.inl (fJ g1)))), (f1, .inr (1, [.ref e1, .int (nI n2)])), (e1, .inl (cJ G, 20, .inr (.inl (fJ g2))))] (nI 1) [(tx, .inr (2, [.ref b0, .int (nI q1), .int (nI q2), .int (nI q3), .int (nI q4), .ref f0, .ref f1, .int (nI q7), .int (nI q8), .int (nI q9), .int (nI q10), .int (nI q11), .int (nI 2), .int (nI q13), .int (nI q14)])), (f0, .inr (1, [.ref e0, .int (nI (n1 + 1))])), (e0, .inl (cJ G, 20, .inr (.inl (fJ (va_up g1 n1 q11))))), (f1, .inr (1, [.ref e1, .int (nI n2)])), (e1, .inl (cJ G, 20, .inr (.inl (fJ g2))))] := by
  refine CtI.go (cc := cX2_takesToken) (maxL := 1) RX2 rfl (by decide) rfl (Nat.le_of_ble_eq_true rfl) ?_
  intro p e s m args below meth c A Q ls E hw hl hret
  have hx := E.1
  have hb := E.2.1
  have hinX2 : ∀ w ∈ wsX20, w ∈ wsX2_takesToken := (fun w h => List.mem_cons_of_mem _ (List.mem_append_left _ (List.mem_append_right _ h)))
  have hl : lv_has ls 1 [(0, .ref tx)] := hl
  refine lv_aload_n hx hb dX2_takesToken_0 rfl (lv_at hl 0 rfl) ?_
  refine x_get E hw (C := RX2) (T := TX2) (N := 15) hinX2 0 rfl rfl 12 (by decide) rfl (List.mem_of_getElem? (i := 1) rfl) dX2_takesToken_1 ?_
  rcases (show ((q12 : Nat) : Int) = 1 by omega) with c_1
  · refine x_tsw E ((nI_toI (show q12 < 2147483648 by omega)).trans c_1) (tgt := 37) dX2_takesToken_4 (by decide) (by decide) rfl (by decide) ?_
    refine lv_aload_n hx hb dX2_takesToken_37 rfl (lv_at hl 0 rfl) ?_
    refine x_get E hw (C := RX2) (T := TX2) (N := 15) hinX2 0 rfl rfl 10 (by decide) rfl (List.mem_of_getElem? (i := 2) rfl) dX2_takesToken_38 ?_
    refine lv_iconst (v := (nI 5)) hx hb dX2_takesToken_41 (by decide) ?_
    refine x_icmp_ne E (nI_toI (show q10 < 2147483648 by omega)) (nI_toI (by decide)) (tgt := 56) dX2_takesToken_42 (by decide) (fun c_2 => ?_) (fun c_2 => ?_)
    · exfalso; omega
    · refine lv_aload_n hx hb dX2_takesToken_45 rfl (lv_at hl 0 rfl) ?_
      refine x_cfVi E hw hl.1 (As := []) (rest := []) (c_X2_takesNumber_4 l G tx b0 0 f0 e0 f1 e1 q1 q2 q3 q4 q7 q8 q9 q10 q11 q12 q13 q14 0 (fun _ => 0) n1 n2 g1 (by omega) (by omega) (by omega) (by omega) hmb (by omega) (by omega)) 0 gX2_takesToken_X2_takesNumber rfl rfl rfl (by decide) ⟨Nat.le_of_ble_eq_true rfl, Nat.le_of_ble_eq_true rfl⟩ ⟨Nat.le_of_ble_eq_true rfl, Nat.le_of_ble_eq_true rfl⟩ rfl 0 (ci := 2) (C := RX2) (T := TX2) (N := 15) rfl rfl [0, 1, 2, 3] [4] rfl rfl rfl rfl rfl [1, 2, 3, 4, 0] [(tx, .inr (2, [.ref b0, .int (nI q1), .int (nI q2), .int (nI q3), .int (nI q4), .ref f0, .ref f1, .int (nI q7), .int (nI q8), .int (nI q9), .int (nI q10), .int (nI q11), .int (nI 2), .int (nI q13), .int (nI q14)])), (f0, .inr (1, [.ref e0, .int (nI (n1 + 1))])), (e0, .inl (cJ G, 20, .inr (.inl (fJ (va_up g1 n1 q11))))), (f1, .inr (1, [.ref e1, .int (nI n2)])), (e1, .inl (cJ G, 20, .inr (.inl (fJ g2))))] rfl rfl rfl (Nat.le_of_ble_eq_true rfl) dX2_takesToken_46 (fun H locs hw => ?_)
      refine x_if_eq E (nI_toI (by decide)) (tgt := 56) dX2_takesToken_49 (by decide) (fun c_3 => ?_) (fun c_3 => ?_)
      · exact absurd c_3 (by decide)
      · refine lv_iconst (v := (nI 1)) hx hb dX2_takesToken_52 (by decide) ?_
        refine lv_goto (tgt := 57) hx hb dX2_takesToken_53 (by decide) ?_
        exact hret (nI 1) () _ _ _ _ dX2_takesToken_57 rfl rfl hw

abbrev rm_X2_takesToken_s_no : Room := { frames := 3, cells := 0, slots := 0, locals := 61 }
set_option maxHeartbeats 4000000 in
set_option maxRecDepth 100000 in
theorem c_X2_takesToken_s_no (l : Launch) (G : XG) (tx : Nat) (b0 : Nat) (d0 : Nat) (f0 : Nat) (e0 : Nat) (f1 : Nat) (e1 : Nat) (q1 : Nat) (q2 : Nat) (q3 : Nat) (q4 : Nat) (q7 : Nat) (q8 : Nat) (q9 : Nat) (q10 : Nat) (q11 : Nat) (q12 : Nat) (q13 : Nat) (q14 : Nat) (N : Nat) (gb : Nat → Nat) (n1 : Nat) (n2 : Nat) (g1 : Nat → Nat) (g2 : Nat → Nat) (haw : q12 = 2) (hk : q11 ≤ 100) (hn2 : n2 < 20) (hg1 : g1 n2 ≤ 100) (h5 : q10 = 5) (hs : ¬ (q11 < 3 + n2 ∧ q11 ≠ g1 n2)) : CfI l yX2_takesToken wsX2_takesToken rm_X2_takesToken_s_no G [.ref tx] [(tx, .inr (2, [.ref b0, .int (nI q1), .int (nI q2), .int (nI q3), .int (nI q4), .ref f0, .ref f1, .int (nI q7), .int (nI q8), .int (nI q9), .int (nI q10), .int (nI q11), .int (nI q12), .int (nI q13), .int (nI q14)])), (f0, .inr (1, [.ref e0, .int (nI n1)])), (e0, .inl (cJ G, 20, .inr (.inl (fJ g1)))), (f1, .inr (1, [.ref e1, .int (nI n2)])), (e1, .inl (cJ G, 20, .inr (.inl (fJ g2))))] (nI 0) [(tx, .inr (2, [.ref b0, .int (nI q1), .int (nI q2), .int (nI q3), .int (nI q4), .ref f0, .ref f1, .int (nI q7), .int (nI q8), .int (nI q9), .int (nI q10), .int (nI q11), .int (nI q12), .int (nI q13), .int (nI q14)])), (f0, .inr (1, [.ref e0, .int (nI n1)])), (e0, .inl (cJ G, 20, .inr (.inl (fJ g1)))), (f1, .inr (1, [.ref e1, .int (nI n2)])), (e1, .inl (cJ G, 20, .inr (.inl (fJ g2))))] := by
  refine CtI.go (cc := cX2_takesToken) (maxL := 1) RX2 rfl (by decide) rfl (Nat.le_of_ble_eq_true rfl) ?_
  intro p e s m args below meth c A Q ls E hw hl hret
  have hx := E.1
  have hb := E.2.1
  have hinX2 : ∀ w ∈ wsX20, w ∈ wsX2_takesToken := (fun w h => List.mem_cons_of_mem _ (List.mem_append_left _ (List.mem_append_right _ h)))
  have hl : lv_has ls 1 [(0, .ref tx)] := hl
  refine lv_aload_n hx hb dX2_takesToken_0 rfl (lv_at hl 0 rfl) ?_
  refine x_get E hw (C := RX2) (T := TX2) (N := 15) hinX2 0 rfl rfl 12 (by decide) rfl (List.mem_of_getElem? (i := 1) rfl) dX2_takesToken_1 ?_
  rcases (show ((q12 : Nat) : Int) = 2 by omega) with c_1
  · refine x_tsw E ((nI_toI (show q12 < 2147483648 by omega)).trans c_1) (tgt := 58) dX2_takesToken_4 (by decide) (by decide) rfl (by decide) ?_
    refine lv_aload_n hx hb dX2_takesToken_58 rfl (lv_at hl 0 rfl) ?_
    refine x_get E hw (C := RX2) (T := TX2) (N := 15) hinX2 0 rfl rfl 10 (by decide) rfl (List.mem_of_getElem? (i := 2) rfl) dX2_takesToken_59 ?_
    refine lv_iconst (v := (nI 5)) hx hb dX2_takesToken_62 (by decide) ?_
    refine x_icmp_ne E (nI_toI (show q10 < 2147483648 by omega)) (nI_toI (by decide)) (tgt := 77) dX2_takesToken_63 (by decide) (fun c_2 => ?_) (fun c_2 => ?_)
    · refine lv_iconst (v := (nI 0)) hx hb dX2_takesToken_77 (by decide) ?_
      exact hret (nI 0) () _ _ _ _ dX2_takesToken_78 rfl rfl hw
    · refine lv_aload_n hx hb dX2_takesToken_66 rfl (lv_at hl 0 rfl) ?_
      refine x_cfVi E hw hl.1 (As := []) (rest := []) (c_X2_takesSecond_no l G tx b0 0 f0 e0 f1 e1 q1 q2 q3 q4 q7 q8 q9 q10 q11 q12 q13 q14 0 (fun _ => 0) n1 n2 g1 g2 (by omega) (by omega) (by omega) hs) 0 gX2_takesToken_X2_takesSecond rfl rfl rfl (by decide) ⟨Nat.le_of_ble_eq_true rfl, Nat.le_of_ble_eq_true rfl⟩ ⟨Nat.le_of_ble_eq_true rfl, Nat.le_of_ble_eq_true rfl⟩ rfl 0 (ci := 2) (C := RX2) (T := TX2) (N := 15) rfl rfl [0, 1, 2, 3, 4] [] rfl rfl rfl rfl rfl [0, 1, 2, 3, 4] [(tx, .inr (2, [.ref b0, .int (nI q1), .int (nI q2), .int (nI q3), .int (nI q4), .ref f0, .ref f1, .int (nI q7), .int (nI q8), .int (nI q9), .int (nI q10), .int (nI q11), .int (nI q12), .int (nI q13), .int (nI q14)])), (f0, .inr (1, [.ref e0, .int (nI n1)])), (e0, .inl (cJ G, 20, .inr (.inl (fJ g1)))), (f1, .inr (1, [.ref e1, .int (nI n2)])), (e1, .inl (cJ G, 20, .inr (.inl (fJ g2))))] rfl rfl rfl (Nat.le_of_ble_eq_true rfl) dX2_takesToken_67 (fun H locs hw => ?_)
      refine x_if_eq E (nI_toI (by decide)) (tgt := 77) dX2_takesToken_70 (by decide) (fun c_3 => ?_) (fun c_3 => ?_)
      · refine lv_iconst (v := (nI 0)) hx hb dX2_takesToken_77 (by decide) ?_
        exact hret (nI 0) () _ _ _ _ dX2_takesToken_78 rfl rfl hw
      · exact absurd c_3 (by decide)

abbrev rm_X2_takesToken_s_ok : Room := { frames := 3, cells := 0, slots := 0, locals := 61 }
set_option maxHeartbeats 4000000 in
set_option maxRecDepth 100000 in
theorem c_X2_takesToken_s_ok (l : Launch) (G : XG) (tx : Nat) (b0 : Nat) (d0 : Nat) (f0 : Nat) (e0 : Nat) (f1 : Nat) (e1 : Nat) (q1 : Nat) (q2 : Nat) (q3 : Nat) (q4 : Nat) (q7 : Nat) (q8 : Nat) (q9 : Nat) (q10 : Nat) (q11 : Nat) (q12 : Nat) (q13 : Nat) (q14 : Nat) (N : Nat) (gb : Nat → Nat) (n1 : Nat) (n2 : Nat) (g1 : Nat → Nat) (g2 : Nat → Nat) (haw : q12 = 2) (hk : q11 ≤ 100) (hn2 : n2 < 20) (hg1 : g1 n2 ≤ 100) (h5 : q10 = 5) (hs : q11 < 3 + n2 ∧ q11 ≠ g1 n2) : CfI l yX2_takesToken wsX2_takesToken rm_X2_takesToken_s_ok G [.ref tx] [(tx, .inr (2, [.ref b0, .int (nI q1), .int (nI q2), .int (nI q3), .int (nI q4), .ref f0, .ref f1, .int (nI q7), .int (nI q8), .int (nI q9), .int (nI q10), .int (nI q11), .int (nI q12), .int (nI q13), .int (nI q14)])), (f0, .inr (1, [.ref e0, .int (nI n1)])), (e0, .inl (cJ G, 20, .inr (.inl (fJ g1)))), (f1, .inr (1, [.ref e1, .int (nI n2)])), (e1, .inl (cJ G, 20, .inr (.inl (fJ g2))))] (nI 1) [(tx, .inr (2, [.ref b0, .int (nI q1), .int (nI q2), .int (nI q3), .int (nI q4), .ref f0, .ref f1, .int (nI q7), .int (nI q8), .int (nI q9), .int (nI q10), .int (nI q11), .int (nI 3), .int (nI q13), .int (nI q14)])), (f0, .inr (1, [.ref e0, .int (nI n1)])), (e0, .inl (cJ G, 20, .inr (.inl (fJ g1)))), (f1, .inr (1, [.ref e1, .int (nI (n2 + 1))])), (e1, .inl (cJ G, 20, .inr (.inl (fJ (va_up g2 n2 q11)))))] := by
  refine CtI.go (cc := cX2_takesToken) (maxL := 1) RX2 rfl (by decide) rfl (Nat.le_of_ble_eq_true rfl) ?_
  intro p e s m args below meth c A Q ls E hw hl hret
  have hx := E.1
  have hb := E.2.1
  have hinX2 : ∀ w ∈ wsX20, w ∈ wsX2_takesToken := (fun w h => List.mem_cons_of_mem _ (List.mem_append_left _ (List.mem_append_right _ h)))
  have hl : lv_has ls 1 [(0, .ref tx)] := hl
  refine lv_aload_n hx hb dX2_takesToken_0 rfl (lv_at hl 0 rfl) ?_
  refine x_get E hw (C := RX2) (T := TX2) (N := 15) hinX2 0 rfl rfl 12 (by decide) rfl (List.mem_of_getElem? (i := 1) rfl) dX2_takesToken_1 ?_
  rcases (show ((q12 : Nat) : Int) = 2 by omega) with c_1
  · refine x_tsw E ((nI_toI (show q12 < 2147483648 by omega)).trans c_1) (tgt := 58) dX2_takesToken_4 (by decide) (by decide) rfl (by decide) ?_
    refine lv_aload_n hx hb dX2_takesToken_58 rfl (lv_at hl 0 rfl) ?_
    refine x_get E hw (C := RX2) (T := TX2) (N := 15) hinX2 0 rfl rfl 10 (by decide) rfl (List.mem_of_getElem? (i := 2) rfl) dX2_takesToken_59 ?_
    refine lv_iconst (v := (nI 5)) hx hb dX2_takesToken_62 (by decide) ?_
    refine x_icmp_ne E (nI_toI (show q10 < 2147483648 by omega)) (nI_toI (by decide)) (tgt := 77) dX2_takesToken_63 (by decide) (fun c_2 => ?_) (fun c_2 => ?_)
    · exfalso; omega
    · refine lv_aload_n hx hb dX2_takesToken_66 rfl (lv_at hl 0 rfl) ?_
      refine x_cfVi E hw hl.1 (As := []) (rest := []) (c_X2_takesSecond_ok l G tx b0 0 f0 e0 f1 e1 q1 q2 q3 q4 q7 q8 q9 q10 q11 q12 q13 q14 0 (fun _ => 0) n1 n2 g1 g2 (by omega) (by omega) (by omega) hs) 0 gX2_takesToken_X2_takesSecond rfl rfl rfl (by decide) ⟨Nat.le_of_ble_eq_true rfl, Nat.le_of_ble_eq_true rfl⟩ ⟨Nat.le_of_ble_eq_true rfl, Nat.le_of_ble_eq_true rfl⟩ rfl 0 (ci := 2) (C := RX2) (T := TX2) (N := 15) rfl rfl [0, 1, 2, 3, 4] [] rfl rfl rfl rfl rfl [0, 1, 2, 3, 4] [(tx, .inr (2, [.ref b0, .int (nI q1), .int (nI q2), .int (nI q3), .int (nI q4), .ref f0, .ref f1, .int (nI q7), .int (nI q8), .int (nI q9), .int (nI q10), .int (nI q11), .int (nI 3), .int (nI q13), .int (nI q14)])), (f0, .inr (1, [.ref e0, .int (nI n1)])), (e0, .inl (cJ G, 20, .inr (.inl (fJ g1)))), (f1, .inr (1, [.ref e1, .int (nI (n2 + 1))])), (e1, .inl (cJ G, 20, .inr (.inl (fJ (va_up g2 n2 q11)))))] rfl rfl rfl (Nat.le_of_ble_eq_true rfl) dX2_takesToken_67 (fun H locs hw => ?_)
      refine x_if_eq E (nI_toI (by decide)) (tgt := 77) dX2_takesToken_70 (by decide) (fun c_3 => ?_) (fun c_3 => ?_)
      · exact absurd c_3 (by decide)
      · refine lv_iconst (v := (nI 1)) hx hb dX2_takesToken_73 (by decide) ?_
        refine lv_goto (tgt := 78) hx hb dX2_takesToken_74 (by decide) ?_
        exact hret (nI 1) () _ _ _ _ dX2_takesToken_78 rfl rfl hw

abbrev rm_X2_takesToken_e_no : Room := { frames := 1, cells := 0, slots := 0, locals := 20 }
set_option maxHeartbeats 4000000 in
set_option maxRecDepth 100000 in
theorem c_X2_takesToken_e_no (l : Launch) (G : XG) (tx : Nat) (b0 : Nat) (d0 : Nat) (f0 : Nat) (e0 : Nat) (f1 : Nat) (e1 : Nat) (q1 : Nat) (q2 : Nat) (q3 : Nat) (q4 : Nat) (q7 : Nat) (q8 : Nat) (q9 : Nat) (q10 : Nat) (q11 : Nat) (q12 : Nat) (q13 : Nat) (q14 : Nat) (N : Nat) (gb : Nat → Nat) (n1 : Nat) (n2 : Nat) (g1 : Nat → Nat) (g2 : Nat → Nat) (haw : q12 = 3) (hk : q10 ≤ 8) (hs : ¬ q10 = 6) : CfI l yX2_takesToken wsX2_takesToken rm_X2_takesToken_e_no G [.ref tx] [(tx, .inr (2, [.ref b0, .int (nI q1), .int (nI q2), .int (nI q3), .int (nI q4), .ref f0, .ref f1, .int (nI q7), .int (nI q8), .int (nI q9), .int (nI q10), .int (nI q11), .int (nI q12), .int (nI q13), .int (nI q14)])), (f0, .inr (1, [.ref e0, .int (nI n1)])), (e0, .inl (cJ G, 20, .inr (.inl (fJ g1)))), (f1, .inr (1, [.ref e1, .int (nI n2)])), (e1, .inl (cJ G, 20, .inr (.inl (fJ g2))))] (nI 0) [(tx, .inr (2, [.ref b0, .int (nI q1), .int (nI q2), .int (nI q3), .int (nI q4), .ref f0, .ref f1, .int (nI q7), .int (nI q8), .int (nI q9), .int (nI q10), .int (nI q11), .int (nI q12), .int (nI q13), .int (nI q14)])), (f0, .inr (1, [.ref e0, .int (nI n1)])), (e0, .inl (cJ G, 20, .inr (.inl (fJ g1)))), (f1, .inr (1, [.ref e1, .int (nI n2)])), (e1, .inl (cJ G, 20, .inr (.inl (fJ g2))))] := by
  refine CtI.go (cc := cX2_takesToken) (maxL := 1) RX2 rfl (by decide) rfl (Nat.le_of_ble_eq_true rfl) ?_
  intro p e s m args below meth c A Q ls E hw hl hret
  have hx := E.1
  have hb := E.2.1
  have hinX2 : ∀ w ∈ wsX20, w ∈ wsX2_takesToken := (fun w h => List.mem_cons_of_mem _ (List.mem_append_left _ (List.mem_append_right _ h)))
  have hl : lv_has ls 1 [(0, .ref tx)] := hl
  refine lv_aload_n hx hb dX2_takesToken_0 rfl (lv_at hl 0 rfl) ?_
  refine x_get E hw (C := RX2) (T := TX2) (N := 15) hinX2 0 rfl rfl 12 (by decide) rfl (List.mem_of_getElem? (i := 1) rfl) dX2_takesToken_1 ?_
  rcases (show (((q12 : Nat) : Int) < 0 ∨ 2 < ((q12 : Nat) : Int)) by omega) with c_1
  · refine x_tswD E (nI_toI (show q12 < 2147483648 by omega)) dX2_takesToken_4 (tgt := 79) c_1 (by decide) ?_
    refine lv_aload_n hx hb dX2_takesToken_79 rfl (lv_at hl 0 rfl) ?_
    refine x_cfVi E hw hl.1 (As := []) (rest := []) (c_X2_takesSemicolon_no l G tx b0 0 f0 0 f1 0 q1 q2 q3 q4 q7 q8 q9 q10 q11 q12 q13 q14 0 (fun _ => 0) (by omega) hs) 0 gX2_takesToken_X2_takesSemicolon rfl rfl rfl (by decide) ⟨Nat.le_of_ble_eq_true rfl, Nat.le_of_ble_eq_true rfl⟩ ⟨Nat.le_of_ble_eq_true rfl, Nat.le_of_ble_eq_true rfl⟩ rfl 0 (ci := 2) (C := RX2) (T := TX2) (N := 15) rfl rfl [0] [1, 2, 3, 4] rfl rfl rfl rfl rfl [4, 0, 1, 2, 3] [(tx, .inr (2, [.ref b0, .int (nI q1), .int (nI q2), .int (nI q3), .int (nI q4), .ref f0, .ref f1, .int (nI q7), .int (nI q8), .int (nI q9), .int (nI q10), .int (nI q11), .int (nI q12), .int (nI q13), .int (nI q14)])), (f0, .inr (1, [.ref e0, .int (nI n1)])), (e0, .inl (cJ G, 20, .inr (.inl (fJ g1)))), (f1, .inr (1, [.ref e1, .int (nI n2)])), (e1, .inl (cJ G, 20, .inr (.inl (fJ g2))))] rfl rfl rfl (Nat.le_of_ble_eq_true rfl) dX2_takesToken_80 (fun H locs hw => ?_)
    exact hret (nI 0) () _ _ _ _ dX2_takesToken_83 rfl rfl hw

abbrev rm_X2_takesToken_e_ok : Room := { frames := 1, cells := 0, slots := 0, locals := 20 }
set_option maxHeartbeats 4000000 in
set_option maxRecDepth 100000 in
theorem c_X2_takesToken_e_ok (l : Launch) (G : XG) (tx : Nat) (b0 : Nat) (d0 : Nat) (f0 : Nat) (e0 : Nat) (f1 : Nat) (e1 : Nat) (q1 : Nat) (q2 : Nat) (q3 : Nat) (q4 : Nat) (q7 : Nat) (q8 : Nat) (q9 : Nat) (q10 : Nat) (q11 : Nat) (q12 : Nat) (q13 : Nat) (q14 : Nat) (N : Nat) (gb : Nat → Nat) (n1 : Nat) (n2 : Nat) (g1 : Nat → Nat) (g2 : Nat → Nat) (haw : q12 = 3) (hs : q10 = 6) : CfI l yX2_takesToken wsX2_takesToken rm_X2_takesToken_e_ok G [.ref tx] [(tx, .inr (2, [.ref b0, .int (nI q1), .int (nI q2), .int (nI q3), .int (nI q4), .ref f0, .ref f1, .int (nI q7), .int (nI q8), .int (nI q9), .int (nI q10), .int (nI q11), .int (nI q12), .int (nI q13), .int (nI q14)])), (f0, .inr (1, [.ref e0, .int (nI n1)])), (e0, .inl (cJ G, 20, .inr (.inl (fJ g1)))), (f1, .inr (1, [.ref e1, .int (nI n2)])), (e1, .inl (cJ G, 20, .inr (.inl (fJ g2))))] (nI 1) [(tx, .inr (2, [.ref b0, .int (nI q1), .int (nI q2), .int (nI q3), .int (nI q4), .ref f0, .ref f1, .int (nI (q7 + 1)), .int (nI q8), .int (nI q9), .int (nI q10), .int (nI q11), .int (nI 0), .int (nI q13), .int (nI q14)])), (f0, .inr (1, [.ref e0, .int (nI n1)])), (e0, .inl (cJ G, 20, .inr (.inl (fJ g1)))), (f1, .inr (1, [.ref e1, .int (nI n2)])), (e1, .inl (cJ G, 20, .inr (.inl (fJ g2))))] := by
  refine CtI.go (cc := cX2_takesToken) (maxL := 1) RX2 rfl (by decide) rfl (Nat.le_of_ble_eq_true rfl) ?_
  intro p e s m args below meth c A Q ls E hw hl hret
  have hx := E.1
  have hb := E.2.1
  have hinX2 : ∀ w ∈ wsX20, w ∈ wsX2_takesToken := (fun w h => List.mem_cons_of_mem _ (List.mem_append_left _ (List.mem_append_right _ h)))
  have hl : lv_has ls 1 [(0, .ref tx)] := hl
  refine lv_aload_n hx hb dX2_takesToken_0 rfl (lv_at hl 0 rfl) ?_
  refine x_get E hw (C := RX2) (T := TX2) (N := 15) hinX2 0 rfl rfl 12 (by decide) rfl (List.mem_of_getElem? (i := 1) rfl) dX2_takesToken_1 ?_
  rcases (show (((q12 : Nat) : Int) < 0 ∨ 2 < ((q12 : Nat) : Int)) by omega) with c_1
  · refine x_tswD E (nI_toI (show q12 < 2147483648 by omega)) dX2_takesToken_4 (tgt := 79) c_1 (by decide) ?_
    refine lv_aload_n hx hb dX2_takesToken_79 rfl (lv_at hl 0 rfl) ?_
    refine x_cfVi E hw hl.1 (As := []) (rest := []) (c_X2_takesSemicolon_ok l G tx b0 0 f0 0 f1 0 q1 q2 q3 q4 q7 q8 q9 q10 q11 q12 q13 q14 0 (fun _ => 0) (by omega)) 0 gX2_takesToken_X2_takesSemicolon rfl rfl rfl (by decide) ⟨Nat.le_of_ble_eq_true rfl, Nat.le_of_ble_eq_true rfl⟩ ⟨Nat.le_of_ble_eq_true rfl, Nat.le_of_ble_eq_true rfl⟩ rfl 0 (ci := 2) (C := RX2) (T := TX2) (N := 15) rfl rfl [0] [1, 2, 3, 4] rfl rfl rfl rfl rfl [4, 0, 1, 2, 3] [(tx, .inr (2, [.ref b0, .int (nI q1), .int (nI q2), .int (nI q3), .int (nI q4), .ref f0, .ref f1, .int (nI (q7 + 1)), .int (nI q8), .int (nI q9), .int (nI q10), .int (nI q11), .int (nI 0), .int (nI q13), .int (nI q14)])), (f0, .inr (1, [.ref e0, .int (nI n1)])), (e0, .inl (cJ G, 20, .inr (.inl (fJ g1)))), (f1, .inr (1, [.ref e1, .int (nI n2)])), (e1, .inl (cJ G, 20, .inr (.inl (fJ g2))))] rfl rfl rfl (Nat.le_of_ble_eq_true rfl) dX2_takesToken_80 (fun H locs hw => ?_)
    exact hret (nI 1) () _ _ _ _ dX2_takesToken_83 rfl rfl hw

abbrev rm_X2_takesToken_n_tok : Room := { frames := 0, cells := 0, slots := 0, locals := 0 }
set_option maxHeartbeats 4000000 in
set_option maxRecDepth 100000 in
theorem c_X2_takesToken_n_tok (l : Launch) (G : XG) (tx : Nat) (b0 : Nat) (d0 : Nat) (f0 : Nat) (e0 : Nat) (f1 : Nat) (e1 : Nat) (q1 : Nat) (q2 : Nat) (q3 : Nat) (q4 : Nat) (q7 : Nat) (q8 : Nat) (q9 : Nat) (q10 : Nat) (q11 : Nat) (q12 : Nat) (q13 : Nat) (q14 : Nat) (N : Nat) (gb : Nat → Nat) (n1 : Nat) (n2 : Nat) (g1 : Nat → Nat) (g2 : Nat → Nat) (haw : q12 = 1) (hk : q10 ≤ 8) (h5 : ¬ q10 = 5) : CfI l yX2_takesToken wsX2_takesToken rm_X2_takesToken_n_tok G [.ref tx] [(tx, .inr (2, [.ref b0, .int (nI q1), .int (nI q2), .int (nI q3), .int (nI q4), .ref f0, .ref f1, .int (nI q7), .int (nI q8), .int (nI q9), .int (nI q10), .int (nI q11), .int (nI q12), .int (nI q13), .int (nI q14)])), (f0, .inr (1, [.ref e0, .int (nI n1)])), (e0, .inl (cJ G, 20, .inr (.inl (fJ g1)))), (f1, .inr (1, [.ref e1, .int (nI n2)])), (e1, .inl (cJ G, 20, .inr (.inl (fJ g2))))] (nI 0) [(tx, .inr (2, [.ref b0, .int (nI q1), .int (nI q2), .int (nI q3), .int (nI q4), .ref f0, .ref f1, .int (nI q7), .int (nI q8), .int (nI q9), .int (nI q10), .int (nI q11), .int (nI q12), .int (nI q13), .int (nI q14)])), (f0, .inr (1, [.ref e0, .int (nI n1)])), (e0, .inl (cJ G, 20, .inr (.inl (fJ g1)))), (f1, .inr (1, [.ref e1, .int (nI n2)])), (e1, .inl (cJ G, 20, .inr (.inl (fJ g2))))] := by
  refine CtI.go (cc := cX2_takesToken) (maxL := 1) RX2 rfl (by decide) rfl (Nat.le_of_ble_eq_true rfl) ?_
  intro p e s m args below meth c A Q ls E hw hl hret
  have hx := E.1
  have hb := E.2.1
  have hinX2 : ∀ w ∈ wsX20, w ∈ wsX2_takesToken := (fun w h => List.mem_cons_of_mem _ (List.mem_append_left _ (List.mem_append_right _ h)))
  have hl : lv_has ls 1 [(0, .ref tx)] := hl
  refine lv_aload_n hx hb dX2_takesToken_0 rfl (lv_at hl 0 rfl) ?_
  refine x_get E hw (C := RX2) (T := TX2) (N := 15) hinX2 0 rfl rfl 12 (by decide) rfl (List.mem_of_getElem? (i := 1) rfl) dX2_takesToken_1 ?_
  rcases (show ((q12 : Nat) : Int) = 1 by omega) with c_1
  · refine x_tsw E ((nI_toI (show q12 < 2147483648 by omega)).trans c_1) (tgt := 37) dX2_takesToken_4 (by decide) (by decide) rfl (by decide) ?_
    refine lv_aload_n hx hb dX2_takesToken_37 rfl (lv_at hl 0 rfl) ?_
    refine x_get E hw (C := RX2) (T := TX2) (N := 15) hinX2 0 rfl rfl 10 (by decide) rfl (List.mem_of_getElem? (i := 2) rfl) dX2_takesToken_38 ?_
    refine lv_iconst (v := (nI 5)) hx hb dX2_takesToken_41 (by decide) ?_
    refine x_icmp_ne E (nI_toI (show q10 < 2147483648 by omega)) (nI_toI (by decide)) (tgt := 56) dX2_takesToken_42 (by decide) (fun c_2 => ?_) (fun c_2 => ?_)
    · refine lv_iconst (v := (nI 0)) hx hb dX2_takesToken_56 (by decide) ?_
      exact hret (nI 0) () _ _ _ _ dX2_takesToken_57 rfl rfl hw
    · exfalso; omega

abbrev rm_X2_takesToken_s_tok : Room := { frames := 0, cells := 0, slots := 0, locals := 0 }
set_option maxHeartbeats 4000000 in
set_option maxRecDepth 100000 in
theorem c_X2_takesToken_s_tok (l : Launch) (G : XG) (tx : Nat) (b0 : Nat) (d0 : Nat) (f0 : Nat) (e0 : Nat) (f1 : Nat) (e1 : Nat) (q1 : Nat) (q2 : Nat) (q3 : Nat) (q4 : Nat) (q7 : Nat) (q8 : Nat) (q9 : Nat) (q10 : Nat) (q11 : Nat) (q12 : Nat) (q13 : Nat) (q14 : Nat) (N : Nat) (gb : Nat → Nat) (n1 : Nat) (n2 : Nat) (g1 : Nat → Nat) (g2 : Nat → Nat) (haw : q12 = 2) (hk : q10 ≤ 8) (h5 : ¬ q10 = 5) : CfI l yX2_takesToken wsX2_takesToken rm_X2_takesToken_s_tok G [.ref tx] [(tx, .inr (2, [.ref b0, .int (nI q1), .int (nI q2), .int (nI q3), .int (nI q4), .ref f0, .ref f1, .int (nI q7), .int (nI q8), .int (nI q9), .int (nI q10), .int (nI q11), .int (nI q12), .int (nI q13), .int (nI q14)])), (f0, .inr (1, [.ref e0, .int (nI n1)])), (e0, .inl (cJ G, 20, .inr (.inl (fJ g1)))), (f1, .inr (1, [.ref e1, .int (nI n2)])), (e1, .inl (cJ G, 20, .inr (.inl (fJ g2))))] (nI 0) [(tx, .inr (2, [.ref b0, .int (nI q1), .int (nI q2), .int (nI q3), .int (nI q4), .ref f0, .ref f1, .int (nI q7), .int (nI q8), .int (nI q9), .int (nI q10), .int (nI q11), .int (nI q12), .int (nI q13), .int (nI q14)])), (f0, .inr (1, [.ref e0, .int (nI n1)])), (e0, .inl (cJ G, 20, .inr (.inl (fJ g1)))), (f1, .inr (1, [.ref e1, .int (nI n2)])), (e1, .inl (cJ G, 20, .inr (.inl (fJ g2))))] := by
  refine CtI.go (cc := cX2_takesToken) (maxL := 1) RX2 rfl (by decide) rfl (Nat.le_of_ble_eq_true rfl) ?_
  intro p e s m args below meth c A Q ls E hw hl hret
  have hx := E.1
  have hb := E.2.1
  have hinX2 : ∀ w ∈ wsX20, w ∈ wsX2_takesToken := (fun w h => List.mem_cons_of_mem _ (List.mem_append_left _ (List.mem_append_right _ h)))
  have hl : lv_has ls 1 [(0, .ref tx)] := hl
  refine lv_aload_n hx hb dX2_takesToken_0 rfl (lv_at hl 0 rfl) ?_
  refine x_get E hw (C := RX2) (T := TX2) (N := 15) hinX2 0 rfl rfl 12 (by decide) rfl (List.mem_of_getElem? (i := 1) rfl) dX2_takesToken_1 ?_
  rcases (show ((q12 : Nat) : Int) = 2 by omega) with c_1
  · refine x_tsw E ((nI_toI (show q12 < 2147483648 by omega)).trans c_1) (tgt := 58) dX2_takesToken_4 (by decide) (by decide) rfl (by decide) ?_
    refine lv_aload_n hx hb dX2_takesToken_58 rfl (lv_at hl 0 rfl) ?_
    refine x_get E hw (C := RX2) (T := TX2) (N := 15) hinX2 0 rfl rfl 10 (by decide) rfl (List.mem_of_getElem? (i := 2) rfl) dX2_takesToken_59 ?_
    refine lv_iconst (v := (nI 5)) hx hb dX2_takesToken_62 (by decide) ?_
    refine x_icmp_ne E (nI_toI (show q10 < 2147483648 by omega)) (nI_toI (by decide)) (tgt := 77) dX2_takesToken_63 (by decide) (fun c_2 => ?_) (fun c_2 => ?_)
    · refine lv_iconst (v := (nI 0)) hx hb dX2_takesToken_77 (by decide) ?_
      exact hret (nI 0) () _ _ _ _ dX2_takesToken_78 rfl rfl hw
    · exfalso; omega
