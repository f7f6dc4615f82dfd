abbrev rm_J3_ckN : Room := { frames := 0, cells := 0, slots := 0, locals := 0 }
set_option maxHeartbeats 4000000 in
set_option maxRecDepth 100000 in
theorem c_J3_ckN (l : Launch) (G : XG) (k : Nat) (n : Nat) (hk : k < n) (hn : n < 2147483648) : CfI l yJ3_checkIndex_8e157 wsJ3_checkIndex_8e157 rm_J3_ckN G [.int (nI k), .int (nI n), .null] [] (nI k) [] := by
  refine CtI.go (cc := cJ3_checkIndex_8e157) (maxL := 3) RJ3 rfl (by decide) rfl (Nat.le_of_ble_eq_true rfl) ?_
  intro p e s m args below meth c A Q ls E hw hl hret
  have hx := E.1
  have hb := E.2.1
  have hl : lv_has ls 3 [(0, .int (nI k)), (1, .int (nI n)), (2, .null)] := hl
  refine lv_iload_n hx hb dJ3_checkIndex_8e157_0 rfl (lv_at hl 0 rfl) ?_
  refine x_if_lt E (nI_toI (show k < 2147483648 by omega)) (tgt := 9) dJ3_checkIndex_8e157_1 (by decide) (fun c_1 => ?_) (fun c_1 => ?_)
  · exfalso; omega
  · refine lv_iload_n hx hb dJ3_checkIndex_8e157_4 rfl (lv_at hl 0 rfl) ?_
    refine lv_iload_n hx hb dJ3_checkIndex_8e157_5 rfl (lv_at hl 1 rfl) ?_
    refine x_icmp_lt E (nI_toI (show k < 2147483648 by omega)) (nI_toI (show n < 2147483648 by omega)) (tgt := 16) dJ3_checkIndex_8e157_6 (by decide) (fun c_2 => ?_) (fun c_2 => ?_)
    · refine lv_iload_n hx hb dJ3_checkIndex_8e157_16 rfl (lv_at hl 0 rfl) ?_
      exact hret (nI k) () _ _ _ _ dJ3_checkIndex_8e157_17 rfl rfl hw
    · exfalso; omega

abbrev rm_J3_ckR : Room := { frames := 0, cells := 0, slots := 0, locals := 0 }
set_option maxHeartbeats 4000000 in
set_option maxRecDepth 100000 in
theorem c_J3_ckR (l : Launch) (G : XG) (k : Nat) (n : Nat) (t0 : Nat) (hk : k < n) (hn : n < 2147483648) : CfI l yJ3_checkIndex_8e157 wsJ3_checkIndex_8e157 rm_J3_ckR G [.int (nI k), .int (nI n), .ref t0] [] (nI k) [] := by
  refine CtI.go (cc := cJ3_checkIndex_8e157) (maxL := 3) RJ3 rfl (by decide) rfl (Nat.le_of_ble_eq_true rfl) ?_
  intro p e s m args below meth c A Q ls E hw hl hret
  have hx := E.1
  have hb := E.2.1
  have hl : lv_has ls 3 [(0, .int (nI k)), (1, .int (nI n)), (2, .ref t0)] := hl
  refine lv_iload_n hx hb dJ3_checkIndex_8e157_0 rfl (lv_at hl 0 rfl) ?_
  refine x_if_lt E (nI_toI (show k < 2147483648 by omega)) (tgt := 9) dJ3_checkIndex_8e157_1 (by decide) (fun c_1 => ?_) (fun c_1 => ?_)
  · exfalso; omega
  · refine lv_iload_n hx hb dJ3_checkIndex_8e157_4 rfl (lv_at hl 0 rfl) ?_
    refine lv_iload_n hx hb dJ3_checkIndex_8e157_5 rfl (lv_at hl 1 rfl) ?_
    refine x_icmp_lt E (nI_toI (show k < 2147483648 by omega)) (nI_toI (show n < 2147483648 by omega)) (tgt := 16) dJ3_checkIndex_8e157_6 (by decide) (fun c_2 => ?_) (fun c_2 => ?_)
    · refine lv_iload_n hx hb dJ3_checkIndex_8e157_16 rfl (lv_at hl 0 rfl) ?_
      exact hret (nI k) () _ _ _ _ dJ3_checkIndex_8e157_17 rfl rfl hw
    · exfalso; omega

abbrev rm_J0_checkIndex_df160 : Room := { frames := 1, cells := 0, slots := 0, locals := 22 }
set_option maxHeartbeats 4000000 in
set_option maxRecDepth 100000 in
theorem c_J0_checkIndex_df160 (l : Launch) (G : XG) (k : Nat) (n : Nat) (hk : k < n) (hn : n < 2147483648) : CfV l yJ0_checkIndex_df160 wsJ0_checkIndex_df160 rm_J0_checkIndex_df160 G [.int (nI k), .int (nI n)] [] [] := by
  refine CtV.go (cc := cJ0_checkIndex_df160) (maxL := 2) RJ0 rfl (by decide) rfl (Nat.le_of_ble_eq_true rfl) ?_
  intro p e s m args below meth c A Q ls E hw hl hret
  have hx := E.1
  have hb := E.2.1
  have hl : lv_has ls 2 [(0, .int (nI k)), (1, .int (nI n))] := hl
  refine lv_iload_n hx hb dJ0_checkIndex_df160_0 rfl (lv_at hl 0 rfl) ?_
  refine lv_iload_n hx hb dJ0_checkIndex_df160_1 rfl (lv_at hl 1 rfl) ?_
  rcases hw.2.2.2.2.2.2.2.2.2 with hq | ⟨t0, hq⟩
  · refine va_gets hx hb hq hw.2.2.2.1 E.2.2.2.1 (E.2.2.2.2 _ (List.mem_of_getElem? (i := 1) rfl)) (fun _ h => h) dJ0_checkIndex_df160_2 ?_
    refine x_cfSi E hw hl.1 (As := [.int (nI k), .int (nI n), .null]) (rest := []) (c_J3_ckN l G k n (by omega) (by omega)) 3 gJ0_checkIndex_df160_J3_checkIndex_8e157 rfl rfl rfl (by decide) ⟨Nat.le_of_ble_eq_true rfl, Nat.le_of_ble_eq_true rfl⟩ ⟨Nat.le_of_ble_eq_true rfl, Nat.le_of_ble_eq_true rfl⟩ rfl [] [] rfl rfl rfl rfl rfl [] [] rfl rfl rfl (Nat.le_of_ble_eq_true rfl) dJ0_checkIndex_df160_5 (fun H locs hw => ?_)
    refine lv_pop hx hb dJ0_checkIndex_df160_8 rfl ?_
    exact hret () _ _ _ _ dJ0_checkIndex_df160_9 trivial hw
  · refine va_gets hx hb hq hw.2.2.2.1 E.2.2.2.1 (E.2.2.2.2 _ (List.mem_of_getElem? (i := 1) rfl)) (fun _ h => h) dJ0_checkIndex_df160_2 ?_
    refine x_cfSi E hw hl.1 (As := [.int (nI k), .int (nI n), .ref t0]) (rest := []) (c_J3_ckR l G k n t0 (by omega) (by omega)) 3 gJ0_checkIndex_df160_J3_checkIndex_8e157 rfl rfl rfl (by decide) ⟨Nat.le_of_ble_eq_true rfl, Nat.le_of_ble_eq_true rfl⟩ ⟨Nat.le_of_ble_eq_true rfl, Nat.le_of_ble_eq_true rfl⟩ rfl [] [] rfl rfl rfl rfl rfl [] [] rfl rfl rfl (Nat.le_of_ble_eq_true rfl) dJ0_checkIndex_df160_5 (fun H locs hw => ?_)
    refine lv_pop hx hb dJ0_checkIndex_df160_8 rfl ?_
    exact hret () _ _ _ _ dJ0_checkIndex_df160_9 trivial hw

abbrev rm_J0_coder_7d493 : Room := { frames := 0, cells := 0, slots := 0, locals := 0 }
set_option maxHeartbeats 4000000 in
set_option maxRecDepth 100000 in
theorem c_J0_coder_7d493 (l : Launch) (G : XG) (i : Nat) (hi : i < 5) : CfI l yJ0_coder_7d493 wsJ0_coder_7d493 rm_J0_coder_7d493 G [.ref (G.2.2.2.1 i)] [] (nI 0) [] := by
  refine CtI.go (cc := cJ0_coder_7d493) (maxL := 1) RJ0 rfl (by decide) rfl (Nat.le_of_ble_eq_true rfl) ?_
  intro p e s m args below meth c A Q ls E hw hl hret
  have hx := E.1
  have hb := E.2.1
  have hl : lv_has ls 1 [(0, .ref (G.2.2.2.1 i))] := hl
  refine va_gets hx hb hw.2.2.2.2.2.2.2.2.1 hw.2.2.2.1 E.2.2.2.1 (E.2.2.2.2 _ (List.mem_of_getElem? (i := 1) rfl)) (fun _ h => h) dJ0_coder_7d493_0 ?_
  refine x_topi (v := nI 1) rfl ?_
  refine x_if_eq E (nI_toI (by decide)) (tgt := 13) dJ0_coder_7d493_3 (by decide) (fun c_1 => ?_) (fun c_1 => ?_)
  · exact absurd c_1 (by decide)
  · refine lv_aload_n hx hb dJ0_coder_7d493_6 rfl (lv_at hl 0 rfl) ?_
    refine vk_getf hx hb (hw.2.2.2.2.2.2.1.1 i hi).2.1 hw.2.2.2.1 E.2.2.2.1 (E.2.2.2.2 _ (List.mem_of_getElem? (i := 2) rfl)) (fun _ h => h) dJ0_coder_7d493_7 ?_
    refine x_topi (v := nI 0) rfl ?_
    refine lv_goto (tgt := 14) hx hb dJ0_coder_7d493_10 (by decide) ?_
    exact hret (nI 0) () _ _ _ _ dJ0_coder_7d493_14 rfl rfl hw

abbrev rm_J0_isLatin1_aae02 : Room := { frames := 0, cells := 0, slots := 0, locals := 0 }
set_option maxHeartbeats 4000000 in
set_option maxRecDepth 100000 in
theorem c_J0_isLatin1_aae02 (l : Launch) (G : XG) (i : Nat) (hi : i < 5) : CfI l yJ0_isLatin1_aae02 wsJ0_isLatin1_aae02 rm_J0_isLatin1_aae02 G [.ref (G.2.2.2.1 i)] [] (nI 1) [] := by
  refine CtI.go (cc := cJ0_isLatin1_aae02) (maxL := 1) RJ0 rfl (by decide) rfl (Nat.le_of_ble_eq_true rfl) ?_
  intro p e s m args below meth c A Q ls E hw hl hret
  have hx := E.1
  have hb := E.2.1
  have hl : lv_has ls 1 [(0, .ref (G.2.2.2.1 i))] := hl
  refine va_gets hx hb hw.2.2.2.2.2.2.2.2.1 hw.2.2.2.1 E.2.2.2.1 (E.2.2.2.2 _ (List.mem_of_getElem? (i := 1) rfl)) (fun _ h => h) dJ0_isLatin1_aae02_0 ?_
  refine x_topi (v := nI 1) rfl ?_
  refine x_if_eq E (nI_toI (by decide)) (tgt := 17) dJ0_isLatin1_aae02_3 (by decide) (fun c_1 => ?_) (fun c_1 => ?_)
  · exact absurd c_1 (by decide)
  · refine lv_aload_n hx hb dJ0_isLatin1_aae02_6 rfl (lv_at hl 0 rfl) ?_
    refine vk_getf hx hb (hw.2.2.2.2.2.2.1.1 i hi).2.1 hw.2.2.2.1 E.2.2.2.1 (E.2.2.2.2 _ (List.mem_of_getElem? (i := 2) rfl)) (fun _ h => h) dJ0_isLatin1_aae02_7 ?_
    refine x_topi (v := nI 0) rfl ?_
    refine x_if_ne E (nI_toI (by decide)) (tgt := 17) dJ0_isLatin1_aae02_10 (by decide) (fun c_2 => ?_) (fun c_2 => ?_)
    · exact absurd c_2 (by decide)
    · refine lv_iconst (v := (nI 1)) hx hb dJ0_isLatin1_aae02_13 (by decide) ?_
      refine lv_goto (tgt := 18) hx hb dJ0_isLatin1_aae02_14 (by decide) ?_
      exact hret (nI 1) () _ _ _ _ dJ0_isLatin1_aae02_18 rfl rfl hw

abbrev rm_J0_length_8abf5 : Room := { frames := 1, cells := 0, slots := 0, locals := 20 }
set_option maxHeartbeats 4000000 in
set_option maxRecDepth 100000 in
theorem c_J0_length_8abf5 (l : Launch) (G : XG) (i : Nat) (hi : i < 5) : CfI l yJ0_length_8abf5 wsJ0_length_8abf5 rm_J0_length_8abf5 G [.ref (G.2.2.2.1 i)] [] (nI (lnS i)) [] := by
  have hln := lnS_lt i hi
  refine CtI.go (cc := cJ0_length_8abf5) (maxL := 1) RJ0 rfl (by decide) rfl (Nat.le_of_ble_eq_true rfl) ?_
  intro p e s m args below meth c A Q ls E hw hl hret
  have hx := E.1
  have hb := E.2.1
  have hl : lv_has ls 1 [(0, .ref (G.2.2.2.1 i))] := hl
  refine lv_aload_n hx hb dJ0_length_8abf5_0 rfl (lv_at hl 0 rfl) ?_
  refine vk_getf hx hb (hw.2.2.2.2.2.2.1.1 i hi).2.2.1 hw.2.2.2.1 E.2.2.2.1 (E.2.2.2.2 _ (List.mem_of_getElem? (i := 1) rfl)) (fun _ h => h) dJ0_length_8abf5_1 ?_
  refine va_tlen hx hb (v := nI (lnS i)) (hw.2.2.2.2.2.2.1.1 i hi).2.2.2 hw.2.2.2.1 rfl dJ0_length_8abf5_4 ?_
  refine lv_aload_n hx hb dJ0_length_8abf5_5 rfl (lv_at hl 0 rfl) ?_
  refine x_cfKi E hw hl.1 (As := []) (rest := [.int (nI (lnS i))]) (c_J0_coder_7d493 l G i hi) 0 gJ0_length_8abf5_J0_coder_7d493 rfl rfl rfl (by decide) ⟨Nat.le_of_ble_eq_true rfl, Nat.le_of_ble_eq_true rfl⟩ ⟨Nat.le_of_ble_eq_true rfl, Nat.le_of_ble_eq_true rfl⟩ rfl i hi rfl [] [] rfl rfl rfl rfl rfl [] [] rfl rfl rfl (Nat.le_of_ble_eq_true rfl) dJ0_length_8abf5_6 (fun H locs hw => ?_)
  refine lv_ishr hx hb dJ0_length_8abf5_9 ?_
  refine x_topi (v := (nI (lnS i))) (x_shr0 (by omega)) ?_
  exact hret (nI (lnS i)) () _ _ _ _ dJ0_length_8abf5_10 rfl rfl hw

abbrev rm_J1_charAt_3b067 : Room := { frames := 2, cells := 0, slots := 0, locals := 43 }
set_option maxHeartbeats 4000000 in
set_option maxRecDepth 100000 in
theorem c_J1_charAt_3b067 (l : Launch) (G : XG) (i : Nat) (k : Nat) (hi : i < 5) (hk : k < lnS i) : CfI l yJ1_charAt_3b067 wsJ1_charAt_3b067 rm_J1_charAt_3b067 G [.ref (G.2.2.2.2 i), .int (nI k)] [] (chI i k) [] := by
  have hln := lnS_lt i hi
  refine CtI.go (cc := cJ1_charAt_3b067) (maxL := 2) RJ1 rfl (by decide) rfl (Nat.le_of_ble_eq_true rfl) ?_
  intro p e s m args below meth c A Q ls E hw hl hret
  have hx := E.1
  have hb := E.2.1
  have hl : lv_has ls 2 [(0, .ref (G.2.2.2.2 i)), (1, .int (nI k))] := hl
  refine lv_iload_n hx hb dJ1_charAt_3b067_0 rfl (lv_at hl 1 rfl) ?_
  refine lv_aload_n hx hb dJ1_charAt_3b067_1 rfl (lv_at hl 0 rfl) ?_
  refine va_tlen hx hb (v := nI (lnS i)) (hw.2.2.2.2.2.2.1.1 i hi).2.2.2 hw.2.2.2.1 rfl dJ1_charAt_3b067_2 ?_
  refine x_cfSv E hw hl.1 (As := [.int (nI k), .int (nI (lnS i))]) (rest := []) (c_J0_checkIndex_df160 l G k (lnS i) (by omega) (by omega)) 2 gJ1_charAt_3b067_J0_checkIndex_df160 rfl rfl rfl (by decide) ⟨Nat.le_of_ble_eq_true rfl, Nat.le_of_ble_eq_true rfl⟩ ⟨Nat.le_of_ble_eq_true rfl, Nat.le_of_ble_eq_true rfl⟩ rfl [] [] rfl rfl rfl rfl rfl [] [] rfl rfl rfl (Nat.le_of_ble_eq_true rfl) dJ1_charAt_3b067_3 (fun H locs hw => ?_)
  refine lv_aload_n hx hb dJ1_charAt_3b067_6 rfl (lv_at hl 0 rfl) ?_
  refine lv_iload_n hx hb dJ1_charAt_3b067_7 rfl (lv_at hl 1 rfl) ?_
  refine va_tb hx hb (v := .int ((bytS.getD i []).getD k 0)) (hw.2.2.2.2.2.2.1.1 i hi).2.2.2 hw.2.2.2.1 (vp_in_nI (show k < lnS i by omega) (show lnS i < 2147483648 by omega)) (by rw [nI_clamp (by omega)]) dJ1_charAt_3b067_8 ?_
  refine lv_sipush (v := (nI 255)) hx hb dJ1_charAt_3b067_9 (by decide) ?_
  refine x_iand E (v := (chI i k)) dJ1_charAt_3b067_12 rfl ?_
  refine lv_i2c (v := (chI i k)) hx hb dJ1_charAt_3b067_13 (sc_c2 _) ?_
  exact hret (chI i k) () _ _ _ _ dJ1_charAt_3b067_14 (sc_nar _) rfl hw

abbrev rm_J0_charAt_5068e : Room := { frames := 3, cells := 0, slots := 0, locals := 64 }
set_option maxHeartbeats 4000000 in
set_option maxRecDepth 100000 in
theorem c_J0_charAt_5068e (l : Launch) (G : XG) (i : Nat) (k : Nat) (hi : i < 5) (hk : k < lnS i) : CfI l yJ0_charAt_5068e wsJ0_charAt_5068e rm_J0_charAt_5068e G [.ref (G.2.2.2.1 i), .int (nI k)] [] (chI i k) [] := by
  refine CtI.go (cc := cJ0_charAt_5068e) (maxL := 2) RJ0 rfl (by decide) rfl (Nat.le_of_ble_eq_true rfl) ?_
  intro p e s m args below meth c A Q ls E hw hl hret
  have hx := E.1
  have hb := E.2.1
  have hl : lv_has ls 2 [(0, .ref (G.2.2.2.1 i)), (1, .int (nI k))] := hl
  refine lv_aload_n hx hb dJ0_charAt_5068e_0 rfl (lv_at hl 0 rfl) ?_
  refine x_cfKi E hw hl.1 (As := []) (rest := []) (c_J0_isLatin1_aae02 l G i hi) 0 gJ0_charAt_5068e_J0_isLatin1_aae02 rfl rfl rfl (by decide) ⟨Nat.le_of_ble_eq_true rfl, Nat.le_of_ble_eq_true rfl⟩ ⟨Nat.le_of_ble_eq_true rfl, Nat.le_of_ble_eq_true rfl⟩ rfl i hi rfl [] [] rfl rfl rfl rfl rfl [] [] rfl rfl rfl (Nat.le_of_ble_eq_true rfl) dJ0_charAt_5068e_1 (fun H locs hw => ?_)
  refine x_if_eq E (nI_toI (by decide)) (tgt := 16) dJ0_charAt_5068e_4 (by decide) (fun c_1 => ?_) (fun c_1 => ?_)
  · exact absurd c_1 (by decide)
  · refine lv_aload_n hx hb dJ0_charAt_5068e_7 rfl (lv_at hl 0 rfl) ?_
    refine vk_getf hx hb (hw.2.2.2.2.2.2.1.1 i hi).2.2.1 hw.2.2.2.1 E.2.2.2.1 (E.2.2.2.2 _ (List.mem_of_getElem? (i := 1) rfl)) (fun _ h => h) dJ0_charAt_5068e_8 ?_
    refine lv_iload_n hx hb dJ0_charAt_5068e_11 rfl (lv_at hl 1 rfl) ?_
    refine x_cfSi E hw hl.1 (As := [.ref (G.2.2.2.2 i), .int (nI k)]) (rest := []) (c_J1_charAt_3b067 l G i k hi (by omega)) 2 gJ0_charAt_5068e_J1_charAt_3b067 rfl rfl rfl (by decide) ⟨Nat.le_of_ble_eq_true rfl, Nat.le_of_ble_eq_true rfl⟩ ⟨Nat.le_of_ble_eq_true rfl, Nat.le_of_ble_eq_true rfl⟩ rfl [] [] rfl rfl rfl rfl rfl [] [] rfl rfl rfl (Nat.le_of_ble_eq_true rfl) dJ0_charAt_5068e_12 (fun H locs hw => ?_)
    exact hret (chI i k) () _ _ _ _ dJ0_charAt_5068e_15 (sc_nar _) rfl hw

abbrev rm_X2_isLetter : Room := { frames := 1, cells := 0, slots := 0, locals := 21 }
set_option maxHeartbeats 4000000 in
set_option maxRecDepth 100000 in
theorem c_X2_isLetter (l : Launch) (G : XG) (tx : Nat) (b0 : Nat) (d0 : Nat) (f0 : Nat) (e0 : Nat) (f1 : Nat) (e1 : Nat) (q1 : Nat) (q2 : Nat) (q3 : Nat) (q4 : Nat) (q7 : Nat) (q8 : Nat) (q9 : Nat) (q10 : Nat) (q11 : Nat) (q12 : Nat) (q13 : Nat) (q14 : Nat) (N : Nat) (gb : Nat → Nat) (k : Nat) (hN : N ≤ 200) (hk : k ≤ 201) (hgb : ∀ q, gb q < 256) : CfI l yX2_isLetter wsX2_isLetter rm_X2_isLetter G [.ref tx, .int (nI k)] [(tx, .inr (2, [.ref b0, .int (nI q1), .int (nI q2), .int (nI q3), .int (nI q4), .ref f0, .ref f1, .int (nI q7), .int (nI q8), .int (nI q9), .int (nI q10), .int (nI q11), .int (nI q12), .int (nI q13), .int (nI q14)])), (b0, .inr (1, [.ref d0, .int (nI N)])), (d0, .inl (cJ G, 200, .inr (.inl (fJ gb))))] (if k < N ∧ 97 ≤ gb k ∧ gb k ≤ 122 then 1 else 0) [(tx, .inr (2, [.ref b0, .int (nI q1), .int (nI q2), .int (nI q3), .int (nI q4), .ref f0, .ref f1, .int (nI q7), .int (nI q8), .int (nI q9), .int (nI q10), .int (nI q11), .int (nI q12), .int (nI q13), .int (nI q14)])), (b0, .inr (1, [.ref d0, .int (nI N)])), (d0, .inl (cJ G, 200, .inr (.inl (fJ gb))))] := by
  have hgk := hgb k
  refine CtI.go (cc := cX2_isLetter) (maxL := 2) RX2 rfl (by decide) rfl (Nat.le_of_ble_eq_true rfl) ?_
  intro p e s m args below meth c A Q ls E hw hl hret
  have hx := E.1
  have hb := E.2.1
  have hinX2 : ∀ w ∈ wsX20, w ∈ wsX2_isLetter := (fun w h => List.mem_cons_of_mem _ (List.mem_append_left _ (List.mem_append_right _ h)))
  have hl : lv_has ls 2 [(0, .ref tx), (1, .int (nI k))] := hl
  refine lv_iload_n hx hb dX2_isLetter_0 rfl (lv_at hl 1 rfl) ?_
  refine lv_aload_n hx hb dX2_isLetter_1 rfl (lv_at hl 0 rfl) ?_
  refine x_get E hw (C := RX2) (T := TX2) (N := 15) hinX2 0 rfl rfl 0 (by decide) rfl (List.mem_of_getElem? (i := 1) rfl) dX2_isLetter_2 ?_
  refine x_cfVi E hw hl.1 (As := []) (rest := [.int (nI k)]) (c_X1_size l G b0 d0 N) 0 gX2_isLetter_X1_size rfl rfl rfl (by decide) ⟨Nat.le_of_ble_eq_true rfl, Nat.le_of_ble_eq_true rfl⟩ ⟨Nat.le_of_ble_eq_true rfl, Nat.le_of_ble_eq_true rfl⟩ rfl 1 (ci := 1) (C := RX1) (T := TX1) (N := 2) rfl rfl [1] [0, 2] rfl rfl rfl rfl rfl [0, 2, 1] [(tx, .inr (2, [.ref b0, .int (nI q1), .int (nI q2), .int (nI q3), .int (nI q4), .ref f0, .ref f1, .int (nI q7), .int (nI q8), .int (nI q9), .int (nI q10), .int (nI q11), .int (nI q12), .int (nI q13), .int (nI q14)])), (b0, .inr (1, [.ref d0, .int (nI N)])), (d0, .inl (cJ G, 200, .inr (.inl (fJ gb))))] rfl rfl rfl (Nat.le_of_ble_eq_true rfl) dX2_isLetter_5 (fun H locs hw => ?_)
  refine x_icmp_ge E (nI_toI (show k < 2147483648 by omega)) (nI_toI (show N < 2147483648 by omega)) (tgt := 45) dX2_isLetter_8 (by decide) (fun c_1 => ?_) (fun c_1 => ?_)
  · refine lv_iconst (v := (nI 0)) hx hb dX2_isLetter_45 (by decide) ?_
    exact hret (nI 0) () _ _ _ _ dX2_isLetter_46 rfl ((if_neg (by omega)).symm) hw
  · refine lv_aload_n hx hb dX2_isLetter_11 rfl (lv_at hl 0 rfl) ?_
    refine x_get E hw (C := RX2) (T := TX2) (N := 15) hinX2 0 rfl rfl 0 (by decide) rfl (List.mem_of_getElem? (i := 1) rfl) dX2_isLetter_12 ?_
    refine lv_iload_n hx hb dX2_isLetter_15 rfl (lv_at hl 1 rfl) ?_
    refine x_cfVl E hw hl.1 (As := [.int (nI k)]) (rest := []) (c_X1_at l G b0 d0 N 200 k gb (by omega) (by omega)) 1 gX2_isLetter_X1_at rfl rfl rfl (by decide) ⟨Nat.le_of_ble_eq_true rfl, Nat.le_of_ble_eq_true rfl⟩ ⟨Nat.le_of_ble_eq_true rfl, Nat.le_of_ble_eq_true rfl⟩ rfl 1 (ci := 1) (C := RX1) (T := TX1) (N := 2) rfl rfl [1, 2] [0] rfl rfl rfl rfl rfl [0, 1, 2] [(tx, .inr (2, [.ref b0, .int (nI q1), .int (nI q2), .int (nI q3), .int (nI q4), .ref f0, .ref f1, .int (nI q7), .int (nI q8), .int (nI q9), .int (nI q10), .int (nI q11), .int (nI q12), .int (nI q13), .int (nI q14)])), (b0, .inr (1, [.ref d0, .int (nI N)])), (d0, .inl (cJ G, 200, .inr (.inl (fJ gb))))] rfl rfl rfl (Nat.le_of_ble_eq_true rfl) dX2_isLetter_16 (fun H locs hw => ?_)
    refine lv_ldc2 (v := (97)) hx hb E.2.2.2.1 (E.2.2.2.2 _ (List.mem_of_getElem? (i := 2) rfl)) dX2_isLetter_19 ?_
    refine x_topl (v := lN 97) (by decide) ?_
    refine x_lc_lt E (lN_toI (show gb k < 9223372036854775808 by omega)) (lN_toI (by decide)) (tgt := 45) dX2_isLetter_22 dX2_isLetter_23 (by decide) (fun c_2 => ?_) (fun c_2 => ?_)
    · refine lv_iconst (v := (nI 0)) hx hb dX2_isLetter_45 (by decide) ?_
      exact hret (nI 0) () _ _ _ _ dX2_isLetter_46 rfl ((if_neg (by omega)).symm) hw
    · refine lv_aload_n hx hb dX2_isLetter_26 rfl (lv_at hl 0 rfl) ?_
      refine x_get E hw (C := RX2) (T := TX2) (N := 15) hinX2 0 rfl rfl 0 (by decide) rfl (List.mem_of_getElem? (i := 1) rfl) dX2_isLetter_27 ?_
      refine lv_iload_n hx hb dX2_isLetter_30 rfl (lv_at hl 1 rfl) ?_
      refine x_cfVl E hw hl.1 (As := [.int (nI k)]) (rest := []) (c_X1_at l G b0 d0 N 200 k gb (by omega) (by omega)) 1 gX2_isLetter_X1_at rfl rfl rfl (by decide) ⟨Nat.le_of_ble_eq_true rfl, Nat.le_of_ble_eq_true rfl⟩ ⟨Nat.le_of_ble_eq_true rfl, Nat.le_of_ble_eq_true rfl⟩ rfl 1 (ci := 1) (C := RX1) (T := TX1) (N := 2) rfl rfl [1, 2] [0] rfl rfl rfl rfl rfl [0, 1, 2] [(tx, .inr (2, [.ref b0, .int (nI q1), .int (nI q2), .int (nI q3), .int (nI q4), .ref f0, .ref f1, .int (nI q7), .int (nI q8), .int (nI q9), .int (nI q10), .int (nI q11), .int (nI q12), .int (nI q13), .int (nI q14)])), (b0, .inr (1, [.ref d0, .int (nI N)])), (d0, .inl (cJ G, 200, .inr (.inl (fJ gb))))] rfl rfl rfl (Nat.le_of_ble_eq_true rfl) dX2_isLetter_31 (fun H locs hw => ?_)
      refine lv_ldc2 (v := (122)) hx hb E.2.2.2.1 (E.2.2.2.2 _ (List.mem_of_getElem? (i := 3) rfl)) dX2_isLetter_34 ?_
      refine x_topl (v := lN 122) (by decide) ?_
      refine x_lc_gt E (lN_toI (show gb k < 9223372036854775808 by omega)) (lN_toI (by decide)) (tgt := 45) dX2_isLetter_37 dX2_isLetter_38 (by decide) (fun c_3 => ?_) (fun c_3 => ?_)
      · refine lv_iconst (v := (nI 0)) hx hb dX2_isLetter_45 (by decide) ?_
        exact hret (nI 0) () _ _ _ _ dX2_isLetter_46 rfl ((if_neg (by omega)).symm) hw
      · refine lv_iconst (v := (nI 1)) hx hb dX2_isLetter_41 (by decide) ?_
        refine lv_goto (tgt := 46) hx hb dX2_isLetter_42 (by decide) ?_
        exact hret (nI 1) () _ _ _ _ dX2_isLetter_46 rfl ((if_pos (by omega)).symm) hw

abbrev rm_X2_isDigit : Room := { frames := 1, cells := 0, slots := 0, locals := 21 }
set_option maxHeartbeats 4000000 in
set_option maxRecDepth 100000 in
theorem c_X2_isDigit (l : Launch) (G : XG) (tx : Nat) (b0 : Nat) (d0 : Nat) (f0 : Nat) (e0 : Nat) (f1 : Nat) (e1 : Nat) (q1 : Nat) (q2 : Nat) (q3 : Nat) (q4 : Nat) (q7 : Nat) (q8 : Nat) (q9 : Nat) (q10 : Nat) (q11 : Nat) (q12 : Nat) (q13 : Nat) (q14 : Nat) (N : Nat) (gb : Nat → Nat) (k : Nat) (hN : N ≤ 200) (hk : k ≤ 201) (hgb : ∀ q, gb q < 256) : CfI l yX2_isDigit wsX2_isDigit rm_X2_isDigit G [.ref tx, .int (nI k)] [(tx, .inr (2, [.ref b0, .int (nI q1), .int (nI q2), .int (nI q3), .int (nI q4), .ref f0, .ref f1, .int (nI q7), .int (nI q8), .int (nI q9), .int (nI q10), .int (nI q11), .int (nI q12), .int (nI q13), .int (nI q14)])), (b0, .inr (1, [.ref d0, .int (nI N)])), (d0, .inl (cJ G, 200, .inr (.inl (fJ gb))))] (if k < N ∧ 48 ≤ gb k ∧ gb k ≤ 57 then 1 else 0) [(tx, .inr (2, [.ref b0, .int (nI q1), .int (nI q2), .int (nI q3), .int (nI q4), .ref f0, .ref f1, .int (nI q7), .int (nI q8), .int (nI q9), .int (nI q10), .int (nI q11), .int (nI q12), .int (nI q13), .int (nI q14)])), (b0, .inr (1, [.ref d0, .int (nI N)])), (d0, .inl (cJ G, 200, .inr (.inl (fJ gb))))] := by
  have hgk := hgb k
  refine CtI.go (cc := cX2_isDigit) (maxL := 2) RX2 rfl (by decide) rfl (Nat.le_of_ble_eq_true rfl) ?_
  intro p e s m args below meth c A Q ls E hw hl hret
  have hx := E.1
  have hb := E.2.1
  have hinX2 : ∀ w ∈ wsX20, w ∈ wsX2_isDigit := (fun w h => List.mem_cons_of_mem _ (List.mem_append_left _ (List.mem_append_right _ h)))
  have hl : lv_has ls 2 [(0, .ref tx), (1, .int (nI k))] := hl
  refine lv_iload_n hx hb dX2_isDigit_0 rfl (lv_at hl 1 rfl) ?_
  refine lv_aload_n hx hb dX2_isDigit_1 rfl (lv_at hl 0 rfl) ?_
  refine x_get E hw (C := RX2) (T := TX2) (N := 15) hinX2 0 rfl rfl 0 (by decide) rfl (List.mem_of_getElem? (i := 1) rfl) dX2_isDigit_2 ?_
  refine x_cfVi E hw hl.1 (As := []) (rest := [.int (nI k)]) (c_X1_size l G b0 d0 N) 0 gX2_isDigit_X1_size rfl rfl rfl (by decide) ⟨Nat.le_of_ble_eq_true rfl, Nat.le_of_ble_eq_true rfl⟩ ⟨Nat.le_of_ble_eq_true rfl, Nat.le_of_ble_eq_true rfl⟩ rfl 1 (ci := 1) (C := RX1) (T := TX1) (N := 2) rfl rfl [1] [0, 2] rfl rfl rfl rfl rfl [0, 2, 1] [(tx, .inr (2, [.ref b0, .int (nI q1), .int (nI q2), .int (nI q3), .int (nI q4), .ref f0, .ref f1, .int (nI q7), .int (nI q8), .int (nI q9), .int (nI q10), .int (nI q11), .int (nI q12), .int (nI q13), .int (nI q14)])), (b0, .inr (1, [.ref d0, .int (nI N)])), (d0, .inl (cJ G, 200, .inr (.inl (fJ gb))))] rfl rfl rfl (Nat.le_of_ble_eq_true rfl) dX2_isDigit_5 (fun H locs hw => ?_)
  refine x_icmp_ge E (nI_toI (show k < 2147483648 by omega)) (nI_toI (show N < 2147483648 by omega)) (tgt := 45) dX2_isDigit_8 (by decide) (fun c_1 => ?_) (fun c_1 => ?_)
  · refine lv_iconst (v := (nI 0)) hx hb dX2_isDigit_45 (by decide) ?_
    exact hret (nI 0) () _ _ _ _ dX2_isDigit_46 rfl ((if_neg (by omega)).symm) hw
  · refine lv_aload_n hx hb dX2_isDigit_11 rfl (lv_at hl 0 rfl) ?_
    refine x_get E hw (C := RX2) (T := TX2) (N := 15) hinX2 0 rfl rfl 0 (by decide) rfl (List.mem_of_getElem? (i := 1) rfl) dX2_isDigit_12 ?_
    refine lv_iload_n hx hb dX2_isDigit_15 rfl (lv_at hl 1 rfl) ?_
    refine x_cfVl E hw hl.1 (As := [.int (nI k)]) (rest := []) (c_X1_at l G b0 d0 N 200 k gb (by omega) (by omega)) 1 gX2_isDigit_X1_at rfl rfl rfl (by decide) ⟨Nat.le_of_ble_eq_true rfl, Nat.le_of_ble_eq_true rfl⟩ ⟨Nat.le_of_ble_eq_true rfl, Nat.le_of_ble_eq_true rfl⟩ rfl 1 (ci := 1) (C := RX1) (T := TX1) (N := 2) rfl rfl [1, 2] [0] rfl rfl rfl rfl rfl [0, 1, 2] [(tx, .inr (2, [.ref b0, .int (nI q1), .int (nI q2), .int (nI q3), .int (nI q4), .ref f0, .ref f1, .int (nI q7), .int (nI q8), .int (nI q9), .int (nI q10), .int (nI q11), .int (nI q12), .int (nI q13), .int (nI q14)])), (b0, .inr (1, [.ref d0, .int (nI N)])), (d0, .inl (cJ G, 200, .inr (.inl (fJ gb))))] rfl rfl rfl (Nat.le_of_ble_eq_true rfl) dX2_isDigit_16 (fun H locs hw => ?_)
    refine lv_ldc2 (v := (48)) hx hb E.2.2.2.1 (E.2.2.2.2 _ (List.mem_of_getElem? (i := 2) rfl)) dX2_isDigit_19 ?_
    refine x_topl (v := lN 48) (by decide) ?_
    refine x_lc_lt E (lN_toI (show gb k < 9223372036854775808 by omega)) (lN_toI (by decide)) (tgt := 45) dX2_isDigit_22 dX2_isDigit_23 (by decide) (fun c_2 => ?_) (fun c_2 => ?_)
    · refine lv_iconst (v := (nI 0)) hx hb dX2_isDigit_45 (by decide) ?_
      exact hret (nI 0) () _ _ _ _ dX2_isDigit_46 rfl ((if_neg (by omega)).symm) hw
    · refine lv_aload_n hx hb dX2_isDigit_26 rfl (lv_at hl 0 rfl) ?_
      refine x_get E hw (C := RX2) (T := TX2) (N := 15) hinX2 0 rfl rfl 0 (by decide) rfl (List.mem_of_getElem? (i := 1) rfl) dX2_isDigit_27 ?_
      refine lv_iload_n hx hb dX2_isDigit_30 rfl (lv_at hl 1 rfl) ?_
      refine x_cfVl E hw hl.1 (As := [.int (nI k)]) (rest := []) (c_X1_at l G b0 d0 N 200 k gb (by omega) (by omega)) 1 gX2_isDigit_X1_at rfl rfl rfl (by decide) ⟨Nat.le_of_ble_eq_true rfl, Nat.le_of_ble_eq_true rfl⟩ ⟨Nat.le_of_ble_eq_true rfl, Nat.le_of_ble_eq_true rfl⟩ rfl 1 (ci := 1) (C := RX1) (T := TX1) (N := 2) rfl rfl [1, 2] [0] rfl rfl rfl rfl rfl [0, 1, 2] [(tx, .inr (2, [.ref b0, .int (nI q1), .int (nI q2), .int (nI q3), .int (nI q4), .ref f0, .ref f1, .int (nI q7), .int (nI q8), .int (nI q9), .int (nI q10), .int (nI q11), .int (nI q12), .int (nI q13), .int (nI q14)])), (b0, .inr (1, [.ref d0, .int (nI N)])), (d0, .inl (cJ G, 200, .inr (.inl (fJ gb))))] rfl rfl rfl (Nat.le_of_ble_eq_true rfl) dX2_isDigit_31 (fun H locs hw => ?_)
      refine lv_ldc2 (v := (57)) hx hb E.2.2.2.1 (E.2.2.2.2 _ (List.mem_of_getElem? (i := 3) rfl)) dX2_isDigit_34 ?_
      refine x_topl (v := lN 57) (by decide) ?_
      refine x_lc_gt E (lN_toI (show gb k < 9223372036854775808 by omega)) (lN_toI (by decide)) (tgt := 45) dX2_isDigit_37 dX2_isDigit_38 (by decide) (fun c_3 => ?_) (fun c_3 => ?_)
      · refine lv_iconst (v := (nI 0)) hx hb dX2_isDigit_45 (by decide) ?_
        exact hret (nI 0) () _ _ _ _ dX2_isDigit_46 rfl ((if_neg (by omega)).symm) hw
      · refine lv_iconst (v := (nI 1)) hx hb dX2_isDigit_41 (by decide) ?_
        refine lv_goto (tgt := 46) hx hb dX2_isDigit_42 (by decide) ?_
        exact hret (nI 1) () _ _ _ _ dX2_isDigit_46 rfl ((if_pos (by omega)).symm) hw

abbrev rm_X2_isHere : Room := { frames := 4, cells := 0, slots := 0, locals := 85 }
set_option maxHeartbeats 4000000 in
set_option maxRecDepth 100000 in
theorem c_X2_isHere (l : Launch) (G : XG) (tx : Nat) (b0 : Nat) (d0 : Nat) (f0 : Nat) (e0 : Nat) (f1 : Nat) (e1 : Nat) (q1 : Nat) (q2 : Nat) (q3 : Nat) (q4 : Nat) (q7 : Nat) (q8 : Nat) (q9 : Nat) (q10 : Nat) (q11 : Nat) (q12 : Nat) (q13 : Nat) (q14 : Nat) (N : Nat) (gb : Nat → Nat) (i : Nat) (hN : N ≤ 200) (hi : i < 5) (hp : q8 ≤ q9) (he : q9 ≤ N) (hgb : ∀ q, gb q < 256) : CfI l yX2_isHere wsX2_isHere rm_X2_isHere G [.ref tx, .ref (G.2.2.2.1 i)] [(tx, .inr (2, [.ref b0, .int (nI q1), .int (nI q2), .int (nI q3), .int (nI q4), .ref f0, .ref f1, .int (nI q7), .int (nI q8), .int (nI q9), .int (nI q10), .int (nI q11), .int (nI q12), .int (nI q13), .int (nI q14)])), (b0, .inr (1, [.ref d0, .int (nI N)])), (d0, .inl (cJ G, 200, .inr (.inl (fJ gb))))] (if lnS i = q9 - q8 ∧ eqL i gb q8 (lnS i) = true then 1 else 0) [(tx, .inr (2, [.ref b0, .int (nI q1), .int (nI q2), .int (nI q3), .int (nI q4), .ref f0, .ref f1, .int (nI q7), .int (nI q8), .int (nI q9), .int (nI q10), .int (nI q11), .int (nI q12), .int (nI q13), .int (nI q14)])), (b0, .inr (1, [.ref d0, .int (nI N)])), (d0, .inl (cJ G, 200, .inr (.inl (fJ gb))))] := by
  have hln := lnS_lt i hi
  refine CtI.go (cc := cX2_isHere) (maxL := 3) RX2 rfl (by decide) rfl (Nat.le_of_ble_eq_true rfl) ?_
  intro p e s m args below meth c A Q ls E hw hl hret
  have hx := E.1
  have hb := E.2.1
  have hinX2 : ∀ w ∈ wsX20, w ∈ wsX2_isHere := (fun w h => List.mem_cons_of_mem _ (List.mem_append_left _ (List.mem_append_right _ h)))
  have hl : lv_has ls 3 [(0, .ref tx), (1, .ref (G.2.2.2.1 i))] := hl
  refine lv_aload_n hx hb dX2_isHere_0 rfl (lv_at hl 1 rfl) ?_
  refine lv_ifnull hx hb dX2_isHere_1 ?_
  refine lv_aload_n hx hb dX2_isHere_4 rfl (lv_at hl 1 rfl) ?_
  refine x_cfKi E hw hl.1 (As := []) (rest := []) (c_J0_length_8abf5 l G i hi) 0 gX2_isHere_J0_length_8abf5 rfl rfl rfl (by decide) ⟨Nat.le_of_ble_eq_true rfl, Nat.le_of_ble_eq_true rfl⟩ ⟨Nat.le_of_ble_eq_true rfl, Nat.le_of_ble_eq_true rfl⟩ rfl i hi rfl [] [0, 1, 2] rfl rfl rfl rfl rfl [0, 1, 2] [(tx, .inr (2, [.ref b0, .int (nI q1), .int (nI q2), .int (nI q3), .int (nI q4), .ref f0, .ref f1, .int (nI q7), .int (nI q8), .int (nI q9), .int (nI q10), .int (nI q11), .int (nI q12), .int (nI q13), .int (nI q14)])), (b0, .inr (1, [.ref d0, .int (nI N)])), (d0, .inl (cJ G, 200, .inr (.inl (fJ gb))))] rfl rfl rfl (Nat.le_of_ble_eq_true rfl) dX2_isHere_5 (fun H locs hw => ?_)
  refine lv_aload_n hx hb dX2_isHere_8 rfl (lv_at hl 0 rfl) ?_
  refine x_get E hw (C := RX2) (T := TX2) (N := 15) hinX2 0 rfl rfl 9 (by decide) rfl (List.mem_of_getElem? (i := 1) rfl) dX2_isHere_9 ?_
  refine lv_aload_n hx hb dX2_isHere_12 rfl (lv_at hl 0 rfl) ?_
  refine x_get E hw (C := RX2) (T := TX2) (N := 15) hinX2 0 rfl rfl 8 (by decide) rfl (List.mem_of_getElem? (i := 2) rfl) dX2_isHere_13 ?_
  refine x_isub E (v := (nI (q9 - q8))) dX2_isHere_16 (pk_sub (by omega)) ?_
  refine x_icmp_eq E (nI_toI (show lnS i < 2147483648 by omega)) (nI_toI (show q9 - q8 < 2147483648 by omega)) (tgt := 22) dX2_isHere_17 (by decide) (fun hlen => ?_) (fun hlen => ?_)
  · refine lv_iconst (v := (nI 0)) hx hb dX2_isHere_22 (by decide) ?_
    refine lv_istore_n (lv' := [(2, .int (nI 0)), (0, .ref tx), (1, .ref (G.2.2.2.1 i))]) hx hb dX2_isHere_23 rfl hl (by decide) rfl (fun ls hl => ?_)
    have loop_24 : ∀ (fu : Nat) (k : Nat), k ≤ lnS i → eqL i gb q8 k = true → lnS i - k < fu → ∀ (H : Heap) (locs : List Loc) (ls : Array Slot), Wd G s A [(tx, .inr (2, [.ref b0, .int (nI q1), .int (nI q2), .int (nI q3), .int (nI q4), .ref f0, .ref f1, .int (nI q7), .int (nI q8), .int (nI q9), .int (nI q10), .int (nI q11), .int (nI q12), .int (nI q13), .int (nI q14)])), (b0, .inr (1, [.ref d0, .int (nI N)])), (d0, .inl (cJ G, 200, .inr (.inl (fJ gb))))] H locs → lv_has ls 3 [(0, .ref tx), (1, .ref (G.2.2.2.1 i)), (2, .int (nI k))] → W p l e rm_X2_isHere s m args below meth c H locs 0 0 Q (F0 m 24 ls []) := by
      intro fu
      induction fu with
      | zero =>
        intro k hk heq hmu
        exact absurd hmu (Nat.not_lt_zero _)
      | succ fu ih_24 =>
        intro k hk heq hmu_24 H locs ls hw hl
        refine lv_iload_n hx hb dX2_isHere_24 rfl (lv_at hl 2 rfl) ?_
        refine lv_aload_n hx hb dX2_isHere_25 rfl (lv_at hl 1 rfl) ?_
        refine x_cfKi E hw hl.1 (As := []) (rest := [.int (nI k)]) (c_J0_length_8abf5 l G i hi) 0 gX2_isHere_J0_length_8abf5 rfl rfl rfl (by decide) ⟨Nat.le_of_ble_eq_true rfl, Nat.le_of_ble_eq_true rfl⟩ ⟨Nat.le_of_ble_eq_true rfl, Nat.le_of_ble_eq_true rfl⟩ rfl i hi rfl [] [0, 1, 2] rfl rfl rfl rfl rfl [0, 1, 2] [(tx, .inr (2, [.ref b0, .int (nI q1), .int (nI q2), .int (nI q3), .int (nI q4), .ref f0, .ref f1, .int (nI q7), .int (nI q8), .int (nI q9), .int (nI q10), .int (nI q11), .int (nI q12), .int (nI q13), .int (nI q14)])), (b0, .inr (1, [.ref d0, .int (nI N)])), (d0, .inl (cJ G, 200, .inr (.inl (fJ gb))))] rfl rfl rfl (Nat.le_of_ble_eq_true rfl) dX2_isHere_26 (fun H locs hw => ?_)
        refine x_icmp_ge E (nI_toI (show k < 2147483648 by omega)) (nI_toI (show lnS i < 2147483648 by omega)) (tgt := 63) dX2_isHere_29 (by decide) (fun c_1 => ?_) (fun c_1 => ?_)
        · refine lv_iconst (v := (nI 1)) hx hb dX2_isHere_63 (by decide) ?_
          exact hret (nI 1) () _ _ _ _ dX2_isHere_64 rfl (ifT ⟨by omega, by rw [← show k = lnS i by omega]; exact heq⟩ rfl) hw
        · refine lv_aload_n hx hb dX2_isHere_32 rfl (lv_at hl 1 rfl) ?_
          refine lv_iload_n hx hb dX2_isHere_33 rfl (lv_at hl 2 rfl) ?_
          refine x_cfKi E hw hl.1 (As := [.int (nI k)]) (rest := []) (c_J0_charAt_5068e l G i k hi (by omega)) 1 gX2_isHere_J0_charAt_5068e rfl rfl rfl (by decide) ⟨Nat.le_of_ble_eq_true rfl, Nat.le_of_ble_eq_true rfl⟩ ⟨Nat.le_of_ble_eq_true rfl, Nat.le_of_ble_eq_true rfl⟩ rfl i hi rfl [] [0, 1, 2] rfl rfl rfl rfl rfl [0, 1, 2] [(tx, .inr (2, [.ref b0, .int (nI q1), .int (nI q2), .int (nI q3), .int (nI q4), .ref f0, .ref f1, .int (nI q7), .int (nI q8), .int (nI q9), .int (nI q10), .int (nI q11), .int (nI q12), .int (nI q13), .int (nI q14)])), (b0, .inr (1, [.ref d0, .int (nI N)])), (d0, .inl (cJ G, 200, .inr (.inl (fJ gb))))] rfl rfl rfl (Nat.le_of_ble_eq_true rfl) dX2_isHere_34 (fun H locs hw => ?_)
          refine lv_i2l (v := (chI i k).toInt64) hx hb dX2_isHere_37 rfl ?_
          have hgk := hgb (q8 + k)
          refine lv_aload_n hx hb dX2_isHere_38 rfl (lv_at hl 0 rfl) ?_
          refine x_get E hw (C := RX2) (T := TX2) (N := 15) hinX2 0 rfl rfl 0 (by decide) rfl (List.mem_of_getElem? (i := 3) rfl) dX2_isHere_39 ?_
          refine lv_aload_n hx hb dX2_isHere_42 rfl (lv_at hl 0 rfl) ?_
          refine x_get E hw (C := RX2) (T := TX2) (N := 15) hinX2 0 rfl rfl 8 (by decide) rfl (List.mem_of_getElem? (i := 2) rfl) dX2_isHere_43 ?_
          refine lv_iload_n hx hb dX2_isHere_46 rfl (lv_at hl 2 rfl) ?_
          refine x_iadd E (v := (nI (q8 + k))) dX2_isHere_47 (nI_add _ _) ?_
          refine x_cfVl E hw hl.1 (As := [.int (nI (q8 + k))]) (rest := [.long ((chI i k).toInt64)]) (c_X1_at l G b0 d0 N 200 (q8 + k) gb (by omega) (by omega)) 1 gX2_isHere_X1_at rfl rfl rfl (by decide) ⟨Nat.le_of_ble_eq_true rfl, Nat.le_of_ble_eq_true rfl⟩ ⟨Nat.le_of_ble_eq_true rfl, Nat.le_of_ble_eq_true rfl⟩ rfl 1 (ci := 1) (C := RX1) (T := TX1) (N := 2) rfl rfl [1, 2] [0] rfl rfl rfl rfl rfl [0, 1, 2] [(tx, .inr (2, [.ref b0, .int (nI q1), .int (nI q2), .int (nI q3), .int (nI q4), .ref f0, .ref f1, .int (nI q7), .int (nI q8), .int (nI q9), .int (nI q10), .int (nI q11), .int (nI q12), .int (nI q13), .int (nI q14)])), (b0, .inr (1, [.ref d0, .int (nI N)])), (d0, .inl (cJ G, 200, .inr (.inl (fJ gb))))] rfl rfl rfl (Nat.le_of_ble_eq_true rfl) dX2_isHere_48 (fun H locs hw => ?_)
          refine x_lc_eq E ((Int32.toInt_toInt64 _).trans rfl) (lN_toI (show gb (q8 + k) < 9223372036854775808 by omega)) (tgt := 57) dX2_isHere_51 dX2_isHere_52 (by decide) (fun hch => ?_) (fun hch => ?_)
          · refine lv_iinc (v := (nI (k + 1))) (lv' := [(2, .int (nI (k + 1))), (0, .ref tx), (1, .ref (G.2.2.2.1 i))]) hx hb dX2_isHere_57 hl (k := 2) rfl (x_inc1 _) (by decide) rfl (fun ls hl => ?_)
            refine lv_goto (tgt := 24) hx hb dX2_isHere_60 (by decide) ?_
            exact ih_24 (k + 1) (by omega) (eqL_yes heq hch) (by omega) _ _ _ hw (lv_sub hl [1, 2, 0] rfl)
          · refine lv_iconst (v := (nI 0)) hx hb dX2_isHere_55 (by decide) ?_
            exact hret (nI 0) () _ _ _ _ dX2_isHere_56 rfl (ifF (fun h => eqL_no hch _ (by omega) h.2) rfl) hw
    exact loop_24 (lnS i - 0 + 1) 0 (by omega) rfl (Nat.lt_succ_self _) _ _ _ hw (lv_sub hl [1, 2, 0] rfl)
  · refine lv_iconst (v := (nI 0)) hx hb dX2_isHere_20 (by decide) ?_
    exact hret (nI 0) () _ _ _ _ dX2_isHere_21 rfl (ifF (fun h => by omega) rfl) hw
