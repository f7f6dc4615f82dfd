/-! the words of the law, by parts -/
set_option maxRecDepth 20000 in
theorem wsL_law_r1_in : ∀ w ∈ wsL_law_r1, w ∈ lw_tbl := fun w h => (goodIn_p (big := lw_tbl) wsL_law_r1 [67, 70] (by decide +kernel) (by decide +kernel) w h).1
set_option maxRecDepth 20000 in
theorem wsL_law_r2_in : ∀ w ∈ wsL_law_r2, w ∈ lw_tbl := fun w h => (goodIn_p (big := lw_tbl) wsL_law_r2 [75, 81, 85] (by decide +kernel) (by decide +kernel) w h).1
set_option maxRecDepth 20000 in
theorem wsL_law_r3_in : ∀ w ∈ wsL_law_r3, w ∈ lw_tbl := fun w h => (goodIn_p (big := lw_tbl) wsL_law_r3 [152, 180, 184, 188] (by decide +kernel) (by decide +kernel) w h).1
set_option maxRecDepth 20000 in
theorem wsL_law_r4_in : ∀ w ∈ wsL_law_r4, w ∈ lw_tbl := fun w h => (goodIn_p (big := lw_tbl) wsL_law_r4 [192, 196, 637] (by decide +kernel) (by decide +kernel) w h).1
set_option maxRecDepth 20000 in
theorem wsL_law_r5_in : ∀ w ∈ wsL_law_r5, w ∈ lw_tbl := fun w h => (goodIn_p (big := lw_tbl) wsL_law_r5 [642, 229, 233, 239, 718] (by decide +kernel) (by decide +kernel) w h).1
set_option maxRecDepth 20000 in
theorem wsL_law_r6_in : ∀ w ∈ wsL_law_r6, w ∈ lw_tbl := fun w h => (goodIn_p (big := lw_tbl) wsL_law_r6 [722, 243, 727, 248, 252] (by decide +kernel) (by decide +kernel) w h).1
set_option maxRecDepth 20000 in
theorem wsL_law_r7_in : ∀ w ∈ wsL_law_r7, w ∈ lw_tbl := fun w h => (goodIn_p (big := lw_tbl) wsL_law_r7 [256, 261, 266] (by decide +kernel) (by decide +kernel) w h).1
set_option maxRecDepth 20000 in
theorem wsL_law_r8_in : ∀ w ∈ wsL_law_r8, w ∈ lw_tbl := fun w h => (goodIn_p (big := lw_tbl) wsL_law_r8 [272, 278, 283, 287, 291] (by decide +kernel) (by decide +kernel) w h).1
set_option maxRecDepth 20000 in
theorem wsL_law_r9_in : ∀ w ∈ wsL_law_r9, w ∈ lw_tbl := fun w h => (goodIn_p (big := lw_tbl) wsL_law_r9 [297, 301, 304, 307, 312] (by decide +kernel) (by decide +kernel) w h).1
set_option maxRecDepth 20000 in
theorem wsL_law_r10_in : ∀ w ∈ wsL_law_r10, w ∈ lw_tbl := fun w h => (goodIn_p (big := lw_tbl) wsL_law_r10 [315, 318, 321, 325, 339] (by decide +kernel) (by decide +kernel) w h).1
set_option maxRecDepth 20000 in
theorem wsL_law_r11_in : ∀ w ∈ wsL_law_r11, w ∈ lw_tbl := fun w h => (goodIn_p (big := lw_tbl) wsL_law_r11 [345, 348, 352, 356, 360, 365] (by decide +kernel) (by decide +kernel) w h).1
set_option maxRecDepth 20000 in
theorem wsL_law_r12_in : ∀ w ∈ wsL_law_r12, w ∈ lw_tbl := fun w h => (goodIn_p (big := lw_tbl) wsL_law_r12 [369, 373, 377, 382, 386] (by decide +kernel) (by decide +kernel) w h).1
set_option maxRecDepth 20000 in
theorem wsL_law_r13_in : ∀ w ∈ wsL_law_r13, w ∈ lw_tbl := fun w h => (goodIn_p (big := lw_tbl) wsL_law_r13 [391, 394, 731, 735] (by decide +kernel) (by decide +kernel) w h).1
set_option maxRecDepth 20000 in
theorem wsL_law_r14_in : ∀ w ∈ wsL_law_r14, w ∈ lw_tbl := fun w h => (goodIn_p (big := lw_tbl) wsL_law_r14 [739, 742, 745] (by decide +kernel) (by decide +kernel) w h).1
set_option maxRecDepth 20000 in
theorem wsL_law_r15_in : ∀ w ∈ wsL_law_r15, w ∈ lw_tbl := fun w h => (goodIn_p (big := lw_tbl) wsL_law_r15 [760, 764, 768, 772, 776, 781] (by decide +kernel) (by decide +kernel) w h).1
set_option maxRecDepth 20000 in
theorem wsL_law_r16_in : ∀ w ∈ wsL_law_r16, w ∈ lw_tbl := fun w h => (goodIn_p (big := lw_tbl) wsL_law_r16 [402, 406, 410, 416, 419, 422] (by decide +kernel) (by decide +kernel) w h).1
set_option maxRecDepth 20000 in
theorem wsL_law_r17_in : ∀ w ∈ wsL_law_r17, w ∈ lw_tbl := fun w h => (goodIn_p (big := lw_tbl) wsL_law_r17 [426, 785, 789, 794, 797, 430] (by decide +kernel) (by decide +kernel) w h).1
set_option maxRecDepth 20000 in
theorem wsL_law_r18_in : ∀ w ∈ wsL_law_r18, w ∈ lw_tbl := fun w h => (goodIn_p (big := lw_tbl) wsL_law_r18 [801, 434, 438, 442, 805, 446] (by decide +kernel) (by decide +kernel) w h).1
set_option maxRecDepth 20000 in
theorem wsL_law_r19_in : ∀ w ∈ wsL_law_r19, w ∈ lw_tbl := fun w h => (goodIn_p (big := lw_tbl) wsL_law_r19 [450, 453, 809, 813, 457, 461] (by decide +kernel) (by decide +kernel) w h).1
set_option maxRecDepth 20000 in
theorem wsL_law_r20_in : ∀ w ∈ wsL_law_r20, w ∈ lw_tbl := fun w h => (goodIn_p (big := lw_tbl) wsL_law_r20 [465, 817, 469, 821, 473, 477, 480] (by decide +kernel) (by decide +kernel) w h).1
set_option maxRecDepth 20000 in
theorem wsL_law_r21_in : ∀ w ∈ wsL_law_r21, w ∈ lw_tbl := fun w h => (goodIn_p (big := lw_tbl) wsL_law_r21 [825, 828, 832, 484, 836] (by decide +kernel) (by decide +kernel) w h).1
set_option maxRecDepth 20000 in
theorem wsL_law_r22_in : ∀ w ∈ wsL_law_r22, w ∈ lw_tbl := fun w h => (goodIn_p (big := lw_tbl) wsL_law_r22 [490, 494, 498, 501, 504, 841] (by decide +kernel) (by decide +kernel) w h).1
set_option maxRecDepth 20000 in
theorem wsL_law_r23_in : ∀ w ∈ wsL_law_r23, w ∈ lw_tbl := fun w h => (goodIn_p (big := lw_tbl) wsL_law_r23 [511, 845, 515, 519, 523, 849] (by decide +kernel) (by decide +kernel) w h).1
set_option maxRecDepth 20000 in
theorem wsL_law_r24_in : ∀ w ∈ wsL_law_r24, w ∈ lw_tbl := fun w h => (goodIn_p (big := lw_tbl) wsL_law_r24 [527, 854, 531, 858, 535] (by decide +kernel) (by decide +kernel) w h).1
set_option maxRecDepth 20000 in
theorem wsL_law_r25_in : ∀ w ∈ wsL_law_r25, w ∈ lw_tbl := fun w h => (goodIn_p (big := lw_tbl) wsL_law_r25 [539, 862, 866, 543, 870, 547] (by decide +kernel) (by decide +kernel) w h).1
set_option maxRecDepth 20000 in
theorem wsL_law_r26_in : ∀ w ∈ wsL_law_r26, w ∈ lw_tbl := fun w h => (goodIn_p (big := lw_tbl) wsL_law_r26 [874, 552, 878, 556, 882, 560] (by decide +kernel) (by decide +kernel) w h).1
set_option maxRecDepth 20000 in
theorem wsL_law_r27_in : ∀ w ∈ wsL_law_r27, w ∈ lw_tbl := fun w h => (goodIn_p (big := lw_tbl) wsL_law_r27 [564, 568, 886, 572, 577, 581] (by decide +kernel) (by decide +kernel) w h).1
set_option maxRecDepth 20000 in
theorem wsL_law_r28_in : ∀ w ∈ wsL_law_r28, w ∈ lw_tbl := fun w h => (goodIn_p (big := lw_tbl) wsL_law_r28 [586, 591, 595, 600, 890] (by decide +kernel) (by decide +kernel) w h).1
set_option maxRecDepth 20000 in
theorem wsL_law_r29_in : ∀ w ∈ wsL_law_r29, w ∈ lw_tbl := fun w h => (goodIn_p (big := lw_tbl) wsL_law_r29 [605, 609, 613, 617] (by decide +kernel) (by decide +kernel) w h).1
set_option maxRecDepth 20000 in
theorem wsL_law_r30_in : ∀ w ∈ wsL_law_r30, w ∈ lw_tbl := fun w h => (goodIn_p (big := lw_tbl) wsL_law_r30 [901, 624, 905, 628, 909] (by decide +kernel) (by decide +kernel) w h).1
set_option maxRecDepth 20000 in
theorem wsL_law_r31_in : ∀ w ∈ wsL_law_r31, w ∈ lw_tbl := fun w h => (goodIn_p (big := lw_tbl) wsL_law_r31 [632, 913] (by decide +kernel) (by decide +kernel) w h).1
set_option maxRecDepth 20000 in
theorem wsX30_inT : ∀ w ∈ wsX30, w ∈ lw_tbl := by decide +kernel
set_option maxRecDepth 20000 in
theorem wsX40_inT : ∀ w ∈ wsX40, w ∈ lw_tbl := by decide +kernel
set_option maxRecDepth 20000 in
theorem wsX20_inT : ∀ w ∈ wsX20, w ∈ lw_tbl := by decide +kernel
set_option maxRecDepth 20000 in
theorem wsX00_inT : ∀ w ∈ wsX00, w ∈ lw_tbl := by decide +kernel
set_option maxRecDepth 20000 in
theorem wsX10_inT : ∀ w ∈ wsX10, w ∈ lw_tbl := by decide +kernel
theorem wsL_law_in : ∀ w ∈ wsL_law, w ∈ lw_tbl := by
  intro w h
  have h := (List.mem_append.mp h).resolve_right List.not_mem_nil
  rcases List.mem_append.mp h with h | h2
  rotate_left
  · exact wsX10_inT w h2
  rcases List.mem_append.mp h with h | h2
  rotate_left
  · exact wsX00_inT w h2
  rcases List.mem_append.mp h with h | h2
  rotate_left
  · exact wsX20_inT w h2
  rcases List.mem_append.mp h with h | h2
  rotate_left
  · exact wsX40_inT w h2
  rcases List.mem_append.mp h with h | h2
  rotate_left
  · exact wsX30_inT w h2
  rcases List.mem_append.mp h with h1 | h
  · exact wsL_law_r1_in w h1
  rcases List.mem_append.mp h with h1 | h
  · exact wsL_law_r2_in w h1
  rcases List.mem_append.mp h with h1 | h
  · exact wsL_law_r3_in w h1
  rcases List.mem_append.mp h with h1 | h
  · exact wsL_law_r4_in w h1
  rcases List.mem_append.mp h with h1 | h
  · exact wsL_law_r5_in w h1
  rcases List.mem_append.mp h with h1 | h
  · exact wsL_law_r6_in w h1
  rcases List.mem_append.mp h with h1 | h
  · exact wsL_law_r7_in w h1
  rcases List.mem_append.mp h with h1 | h
  · exact wsL_law_r8_in w h1
  rcases List.mem_append.mp h with h1 | h
  · exact wsL_law_r9_in w h1
  rcases List.mem_append.mp h with h1 | h
  · exact wsL_law_r10_in w h1
  rcases List.mem_append.mp h with h1 | h
  · exact wsL_law_r11_in w h1
  rcases List.mem_append.mp h with h1 | h
  · exact wsL_law_r12_in w h1
  rcases List.mem_append.mp h with h1 | h
  · exact wsL_law_r13_in w h1
  rcases List.mem_append.mp h with h1 | h
  · exact wsL_law_r14_in w h1
  rcases List.mem_append.mp h with h1 | h
  · exact wsL_law_r15_in w h1
  rcases List.mem_append.mp h with h1 | h
  · exact wsL_law_r16_in w h1
  rcases List.mem_append.mp h with h1 | h
  · exact wsL_law_r17_in w h1
  rcases List.mem_append.mp h with h1 | h
  · exact wsL_law_r18_in w h1
  rcases List.mem_append.mp h with h1 | h
  · exact wsL_law_r19_in w h1
  rcases List.mem_append.mp h with h1 | h
  · exact wsL_law_r20_in w h1
  rcases List.mem_append.mp h with h1 | h
  · exact wsL_law_r21_in w h1
  rcases List.mem_append.mp h with h1 | h
  · exact wsL_law_r22_in w h1
  rcases List.mem_append.mp h with h1 | h
  · exact wsL_law_r23_in w h1
  rcases List.mem_append.mp h with h1 | h
  · exact wsL_law_r24_in w h1
  rcases List.mem_append.mp h with h1 | h
  · exact wsL_law_r25_in w h1
  rcases List.mem_append.mp h with h1 | h
  · exact wsL_law_r26_in w h1
  rcases List.mem_append.mp h with h1 | h
  · exact wsL_law_r27_in w h1
  rcases List.mem_append.mp h with h1 | h
  · exact wsL_law_r28_in w h1
  rcases List.mem_append.mp h with h1 | h
  · exact wsL_law_r29_in w h1
  rcases List.mem_append.mp h with h1 | h
  · exact wsL_law_r30_in w h1
  exact wsL_law_r31_in w h
