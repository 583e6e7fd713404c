set_option maxRecDepth 20000 in
theorem wsL_law0_r55_in : ∀ w ∈ wsL_law0_r55, w ∈ lw_tbl := fun w h => (goodIn_p wsL_law0_r55 [1215, 1220, 1763, 1227, 1767] rfl (by decide +kernel) w h).1
set_option maxRecDepth 20000 in
theorem wsL_law0_r56_in : ∀ w ∈ wsL_law0_r56, w ∈ lw_tbl := fun w h => (goodIn_p wsL_law0_r56 [1235, 1239, 1345, 1246] rfl (by decide +kernel) w h).1
set_option maxRecDepth 20000 in
theorem wsL_law0_r57_in : ∀ w ∈ wsL_law0_r57, w ∈ lw_tbl := fun w h => (goodIn_p wsL_law0_r57 [1250, 1352, 1257, 1359, 810] rfl (by decide +kernel) w h).1
set_option maxRecDepth 20000 in
theorem wsL_law0_r58_in : ∀ w ∈ wsL_law0_r58, w ∈ lw_tbl := fun w h => (goodIn_p wsL_law0_r58 [814, 818, 1771, 1775, 1264] rfl (by decide +kernel) w h).1
set_option maxRecDepth 20000 in
theorem wsL_law0_r59_in : ∀ w ∈ wsL_law0_r59, w ∈ lw_tbl := fun w h => (goodIn_p wsL_law0_r59 [1779] rfl (by decide +kernel) w h).1
theorem tb_wsX00 : ∀ w ∈ wsX00, w ∈ lw_tbl := by decide +kernel
theorem tb_wsX10 : ∀ w ∈ wsX10, w ∈ lw_tbl := by decide +kernel
theorem tb_wsX20 : ∀ w ∈ wsX20, w ∈ lw_tbl := by decide +kernel
theorem tb_wsX30 : ∀ w ∈ wsX30, w ∈ lw_tbl := by decide +kernel
theorem tb_wsX40 : ∀ w ∈ wsX40, w ∈ lw_tbl := by decide +kernel
theorem tb_wsX50 : ∀ w ∈ wsX50, w ∈ lw_tbl := by decide +kernel
theorem tb_wsX60 : ∀ w ∈ wsX60, w ∈ lw_tbl := by decide +kernel
theorem tb_wsX70 : ∀ w ∈ wsX70, w ∈ lw_tbl := by decide +kernel
theorem tb_wsX80 : ∀ w ∈ wsX80, w ∈ lw_tbl := by decide +kernel
theorem tb_wsX90 : ∀ w ∈ wsX90, w ∈ lw_tbl := by decide +kernel
theorem wsL_law_in0 : ∀ w ∈ wsL_law0, w ∈ lw_tbl := fun w => (fun h => (List.mem_append.mp h).elim (fun h => (List.mem_append.mp h).elim (fun h => (List.mem_append.mp h).elim (fun h => (List.mem_append.mp h).elim (fun h => (List.mem_append.mp h).elim (fun h => (List.mem_append.mp h).elim (fun h => (List.mem_append.mp h).elim (fun h => (List.mem_append.mp h).elim (fun h => (List.mem_append.mp h).elim (fun h => (List.mem_append.mp h).elim (fun h => (List.mem_append.mp h).elim (fun h => (List.mem_append.mp h).elim (wsL_law0_r1_in w) (fun h => (List.mem_append.mp h).elim (wsL_law0_r2_in w) (fun h => (List.mem_append.mp h).elim (wsL_law0_r3_in w) (fun h => (List.mem_append.mp h).elim (wsL_law0_r4_in w) (fun h => (List.mem_append.mp h).elim (wsL_law0_r5_in w) (fun h => (List.mem_append.mp h).elim (wsL_law0_r6_in w) (fun h => (List.mem_append.mp h).elim (wsL_law0_r7_in w) (fun h => (List.mem_append.mp h).elim (wsL_law0_r8_in w) (fun h => (List.mem_append.mp h).elim (wsL_law0_r9_in w) (fun h => (List.mem_append.mp h).elim (wsL_law0_r10_in w) (fun h => (List.mem_append.mp h).elim (wsL_law0_r11_in w) (fun h => (List.mem_append.mp h).elim (wsL_law0_r12_in w) (fun h => (List.mem_append.mp h).elim (wsL_law0_r13_in w) (fun h => (List.mem_append.mp h).elim (wsL_law0_r14_in w) (fun h => (List.mem_append.mp h).elim (wsL_law0_r15_in w) (fun h => (List.mem_append.mp h).elim (wsL_law0_r16_in w) (fun h => (List.mem_append.mp h).elim (wsL_law0_r17_in w) (fun h => (List.mem_append.mp h).elim (wsL_law0_r18_in w) (fun h => (List.mem_append.mp h).elim (wsL_law0_r19_in w) (fun h => (List.mem_append.mp h).elim (wsL_law0_r20_in w) (fun h => (List.mem_append.mp h).elim (wsL_law0_r21_in w) (fun h => (List.mem_append.mp h).elim (wsL_law0_r22_in w) (fun h => (List.mem_append.mp h).elim (wsL_law0_r23_in w) (fun h => (List.mem_append.mp h).elim (wsL_law0_r24_in w) (fun h => (List.mem_append.mp h).elim (wsL_law0_r25_in w) (fun h => (List.mem_append.mp h).elim (wsL_law0_r26_in w) (fun h => (List.mem_append.mp h).elim (wsL_law0_r27_in w) (fun h => (List.mem_append.mp h).elim (wsL_law0_r28_in w) (fun h => (List.mem_append.mp h).elim (wsL_law0_r29_in w) (fun h => (List.mem_append.mp h).elim (wsL_law0_r30_in w) (fun h => (List.mem_append.mp h).elim (wsL_law0_r31_in w) (fun h => (List.mem_append.mp h).elim (wsL_law0_r32_in w) (fun h => (List.mem_append.mp h).elim (wsL_law0_r33_in w) (fun h => (List.mem_append.mp h).elim (wsL_law0_r34_in w) (fun h => (List.mem_append.mp h).elim (wsL_law0_r35_in w) (fun h => (List.mem_append.mp h).elim (wsL_law0_r36_in w) (fun h => (List.mem_append.mp h).elim (wsL_law0_r37_in w) (fun h => (List.mem_append.mp h).elim (wsL_law0_r38_in w) (fun h => (List.mem_append.mp h).elim (wsL_law0_r39_in w) (fun h => (List.mem_append.mp h).elim (wsL_law0_r40_in w) (fun h => (List.mem_append.mp h).elim (wsL_law0_r41_in w) (fun h => (List.mem_append.mp h).elim (wsL_law0_r42_in w) (fun h => (List.mem_append.mp h).elim (wsL_law0_r43_in w) (fun h => (List.mem_append.mp h).elim (wsL_law0_r44_in w) (fun h => (List.mem_append.mp h).elim (wsL_law0_r45_in w) (fun h => (List.mem_append.mp h).elim (wsL_law0_r46_in w) (fun h => (List.mem_append.mp h).elim (wsL_law0_r47_in w) (fun h => (List.mem_append.mp h).elim (wsL_law0_r48_in w) (fun h => (List.mem_append.mp h).elim (wsL_law0_r49_in w) (fun h => (List.mem_append.mp h).elim (wsL_law0_r50_in w) (fun h => (List.mem_append.mp h).elim (wsL_law0_r51_in w) (fun h => (List.mem_append.mp h).elim (wsL_law0_r52_in w) (fun h => (List.mem_append.mp h).elim (wsL_law0_r53_in w) (fun h => (List.mem_append.mp h).elim (wsL_law0_r54_in w) (fun h => (List.mem_append.mp h).elim (wsL_law0_r55_in w) (fun h => (List.mem_append.mp h).elim (wsL_law0_r56_in w) (fun h => (List.mem_append.mp h).elim (wsL_law0_r57_in w) (fun h => (List.mem_append.mp h).elim (wsL_law0_r58_in w) (wsL_law0_r59_in w))))))))))))))))))))))))))))))))))))))))))))))))))))))))))) (tb_wsX80 w)) (tb_wsX90 w)) (tb_wsX50 w)) (tb_wsX00 w)) (tb_wsX30 w)) (tb_wsX10 w)) (tb_wsX40 w)) (tb_wsX20 w)) (tb_wsX70 w)) (tb_wsX60 w)) (fun h => absurd h List.not_mem_nil))
theorem wsL_law_x0 : ∀ w ∈ (vx_at0 RX8 112 "java/lang/IllegalStateException" ["java/lang/RuntimeException", "java/lang/Exception"]).filter goodWord, w ∈ lw_tbl := by decide +kernel
theorem wsL_law_x1 : ∀ w ∈ (vx_at0 RX8 156 "java/lang/IllegalArgumentException" ["java/lang/RuntimeException", "java/lang/Exception"]).filter goodWord, w ∈ lw_tbl := by decide +kernel
theorem wsL_law_x2 : ∀ w ∈ (vx_at0 RX8 303 "java/lang/IndexOutOfBoundsException" ["java/lang/RuntimeException", "java/lang/Exception"]).filter goodWord, w ∈ lw_tbl := by decide +kernel
theorem wsL_law_in : ∀ w ∈ wsL_law, w ∈ lw_tbl := fun w h => (List.mem_append.mp h).elim (fun h => (List.mem_append.mp h).elim (fun h => (List.mem_append.mp h).elim (fun h => wsL_law_in0 w h) (fun h => wsL_law_x0 w h)) (fun h => wsL_law_x1 w h)) (fun h => wsL_law_x2 w h)
theorem inlX0 : ∀ w ∈ wsX00, w ∈ wsL_law := fun _ h => List.mem_append_left _ (List.mem_append_left _ (List.mem_append_left _ (List.mem_append_left _ (List.mem_append_left _ (List.mem_append_left _ (List.mem_append_left _ (List.mem_append_left _ (List.mem_append_left _ (List.mem_append_left _ (List.mem_append_right _ h))))))))))
theorem inX0 : ∀ w ∈ wsX00, w ∈ lw_tbl := fun w h => wsL_law_in w (inlX0 w h)
theorem inlX1 : ∀ w ∈ wsX10, w ∈ wsL_law := fun _ h => List.mem_append_left _ (List.mem_append_left _ (List.mem_append_left _ (List.mem_append_left _ (List.mem_append_left _ (List.mem_append_left _ (List.mem_append_left _ (List.mem_append_left _ (List.mem_append_right _ h))))))))
theorem inX1 : ∀ w ∈ wsX10, w ∈ lw_tbl := fun w h => wsL_law_in w (inlX1 w h)
theorem inlX2 : ∀ w ∈ wsX20, w ∈ wsL_law := fun _ h => List.mem_append_left _ (List.mem_append_left _ (List.mem_append_left _ (List.mem_append_left _ (List.mem_append_left _ (List.mem_append_left _ (List.mem_append_right _ h))))))
theorem inX2 : ∀ w ∈ wsX20, w ∈ lw_tbl := fun w h => wsL_law_in w (inlX2 w h)
theorem inlX3 : ∀ w ∈ wsX30, w ∈ wsL_law := fun _ h => List.mem_append_left _ (List.mem_append_left _ (List.mem_append_left _ (List.mem_append_left _ (List.mem_append_left _ (List.mem_append_left _ (List.mem_append_left _ (List.mem_append_left _ (List.mem_append_left _ (List.mem_append_right _ h)))))))))
theorem inX3 : ∀ w ∈ wsX30, w ∈ lw_tbl := fun w h => wsL_law_in w (inlX3 w h)
theorem inlX4 : ∀ w ∈ wsX40, w ∈ wsL_law := fun _ h => List.mem_append_left _ (List.mem_append_left _ (List.mem_append_left _ (List.mem_append_left _ (List.mem_append_left _ (List.mem_append_left _ (List.mem_append_left _ (List.mem_append_right _ h)))))))
theorem inX4 : ∀ w ∈ wsX40, w ∈ lw_tbl := fun w h => wsL_law_in w (inlX4 w h)
theorem inlX5 : ∀ w ∈ wsX50, w ∈ wsL_law := fun _ h => List.mem_append_left _ (List.mem_append_left _ (List.mem_append_left _ (List.mem_append_left _ (List.mem_append_left _ (List.mem_append_left _ (List.mem_append_left _ (List.mem_append_left _ (List.mem_append_left _ (List.mem_append_left _ (List.mem_append_left _ (List.mem_append_right _ h)))))))))))
theorem inX5 : ∀ w ∈ wsX50, w ∈ lw_tbl := fun w h => wsL_law_in w (inlX5 w h)
theorem inlX6 : ∀ w ∈ wsX60, w ∈ wsL_law := fun _ h => List.mem_append_left _ (List.mem_append_left _ (List.mem_append_left _ (List.mem_append_left _ (List.mem_append_right _ h))))
theorem inX6 : ∀ w ∈ wsX60, w ∈ lw_tbl := fun w h => wsL_law_in w (inlX6 w h)
theorem inlX7 : ∀ w ∈ wsX70, w ∈ wsL_law := fun _ h => List.mem_append_left _ (List.mem_append_left _ (List.mem_append_left _ (List.mem_append_left _ (List.mem_append_left _ (List.mem_append_right _ h)))))
theorem inX7 : ∀ w ∈ wsX70, w ∈ lw_tbl := fun w h => wsL_law_in w (inlX7 w h)
theorem inlX8 : ∀ w ∈ wsX80, w ∈ wsL_law := fun _ h => List.mem_append_left _ (List.mem_append_left _ (List.mem_append_left _ (List.mem_append_left _ (List.mem_append_left _ (List.mem_append_left _ (List.mem_append_left _ (List.mem_append_left _ (List.mem_append_left _ (List.mem_append_left _ (List.mem_append_left _ (List.mem_append_left _ (List.mem_append_left _ (List.mem_append_right _ h)))))))))))))
theorem inX8 : ∀ w ∈ wsX80, w ∈ lw_tbl := fun w h => wsL_law_in w (inlX8 w h)
theorem inlX9 : ∀ w ∈ wsX90, w ∈ wsL_law := fun _ h => List.mem_append_left _ (List.mem_append_left _ (List.mem_append_left _ (List.mem_append_left _ (List.mem_append_left _ (List.mem_append_left _ (List.mem_append_left _ (List.mem_append_left _ (List.mem_append_left _ (List.mem_append_left _ (List.mem_append_left _ (List.mem_append_left _ (List.mem_append_right _ h))))))))))))
theorem inX9 : ∀ w ∈ wsX90, w ∈ lw_tbl := fun w h => wsL_law_in w (inlX9 w h)
theorem inJ9 : ∀ w ∈ wsJ90, w ∈ lw_tbl := by decide +kernel
theorem inJ0 : ∀ w ∈ wsJ00, w ∈ lw_tbl := by decide +kernel
theorem inJ1 : ∀ w ∈ wsJ10, w ∈ lw_tbl := by decide +kernel
theorem inJ2 : ∀ w ∈ wsJ20, w ∈ lw_tbl := by decide +kernel
theorem inJ3 : ∀ w ∈ wsJ30, w ∈ lw_tbl := by decide +kernel
set_option maxRecDepth 20000 in
theorem ggL_append_X8_append : GoodIn wsL_append wsX8_append := goodIn_ca (goodIn_r _ [6, 7, 8, 9, 10, 11, 12, 13, 5, 14, 15, 16, 17, 18, 19, 20, 21, 22, 23, 24, 25, 26, 27, 28, 29, 30, 31, 32, 33, 34, 35, 36, 37, 38, 39, 40, 41, 42, 43, 44, 45, 46, 47, 48, 49, 50, 51] (by decide +kernel) (by decide +kernel)) (goodIn_sub (fun _ h => List.mem_cons_of_mem _ (List.mem_append_right _ h)) (by decide +kernel))
set_option maxRecDepth 20000 in
theorem gL_append_X8_append : GoodIn wsL_append (wsV RL 7 RX8 yX8_append wsX8_append) := goodIn_app (goodIn_of _ (by decide +kernel)) ggL_append_X8_append
theorem dL_append_0 : decode cL_append 0 = .ok (.aload 6, 2) := by decide +kernel
theorem dL_append_2 : decode cL_append 2 = .ok (.iconst 0, 1) := by decide +kernel
theorem dL_append_3 : decode cL_append 3 = .ok (.aload_n 0, 1) := by decide +kernel
theorem dL_append_4 : decode cL_append 4 = .ok (.iload_n 1, 1) := by decide +kernel
theorem dL_append_5 : decode cL_append 5 = .ok (.iload_n 2, 1) := by decide +kernel
theorem dL_append_6 : decode cL_append 6 = .ok (.iload_n 3, 1) := by decide +kernel
theorem dL_append_7 : decode cL_append 7 = .ok (.iload 4, 2) := by decide +kernel
theorem dL_append_9 : decode cL_append 9 = .ok (.iload 5, 2) := by decide +kernel
theorem dL_append_11 : decode cL_append 11 = .ok (.invokevirtual 7, 3) := by decide +kernel
theorem dL_append_14 : decode cL_append 14 = .ok (.i2l, 1) := by decide +kernel
theorem dL_append_15 : decode cL_append 15 = .ok (.lastore, 1) := by decide +kernel
theorem dL_append_16 : decode cL_append 16 = .ok (.goto 7, 3) := by decide +kernel
theorem dL_append_19 : decode cL_append 19 = .ok (.astore 7, 2) := by decide +kernel
theorem dL_append_21 : decode cL_append 21 = .ok (.iconst 1, 1) := by decide +kernel
theorem dL_append_22 : decode cL_append 22 = .ok (.ireturn, 1) := by decide +kernel
theorem dL_append_23 : decode cL_append 23 = .ok (.iconst 0, 1) := by decide +kernel
theorem dL_append_24 : decode cL_append 24 = .ok (.ireturn, 1) := by decide +kernel
set_option maxRecDepth 20000 in
theorem ggL_count_X8_count : GoodIn wsL_count wsX8_count := goodIn_ca (goodIn_r _ [6, 7, 8, 9, 10, 11, 12, 13, 14, 15, 16, 17, 18, 19, 20, 21, 22, 23, 24, 25, 26, 27, 28, 29, 30, 31, 32, 33, 34, 35, 36, 37, 38, 39, 40, 41, 42, 43, 44, 45, 46, 47, 48, 49, 50, 51, 52, 53, 54, 55, 56, 57, 58, 59, 60, 61, 62, 63, 64, 65, 66, 67, 68, 69, 70, 71, 72, 73, 74, 75] (by decide +kernel) (by decide +kernel)) (goodIn_sub (fun _ h => List.mem_cons_of_mem _ (List.mem_append_right _ h)) (by decide +kernel))
set_option maxRecDepth 20000 in
theorem gL_count_X8_count : GoodIn wsL_count (wsV RL 15 RX8 yX8_count wsX8_count) := goodIn_app (goodIn_of _ (by decide +kernel)) ggL_count_X8_count
theorem dL_count_0 : decode cL_count 0 = .ok (.aload_n 2, 1) := by decide +kernel
theorem dL_count_1 : decode cL_count 1 = .ok (.iconst 0, 1) := by decide +kernel
theorem dL_count_2 : decode cL_count 2 = .ok (.aload_n 0, 1) := by decide +kernel
theorem dL_count_3 : decode cL_count 3 = .ok (.iload_n 1, 1) := by decide +kernel
theorem dL_count_4 : decode cL_count 4 = .ok (.invokevirtual 15, 3) := by decide +kernel
theorem dL_count_7 : decode cL_count 7 = .ok (.i2l, 1) := by decide +kernel
theorem dL_count_8 : decode cL_count 8 = .ok (.lastore, 1) := by decide +kernel
theorem dL_count_9 : decode cL_count 9 = .ok (.goto 6, 3) := by decide +kernel
theorem dL_count_12 : decode cL_count 12 = .ok (.astore_n 3, 1) := by decide +kernel
theorem dL_count_13 : decode cL_count 13 = .ok (.iconst 1, 1) := by decide +kernel
theorem dL_count_14 : decode cL_count 14 = .ok (.ireturn, 1) := by decide +kernel
theorem dL_count_15 : decode cL_count 15 = .ok (.iconst 0, 1) := by decide +kernel
theorem dL_count_16 : decode cL_count 16 = .ok (.ireturn, 1) := by decide +kernel
set_option maxRecDepth 20000 in
theorem ggL_support_X8_support : GoodIn wsL_support wsX8_support := goodIn_ca (goodIn_ca (goodIn_r _ [7, 8, 9, 10, 11, 12, 6, 13, 14, 15, 16, 17, 18, 19, 20, 21, 22, 23, 24, 25, 26, 27, 28, 29, 30, 31, 32, 33, 34, 35, 36, 37, 38, 39, 40, 41, 42, 43, 44, 45, 46, 47, 48, 49, 50, 51, 52, 53, 54, 55, 56, 57, 58, 59, 60, 61, 62, 63, 64, 65] (by decide +kernel) (by decide +kernel)) (goodIn_sub (fun _ h => List.mem_cons_of_mem _ (List.mem_append_left _ (List.mem_append_right _ h))) (by decide +kernel))) (goodIn_sub (fun _ h => List.mem_cons_of_mem _ (List.mem_append_right _ h)) (by decide +kernel))
set_option maxRecDepth 20000 in
theorem gL_support_X8_support : GoodIn wsL_support (wsV RL 21 RX8 yX8_support wsX8_support) := goodIn_app (goodIn_of _ (by decide +kernel)) ggL_support_X8_support
theorem dL_support_0 : decode cL_support 0 = .ok (.aload_n 3, 1) := by decide +kernel
theorem dL_support_1 : decode cL_support 1 = .ok (.iconst 0, 1) := by decide +kernel
theorem dL_support_2 : decode cL_support 2 = .ok (.aload_n 0, 1) := by decide +kernel
theorem dL_support_3 : decode cL_support 3 = .ok (.iload_n 1, 1) := by decide +kernel
theorem dL_support_4 : decode cL_support 4 = .ok (.iload_n 2, 1) := by decide +kernel
theorem dL_support_5 : decode cL_support 5 = .ok (.invokevirtual 21, 3) := by decide +kernel
theorem dL_support_8 : decode cL_support 8 = .ok (.i2l, 1) := by decide +kernel
theorem dL_support_9 : decode cL_support 9 = .ok (.lastore, 1) := by decide +kernel
theorem dL_support_10 : decode cL_support 10 = .ok (.goto 11, 3) := by decide +kernel
theorem dL_support_13 : decode cL_support 13 = .ok (.astore 4, 2) := by decide +kernel
theorem dL_support_15 : decode cL_support 15 = .ok (.iconst 1, 1) := by decide +kernel
theorem dL_support_16 : decode cL_support 16 = .ok (.ireturn, 1) := by decide +kernel
theorem dL_support_17 : decode cL_support 17 = .ok (.astore 4, 2) := by decide +kernel
theorem dL_support_19 : decode cL_support 19 = .ok (.iconst 2, 1) := by decide +kernel
theorem dL_support_20 : decode cL_support 20 = .ok (.ireturn, 1) := by decide +kernel
theorem dL_support_21 : decode cL_support 21 = .ok (.iconst 0, 1) := by decide +kernel
theorem dL_support_22 : decode cL_support 22 = .ok (.ireturn, 1) := by decide +kernel
set_option maxRecDepth 20000 in
theorem ggL_hinge_X8_hinge : GoodIn wsL_hinge wsX8_hinge := goodIn_ca (goodIn_ca (goodIn_r _ [6, 7, 8, 9, 10, 11, 5, 12, 13, 14, 15, 16, 17, 18, 19, 20, 21, 22, 23, 24, 25, 26, 27, 28, 29, 30, 31, 32, 33, 34, 35, 36, 37, 38, 39, 40, 41, 42, 43, 44, 45, 46, 47, 48, 49, 50, 51, 52, 53, 54, 55, 56, 57, 58, 59, 60, 61, 62, 63, 64] (by decide +kernel) (by decide +kernel)) (goodIn_sub (fun _ h => List.mem_cons_of_mem _ (List.mem_append_left _ (List.mem_append_right _ h))) (by decide +kernel))) (goodIn_sub (fun _ h => List.mem_cons_of_mem _ (List.mem_append_right _ h)) (by decide +kernel))
set_option maxRecDepth 20000 in
theorem gL_hinge_X8_hinge : GoodIn wsL_hinge (wsV RL 27 RX8 yX8_hinge wsX8_hinge) := goodIn_app (goodIn_of _ (by decide +kernel)) ggL_hinge_X8_hinge
theorem dL_hinge_0 : decode cL_hinge 0 = .ok (.aload_n 2, 1) := by decide +kernel
theorem dL_hinge_1 : decode cL_hinge 1 = .ok (.iconst 0, 1) := by decide +kernel
theorem dL_hinge_2 : decode cL_hinge 2 = .ok (.aload_n 0, 1) := by decide +kernel
theorem dL_hinge_3 : decode cL_hinge 3 = .ok (.iload_n 1, 1) := by decide +kernel
theorem dL_hinge_4 : decode cL_hinge 4 = .ok (.invokevirtual 27, 3) := by decide +kernel
theorem dL_hinge_7 : decode cL_hinge 7 = .ok (.i2l, 1) := by decide +kernel
theorem dL_hinge_8 : decode cL_hinge 8 = .ok (.lastore, 1) := by decide +kernel
theorem dL_hinge_9 : decode cL_hinge 9 = .ok (.goto 6, 3) := by decide +kernel
theorem dL_hinge_12 : decode cL_hinge 12 = .ok (.astore_n 3, 1) := by decide +kernel
theorem dL_hinge_13 : decode cL_hinge 13 = .ok (.iconst 1, 1) := by decide +kernel
theorem dL_hinge_14 : decode cL_hinge 14 = .ok (.ireturn, 1) := by decide +kernel
theorem dL_hinge_15 : decode cL_hinge 15 = .ok (.iconst 0, 1) := by decide +kernel
theorem dL_hinge_16 : decode cL_hinge 16 = .ok (.ireturn, 1) := by decide +kernel
set_option maxRecDepth 20000 in
theorem ggL_weight_X8_weight : GoodIn wsL_weight wsX8_weight := goodIn_ca (goodIn_ca (goodIn_r _ [7, 8, 9, 10, 11, 12, 6, 13, 14, 15, 16, 17, 18, 19, 20, 21, 22, 23, 24, 25, 26, 27, 28, 29, 30, 31, 32, 33, 34, 35, 36, 37, 38, 39, 40, 41, 42, 43, 44, 45, 46, 47, 48, 49, 50, 51, 52, 53, 54, 55, 56, 57, 58, 59, 60, 61, 62, 63, 64, 65] (by decide +kernel) (by decide +kernel)) (goodIn_sub (fun _ h => List.mem_cons_of_mem _ (List.mem_append_left _ (List.mem_append_right _ h))) (by decide +kernel))) (goodIn_sub (fun _ h => List.mem_cons_of_mem _ (List.mem_append_right _ h)) (by decide +kernel))
set_option maxRecDepth 20000 in
theorem gL_weight_X8_weight : GoodIn wsL_weight (wsV RL 30 RX8 yX8_weight wsX8_weight) := goodIn_app (goodIn_of _ (by decide +kernel)) ggL_weight_X8_weight
theorem dL_weight_0 : decode cL_weight 0 = .ok (.aload_n 3, 1) := by decide +kernel
theorem dL_weight_1 : decode cL_weight 1 = .ok (.iconst 0, 1) := by decide +kernel
theorem dL_weight_2 : decode cL_weight 2 = .ok (.aload_n 0, 1) := by decide +kernel
theorem dL_weight_3 : decode cL_weight 3 = .ok (.iload_n 1, 1) := by decide +kernel
theorem dL_weight_4 : decode cL_weight 4 = .ok (.iload_n 2, 1) := by decide +kernel
theorem dL_weight_5 : decode cL_weight 5 = .ok (.invokevirtual 30, 3) := by decide +kernel
theorem dL_weight_8 : decode cL_weight 8 = .ok (.i2l, 1) := by decide +kernel
theorem dL_weight_9 : decode cL_weight 9 = .ok (.lastore, 1) := by decide +kernel
theorem dL_weight_10 : decode cL_weight 10 = .ok (.goto 11, 3) := by decide +kernel
theorem dL_weight_13 : decode cL_weight 13 = .ok (.astore 4, 2) := by decide +kernel
theorem dL_weight_15 : decode cL_weight 15 = .ok (.iconst 1, 1) := by decide +kernel
theorem dL_weight_16 : decode cL_weight 16 = .ok (.ireturn, 1) := by decide +kernel
theorem dL_weight_17 : decode cL_weight 17 = .ok (.astore 4, 2) := by decide +kernel
theorem dL_weight_19 : decode cL_weight 19 = .ok (.iconst 2, 1) := by decide +kernel
theorem dL_weight_20 : decode cL_weight 20 = .ok (.ireturn, 1) := by decide +kernel
theorem dL_weight_21 : decode cL_weight 21 = .ok (.iconst 0, 1) := by decide +kernel
theorem dL_weight_22 : decode cL_weight 22 = .ok (.ireturn, 1) := by decide +kernel
set_option maxRecDepth 20000 in
theorem ggL_axle_X8_axle : GoodIn wsL_axle wsX8_axle := goodIn_ca (goodIn_ca (goodIn_r _ [7, 8, 9, 10, 11, 12, 6, 13, 14, 15, 16, 17, 18, 19, 20, 21, 22, 23, 24, 25, 26, 27, 28, 29, 30, 31, 32, 33, 34, 35, 36, 37, 38, 39, 40, 41, 42, 43, 44, 45, 46, 47, 48, 49, 50, 51, 52, 53, 54, 55, 56, 57, 58, 59, 60, 61, 62, 63, 64, 65] (by decide +kernel) (by decide +kernel)) (goodIn_sub (fun _ h => List.mem_cons_of_mem _ (List.mem_append_left _ (List.mem_append_right _ h))) (by decide +kernel))) (goodIn_sub (fun _ h => List.mem_cons_of_mem _ (List.mem_append_right _ h)) (by decide +kernel))
set_option maxRecDepth 20000 in
theorem gL_axle_X8_axle : GoodIn wsL_axle (wsV RL 33 RX8 yX8_axle wsX8_axle) := goodIn_app (goodIn_of _ (by decide +kernel)) ggL_axle_X8_axle
theorem dL_axle_0 : decode cL_axle 0 = .ok (.aload_n 3, 1) := by decide +kernel
theorem dL_axle_1 : decode cL_axle 1 = .ok (.iconst 0, 1) := by decide +kernel
theorem dL_axle_2 : decode cL_axle 2 = .ok (.aload_n 0, 1) := by decide +kernel
theorem dL_axle_3 : decode cL_axle 3 = .ok (.iload_n 1, 1) := by decide +kernel
theorem dL_axle_4 : decode cL_axle 4 = .ok (.iload_n 2, 1) := by decide +kernel
theorem dL_axle_5 : decode cL_axle 5 = .ok (.invokevirtual 33, 3) := by decide +kernel
theorem dL_axle_8 : decode cL_axle 8 = .ok (.i2l, 1) := by decide +kernel
theorem dL_axle_9 : decode cL_axle 9 = .ok (.lastore, 1) := by decide +kernel
theorem dL_axle_10 : decode cL_axle 10 = .ok (.goto 11, 3) := by decide +kernel
theorem dL_axle_13 : decode cL_axle 13 = .ok (.astore 4, 2) := by decide +kernel
theorem dL_axle_15 : decode cL_axle 15 = .ok (.iconst 1, 1) := by decide +kernel
theorem dL_axle_16 : decode cL_axle 16 = .ok (.ireturn, 1) := by decide +kernel
theorem dL_axle_17 : decode cL_axle 17 = .ok (.astore 4, 2) := by decide +kernel
theorem dL_axle_19 : decode cL_axle 19 = .ok (.iconst 2, 1) := by decide +kernel
theorem dL_axle_20 : decode cL_axle 20 = .ok (.ireturn, 1) := by decide +kernel
theorem dL_axle_21 : decode cL_axle 21 = .ok (.iconst 0, 1) := by decide +kernel
theorem dL_axle_22 : decode cL_axle 22 = .ok (.ireturn, 1) := by decide +kernel
set_option maxRecDepth 20000 in
theorem ggL_part_X8_part : GoodIn wsL_part wsX8_part := goodIn_ca (goodIn_r _ [6, 7, 8, 9, 10, 11, 5, 12, 13, 14, 15, 16, 17, 18, 19, 20, 21, 22, 23, 24, 25, 26, 27, 28, 29, 30, 31, 32, 33, 34, 35, 36, 37, 38, 39, 40, 41, 42, 43, 44, 45, 46, 47, 48, 49, 50] (by decide +kernel) (by decide +kernel)) (goodIn_sub (fun _ h => List.mem_cons_of_mem _ (List.mem_append_right _ h)) (by decide +kernel))
set_option maxRecDepth 20000 in
theorem gL_part_X8_part : GoodIn wsL_part (wsV RL 36 RX8 yX8_part wsX8_part) := goodIn_app (goodIn_of _ (by decide +kernel)) ggL_part_X8_part
theorem dL_part_0 : decode cL_part 0 = .ok (.aload_n 2, 1) := by decide +kernel
theorem dL_part_1 : decode cL_part 1 = .ok (.iconst 0, 1) := by decide +kernel
theorem dL_part_2 : decode cL_part 2 = .ok (.aload_n 0, 1) := by decide +kernel
theorem dL_part_3 : decode cL_part 3 = .ok (.iload_n 1, 1) := by decide +kernel
theorem dL_part_4 : decode cL_part 4 = .ok (.invokevirtual 36, 3) := by decide +kernel
theorem dL_part_7 : decode cL_part 7 = .ok (.i2l, 1) := by decide +kernel
theorem dL_part_8 : decode cL_part 8 = .ok (.lastore, 1) := by decide +kernel
theorem dL_part_9 : decode cL_part 9 = .ok (.goto 6, 3) := by decide +kernel
theorem dL_part_12 : decode cL_part 12 = .ok (.astore_n 3, 1) := by decide +kernel
theorem dL_part_13 : decode cL_part 13 = .ok (.iconst 1, 1) := by decide +kernel
theorem dL_part_14 : decode cL_part 14 = .ok (.ireturn, 1) := by decide +kernel
theorem dL_part_15 : decode cL_part 15 = .ok (.iconst 0, 1) := by decide +kernel
theorem dL_part_16 : decode cL_part 16 = .ok (.ireturn, 1) := by decide +kernel
set_option maxRecDepth 20000 in
theorem ggL_reactionLine_X8_reactionLine : GoodIn wsL_reactionLine wsX8_reactionLine := goodIn_ca (goodIn_r _ [6, 7, 8, 9, 10, 11, 12, 5, 13, 14, 15, 16, 17, 18, 19, 20, 21, 22, 23, 24, 25, 26, 27, 28, 29, 30, 31, 32, 33, 34, 35, 36, 37, 38, 39, 40, 41, 42, 43, 44, 45, 46, 47, 48, 49, 50, 51, 52, 53, 54, 55, 56, 57, 58, 59, 60, 61, 62, 63, 64, 65, 66, 67, 68, 69] (by decide +kernel) (by decide +kernel)) (goodIn_sub (fun _ h => List.mem_cons_of_mem _ (List.mem_append_right _ h)) (by decide +kernel))
set_option maxRecDepth 20000 in
theorem gL_reactionLine_X8_reactionLine : GoodIn wsL_reactionLine (wsV RL 39 RX8 yX8_reactionLine wsX8_reactionLine) := goodIn_app (goodIn_of _ (by decide +kernel)) ggL_reactionLine_X8_reactionLine
theorem dL_reactionLine_0 : decode cL_reactionLine 0 = .ok (.aload_n 3, 1) := by decide +kernel
theorem dL_reactionLine_1 : decode cL_reactionLine 1 = .ok (.iconst 0, 1) := by decide +kernel
theorem dL_reactionLine_2 : decode cL_reactionLine 2 = .ok (.aload_n 0, 1) := by decide +kernel
theorem dL_reactionLine_3 : decode cL_reactionLine 3 = .ok (.iload_n 1, 1) := by decide +kernel
theorem dL_reactionLine_4 : decode cL_reactionLine 4 = .ok (.iload_n 2, 1) := by decide +kernel
theorem dL_reactionLine_5 : decode cL_reactionLine 5 = .ok (.invokevirtual 39, 3) := by decide +kernel
theorem dL_reactionLine_8 : decode cL_reactionLine 8 = .ok (.lastore, 1) := by decide +kernel
theorem dL_reactionLine_9 : decode cL_reactionLine 9 = .ok (.goto 7, 3) := by decide +kernel
theorem dL_reactionLine_12 : decode cL_reactionLine 12 = .ok (.astore 4, 2) := by decide +kernel
theorem dL_reactionLine_14 : decode cL_reactionLine 14 = .ok (.iconst 1, 1) := by decide +kernel
theorem dL_reactionLine_15 : decode cL_reactionLine 15 = .ok (.ireturn, 1) := by decide +kernel
theorem dL_reactionLine_16 : decode cL_reactionLine 16 = .ok (.iconst 0, 1) := by decide +kernel
theorem dL_reactionLine_17 : decode cL_reactionLine 17 = .ok (.ireturn, 1) := by decide +kernel
set_option maxRecDepth 20000 in
theorem ggL_shearLine_X8_shearLine : GoodIn wsL_shearLine wsX8_shearLine := goodIn_ca (goodIn_r _ [6, 7, 8, 9, 10, 11, 12, 5, 13, 14, 15, 16, 17, 18, 19, 20, 21, 22, 23, 24, 25, 26, 27, 28, 29, 30, 31, 32, 33, 34, 35, 36, 37, 38, 39, 40, 41, 42, 43, 44, 45, 46, 47, 48, 49, 50, 51, 52, 53, 54, 55, 56, 57, 58, 59, 60, 61, 62, 63, 64, 65, 66, 67, 68, 69, 70, 71, 72, 73, 74, 75, 76, 77, 78, 79, 80, 81, 82, 83, 84, 85, 86, 87, 88, 89, 90, 91, 92, 93, 94, 95, 96, 97, 98, 99, 100, 101, 102, 103, 104, 105, 106, 107, 108, 109, 110, 111, 112, 113, 114, 115, 116, 117, 118, 119, 120, 121, 122] (by decide +kernel) (by decide +kernel)) (goodIn_sub (fun _ h => List.mem_cons_of_mem _ (List.mem_append_right _ h)) (by decide +kernel))
set_option maxRecDepth 20000 in
theorem gL_shearLine_X8_shearLine : GoodIn wsL_shearLine (wsV RL 43 RX8 yX8_shearLine wsX8_shearLine) := goodIn_app (goodIn_of _ (by decide +kernel)) ggL_shearLine_X8_shearLine
theorem dL_shearLine_0 : decode cL_shearLine 0 = .ok (.aload_n 3, 1) := by decide +kernel
theorem dL_shearLine_1 : decode cL_shearLine 1 = .ok (.iconst 0, 1) := by decide +kernel
theorem dL_shearLine_2 : decode cL_shearLine 2 = .ok (.aload_n 0, 1) := by decide +kernel
theorem dL_shearLine_3 : decode cL_shearLine 3 = .ok (.iload_n 1, 1) := by decide +kernel
theorem dL_shearLine_4 : decode cL_shearLine 4 = .ok (.iload_n 2, 1) := by decide +kernel
theorem dL_shearLine_5 : decode cL_shearLine 5 = .ok (.invokevirtual 43, 3) := by decide +kernel
theorem dL_shearLine_8 : decode cL_shearLine 8 = .ok (.lastore, 1) := by decide +kernel
theorem dL_shearLine_9 : decode cL_shearLine 9 = .ok (.goto 7, 3) := by decide +kernel
theorem dL_shearLine_12 : decode cL_shearLine 12 = .ok (.astore 4, 2) := by decide +kernel
theorem dL_shearLine_14 : decode cL_shearLine 14 = .ok (.iconst 1, 1) := by decide +kernel
theorem dL_shearLine_15 : decode cL_shearLine 15 = .ok (.ireturn, 1) := by decide +kernel
theorem dL_shearLine_16 : decode cL_shearLine 16 = .ok (.iconst 0, 1) := by decide +kernel
theorem dL_shearLine_17 : decode cL_shearLine 17 = .ok (.ireturn, 1) := by decide +kernel
set_option maxRecDepth 20000 in
theorem ggL_momentLine_X8_momentLine : GoodIn wsL_momentLine wsX8_momentLine := goodIn_ca (goodIn_r _ [6, 7, 8, 9, 5, 10, 11, 12, 13, 14, 15, 16, 17, 18, 19, 20, 21, 22, 23, 24, 25, 26, 27, 28, 29, 30, 31, 32, 33, 34, 35, 36, 37, 38, 39, 40, 41, 42, 43, 44, 45, 46, 47, 48, 49, 50, 51, 52, 53, 54, 55, 56, 57, 58, 59, 60, 61, 62, 63, 64, 65, 66, 67, 68, 69, 70, 71, 72, 73, 74, 75, 76, 77, 78, 79, 80, 81, 82, 83, 84, 85, 86, 87, 88, 89, 90, 91, 92, 93, 94, 95, 96, 97, 98, 99, 100, 101, 102, 103, 104, 105, 106, 107, 108, 109, 110, 111, 112, 113, 114, 115, 116, 117, 118, 119, 120, 121] (by decide +kernel) (by decide +kernel)) (goodIn_sub (fun _ h => List.mem_cons_of_mem _ (List.mem_append_right _ h)) (by decide +kernel))
set_option maxRecDepth 20000 in
theorem gL_momentLine_X8_momentLine : GoodIn wsL_momentLine (wsV RL 46 RX8 yX8_momentLine wsX8_momentLine) := goodIn_app (goodIn_of _ (by decide +kernel)) ggL_momentLine_X8_momentLine
theorem dL_momentLine_0 : decode cL_momentLine 0 = .ok (.aload_n 3, 1) := by decide +kernel
theorem dL_momentLine_1 : decode cL_momentLine 1 = .ok (.iconst 0, 1) := by decide +kernel
theorem dL_momentLine_2 : decode cL_momentLine 2 = .ok (.aload_n 0, 1) := by decide +kernel
theorem dL_momentLine_3 : decode cL_momentLine 3 = .ok (.iload_n 1, 1) := by decide +kernel
theorem dL_momentLine_4 : decode cL_momentLine 4 = .ok (.iload_n 2, 1) := by decide +kernel
theorem dL_momentLine_5 : decode cL_momentLine 5 = .ok (.invokevirtual 46, 3) := by decide +kernel
theorem dL_momentLine_8 : decode cL_momentLine 8 = .ok (.lastore, 1) := by decide +kernel
theorem dL_momentLine_9 : decode cL_momentLine 9 = .ok (.goto 7, 3) := by decide +kernel
theorem dL_momentLine_12 : decode cL_momentLine 12 = .ok (.astore 4, 2) := by decide +kernel
theorem dL_momentLine_14 : decode cL_momentLine 14 = .ok (.iconst 1, 1) := by decide +kernel
theorem dL_momentLine_15 : decode cL_momentLine 15 = .ok (.ireturn, 1) := by decide +kernel
theorem dL_momentLine_16 : decode cL_momentLine 16 = .ok (.iconst 0, 1) := by decide +kernel
theorem dL_momentLine_17 : decode cL_momentLine 17 = .ok (.ireturn, 1) := by decide +kernel
set_option maxRecDepth 20000 in
theorem ggL_area_X8_area : GoodIn wsL_area wsX8_area := goodIn_ca (goodIn_r _ [6, 7, 8, 9, 10, 11, 5, 12, 13, 14, 15, 16, 17, 18, 19, 20, 21, 22, 23, 24, 25, 26, 27, 28, 29, 30, 31, 32, 33, 34, 35, 36, 37, 38, 39, 40, 41, 42, 43, 44, 45, 46, 47, 48, 49, 50, 51, 52, 53, 54, 55, 56, 57, 58, 59, 60, 61, 62, 63, 64, 65, 66, 67, 68, 69, 70, 71, 72, 73, 74, 75, 76, 77, 78, 79, 80, 81, 82, 83, 84, 85, 86, 87, 88, 89, 90, 91, 92, 93, 94, 95, 96, 97, 98, 99, 100, 101, 102, 103, 104, 105, 106, 107, 108, 109, 110, 111, 112, 113, 114, 115, 116, 117, 118, 119, 120, 121, 122] (by decide +kernel) (by decide +kernel)) (goodIn_sub (fun _ h => List.mem_cons_of_mem _ (List.mem_append_right _ h)) (by decide +kernel))
set_option maxRecDepth 20000 in
theorem gL_area_X8_area : GoodIn wsL_area (wsV RL 49 RX8 yX8_area wsX8_area) := goodIn_app (goodIn_of _ (by decide +kernel)) ggL_area_X8_area
theorem dL_area_0 : decode cL_area 0 = .ok (.aload_n 2, 1) := by decide +kernel
theorem dL_area_1 : decode cL_area 1 = .ok (.iconst 0, 1) := by decide +kernel
theorem dL_area_2 : decode cL_area 2 = .ok (.aload_n 0, 1) := by decide +kernel
theorem dL_area_3 : decode cL_area 3 = .ok (.iload_n 1, 1) := by decide +kernel
theorem dL_area_4 : decode cL_area 4 = .ok (.invokevirtual 49, 3) := by decide +kernel
theorem dL_area_7 : decode cL_area 7 = .ok (.lastore, 1) := by decide +kernel
theorem dL_area_8 : decode cL_area 8 = .ok (.goto 6, 3) := by decide +kernel
theorem dL_area_11 : decode cL_area 11 = .ok (.astore_n 3, 1) := by decide +kernel
theorem dL_area_12 : decode cL_area 12 = .ok (.iconst 1, 1) := by decide +kernel
theorem dL_area_13 : decode cL_area 13 = .ok (.ireturn, 1) := by decide +kernel
theorem dL_area_14 : decode cL_area 14 = .ok (.iconst 0, 1) := by decide +kernel
theorem dL_area_15 : decode cL_area 15 = .ok (.ireturn, 1) := by decide +kernel
set_option maxRecDepth 20000 in
theorem ggL_still_X8_still : GoodIn wsL_still wsX8_still := goodIn_ca (goodIn_r _ [6, 7, 8, 9, 10, 11, 5, 12, 13, 14, 15, 16, 17, 18, 19, 20, 21, 22, 23, 24, 25, 26, 27, 28, 29, 30, 31, 32, 33, 34, 35, 36, 37, 38, 39, 40, 41, 42, 43, 44, 45, 46, 47, 48, 49, 50, 51, 52, 53, 54, 55, 56, 57, 58, 59, 60, 61, 62, 63, 64, 65, 66, 67, 68, 69, 70, 71, 72, 73, 74, 75, 76, 77, 78, 79, 80, 81, 82, 83, 84, 85, 86, 87, 88, 89, 90, 91, 92, 93, 94, 95, 96, 97, 98, 99, 100, 101, 102, 103, 104, 105, 106, 107, 108, 109, 110, 111, 112, 113, 114, 115, 116, 117, 118, 119, 120, 121, 122] (by decide +kernel) (by decide +kernel)) (goodIn_sub (fun _ h => List.mem_cons_of_mem _ (List.mem_append_right _ h)) (by decide +kernel))
set_option maxRecDepth 20000 in
theorem gL_still_X8_still : GoodIn wsL_still (wsV RL 53 RX8 yX8_still wsX8_still) := goodIn_app (goodIn_of _ (by decide +kernel)) ggL_still_X8_still
theorem dL_still_0 : decode cL_still 0 = .ok (.aload_n 2, 1) := by decide +kernel
theorem dL_still_1 : decode cL_still 1 = .ok (.iconst 0, 1) := by decide +kernel
theorem dL_still_2 : decode cL_still 2 = .ok (.aload_n 0, 1) := by decide +kernel
theorem dL_still_3 : decode cL_still 3 = .ok (.iload_n 1, 1) := by decide +kernel
theorem dL_still_4 : decode cL_still 4 = .ok (.invokevirtual 53, 3) := by decide +kernel
theorem dL_still_7 : decode cL_still 7 = .ok (.i2l, 1) := by decide +kernel
theorem dL_still_8 : decode cL_still 8 = .ok (.lastore, 1) := by decide +kernel
theorem dL_still_9 : decode cL_still 9 = .ok (.goto 6, 3) := by decide +kernel
theorem dL_still_12 : decode cL_still 12 = .ok (.astore_n 3, 1) := by decide +kernel
theorem dL_still_13 : decode cL_still 13 = .ok (.iconst 1, 1) := by decide +kernel
theorem dL_still_14 : decode cL_still 14 = .ok (.ireturn, 1) := by decide +kernel
theorem dL_still_15 : decode cL_still 15 = .ok (.iconst 0, 1) := by decide +kernel
theorem dL_still_16 : decode cL_still 16 = .ok (.ireturn, 1) := by decide +kernel
set_option maxRecDepth 20000 in
theorem ggL_gap_X8_gap : GoodIn wsL_gap wsX8_gap := goodIn_ca (goodIn_r _ [6, 7, 8, 9, 5, 10, 11, 12, 13, 14, 15, 16, 17, 18, 19, 20, 21, 22, 23, 24, 25, 26, 27, 28, 29, 30, 31, 32, 33, 34, 35, 36, 37, 38, 39, 40, 41, 42, 43, 44, 45, 46, 47, 48, 49, 50, 51, 52, 53, 54, 55, 56, 57, 58, 59, 60, 61, 62, 63, 64, 65, 66, 67, 68, 69, 70, 71, 72, 73, 74, 75, 76, 77, 78, 79, 80, 81, 82, 83, 84, 85, 86, 87, 88, 89, 90, 91, 92, 93, 94, 95, 96, 97, 98, 99, 100, 101, 102, 103, 104, 105, 106, 107, 108, 109, 110, 111, 112, 113, 114, 115, 116, 117, 118, 119, 120, 121, 122, 123, 124, 125, 126, 127, 128, 129, 130] (by decide +kernel) (by decide +kernel)) (goodIn_sub (fun _ h => List.mem_cons_of_mem _ (List.mem_append_right _ h)) (by decide +kernel))
set_option maxRecDepth 20000 in
theorem gL_gap_X8_gap : GoodIn wsL_gap (wsV RL 56 RX8 yX8_gap wsX8_gap) := goodIn_app (goodIn_of _ (by decide +kernel)) ggL_gap_X8_gap
theorem dL_gap_0 : decode cL_gap 0 = .ok (.aload_n 3, 1) := by decide +kernel
theorem dL_gap_1 : decode cL_gap 1 = .ok (.iconst 0, 1) := by decide +kernel
theorem dL_gap_2 : decode cL_gap 2 = .ok (.aload_n 0, 1) := by decide +kernel
theorem dL_gap_3 : decode cL_gap 3 = .ok (.iload_n 1, 1) := by decide +kernel
theorem dL_gap_4 : decode cL_gap 4 = .ok (.iload_n 2, 1) := by decide +kernel
theorem dL_gap_5 : decode cL_gap 5 = .ok (.invokevirtual 56, 3) := by decide +kernel
theorem dL_gap_8 : decode cL_gap 8 = .ok (.lastore, 1) := by decide +kernel
theorem dL_gap_9 : decode cL_gap 9 = .ok (.goto 7, 3) := by decide +kernel
theorem dL_gap_12 : decode cL_gap 12 = .ok (.astore 4, 2) := by decide +kernel
theorem dL_gap_14 : decode cL_gap 14 = .ok (.iconst 1, 1) := by decide +kernel
theorem dL_gap_15 : decode cL_gap 15 = .ok (.ireturn, 1) := by decide +kernel
theorem dL_gap_16 : decode cL_gap 16 = .ok (.iconst 0, 1) := by decide +kernel
theorem dL_gap_17 : decode cL_gap 17 = .ok (.ireturn, 1) := by decide +kernel
set_option maxRecDepth 20000 in
theorem ggL_reaction_X8_reaction : GoodIn wsL_reaction wsX8_reaction := goodIn_ca (goodIn_ca (goodIn_r _ [7, 8, 9, 10, 11, 12, 13, 14, 6, 15, 16, 17, 18, 19, 20, 21, 22, 23, 24, 25, 26, 27, 28, 29, 30, 31, 32, 33, 34, 35, 36, 37, 38, 39, 40, 41, 42, 43, 44, 45, 46, 47, 48, 49, 50, 51, 52, 53, 54, 55, 56, 57, 58, 59, 60, 61, 62, 63, 64, 65, 66, 67, 68, 69, 70, 71, 72, 73, 74, 75, 76, 77, 78, 79, 80, 81, 82, 83, 84, 85, 86, 87, 88, 89, 90, 91, 92, 93, 94, 95, 96, 97, 98, 99, 100, 101, 102, 103, 104, 105, 106, 107, 108, 109, 110, 111, 112, 113, 114, 115, 116, 117, 118, 119, 120, 121, 122, 123, 124, 125, 126, 127, 128, 129, 130, 131, 132, 133, 134, 135, 136, 137, 138, 139, 140, 141, 142, 143, 144, 145, 146, 147, 148, 149, 150, 151, 152] (by decide +kernel) (by decide +kernel)) (goodIn_sub (fun _ h => List.mem_cons_of_mem _ (List.mem_append_left _ (List.mem_append_right _ h))) (by decide +kernel))) (goodIn_sub (fun _ h => List.mem_cons_of_mem _ (List.mem_append_right _ h)) (by decide +kernel))
set_option maxRecDepth 20000 in
theorem gL_reaction_X8_reaction : GoodIn wsL_reaction (wsV RL 59 RX8 yX8_reaction wsX8_reaction) := goodIn_app (goodIn_of _ (by decide +kernel)) ggL_reaction_X8_reaction
theorem dL_reaction_0 : decode cL_reaction 0 = .ok (.aload_n 3, 1) := by decide +kernel
theorem dL_reaction_1 : decode cL_reaction 1 = .ok (.iconst 0, 1) := by decide +kernel
theorem dL_reaction_2 : decode cL_reaction 2 = .ok (.aload_n 0, 1) := by decide +kernel
theorem dL_reaction_3 : decode cL_reaction 3 = .ok (.iload_n 1, 1) := by decide +kernel
theorem dL_reaction_4 : decode cL_reaction 4 = .ok (.iload_n 2, 1) := by decide +kernel
theorem dL_reaction_5 : decode cL_reaction 5 = .ok (.invokevirtual 59, 3) := by decide +kernel
theorem dL_reaction_8 : decode cL_reaction 8 = .ok (.lastore, 1) := by decide +kernel
theorem dL_reaction_9 : decode cL_reaction 9 = .ok (.goto 11, 3) := by decide +kernel
theorem dL_reaction_12 : decode cL_reaction 12 = .ok (.astore 4, 2) := by decide +kernel
theorem dL_reaction_14 : decode cL_reaction 14 = .ok (.iconst 1, 1) := by decide +kernel
theorem dL_reaction_15 : decode cL_reaction 15 = .ok (.ireturn, 1) := by decide +kernel
theorem dL_reaction_16 : decode cL_reaction 16 = .ok (.astore 4, 2) := by decide +kernel
theorem dL_reaction_18 : decode cL_reaction 18 = .ok (.iconst 2, 1) := by decide +kernel
theorem dL_reaction_19 : decode cL_reaction 19 = .ok (.ireturn, 1) := by decide +kernel
theorem dL_reaction_20 : decode cL_reaction 20 = .ok (.iconst 0, 1) := by decide +kernel
theorem dL_reaction_21 : decode cL_reaction 21 = .ok (.ireturn, 1) := by decide +kernel
set_option maxRecDepth 20000 in
theorem ggL_shear_X8_shear : GoodIn wsL_shear wsX8_shear := goodIn_ca (goodIn_ca (goodIn_r _ [7, 8, 9, 10, 11, 12, 13, 6, 14, 15, 16, 17, 18, 19, 20, 21, 22, 23, 24, 25, 26, 27, 28, 29, 30, 31, 32, 33, 34, 35, 36, 37, 38, 39, 40, 41, 42, 43, 44, 45, 46, 47, 48, 49, 50, 51, 52, 53, 54, 55, 56, 57, 58, 59, 60, 61, 62, 63, 64, 65, 66, 67, 68, 69, 70, 71, 72, 73, 74, 75, 76, 77, 78, 79, 80, 81, 82, 83, 84, 85, 86, 87, 88, 89, 90, 91, 92, 93, 94, 95, 96, 97, 98, 99, 100, 101, 102, 103, 104, 105, 106, 107, 108, 109, 110, 111, 112, 113, 114, 115, 116, 117, 118, 119, 120, 121, 122, 123, 124, 125, 126, 127, 128, 129, 130, 131, 132, 133, 134, 135, 136, 137, 138, 139, 140, 141, 142, 143, 144, 145, 146, 147, 148, 149, 150, 151, 152, 153, 154] (by decide +kernel) (by decide +kernel)) (goodIn_sub (fun _ h => List.mem_cons_of_mem _ (List.mem_append_left _ (List.mem_append_right _ h))) (by decide +kernel))) (goodIn_sub (fun _ h => List.mem_cons_of_mem _ (List.mem_append_right _ h)) (by decide +kernel))
set_option maxRecDepth 20000 in
theorem gL_shear_X8_shear : GoodIn wsL_shear (wsV RL 62 RX8 yX8_shear wsX8_shear) := goodIn_app (goodIn_of _ (by decide +kernel)) ggL_shear_X8_shear
theorem dL_shear_0 : decode cL_shear 0 = .ok (.aload_n 3, 1) := by decide +kernel
theorem dL_shear_1 : decode cL_shear 1 = .ok (.iconst 0, 1) := by decide +kernel
theorem dL_shear_2 : decode cL_shear 2 = .ok (.aload_n 0, 1) := by decide +kernel
theorem dL_shear_3 : decode cL_shear 3 = .ok (.iload_n 1, 1) := by decide +kernel
theorem dL_shear_4 : decode cL_shear 4 = .ok (.iload_n 2, 1) := by decide +kernel
theorem dL_shear_5 : decode cL_shear 5 = .ok (.invokevirtual 62, 3) := by decide +kernel
theorem dL_shear_8 : decode cL_shear 8 = .ok (.lastore, 1) := by decide +kernel
theorem dL_shear_9 : decode cL_shear 9 = .ok (.goto 11, 3) := by decide +kernel
theorem dL_shear_12 : decode cL_shear 12 = .ok (.astore 4, 2) := by decide +kernel
theorem dL_shear_14 : decode cL_shear 14 = .ok (.iconst 1, 1) := by decide +kernel
theorem dL_shear_15 : decode cL_shear 15 = .ok (.ireturn, 1) := by decide +kernel
theorem dL_shear_16 : decode cL_shear 16 = .ok (.astore 4, 2) := by decide +kernel
theorem dL_shear_18 : decode cL_shear 18 = .ok (.iconst 2, 1) := by decide +kernel
theorem dL_shear_19 : decode cL_shear 19 = .ok (.ireturn, 1) := by decide +kernel
theorem dL_shear_20 : decode cL_shear 20 = .ok (.iconst 0, 1) := by decide +kernel
theorem dL_shear_21 : decode cL_shear 21 = .ok (.ireturn, 1) := by decide +kernel
set_option maxRecDepth 20000 in
theorem ggL_moment_X8_moment : GoodIn wsL_moment wsX8_moment := goodIn_ca (goodIn_ca (goodIn_r _ [7, 8, 9, 10, 11, 12, 13, 6, 14, 15, 16, 17, 18, 19, 20, 21, 22, 23, 24, 25, 26, 27, 28, 29, 30, 31, 32, 33, 34, 35, 36, 37, 38, 39, 40, 41, 42, 43, 44, 45, 46, 47, 48, 49, 50, 51, 52, 53, 54, 55, 56, 57, 58, 59, 60, 61, 62, 63, 64, 65, 66, 67, 68, 69, 70, 71, 72, 73, 74, 75, 76, 77, 78, 79, 80, 81, 82, 83, 84, 85, 86, 87, 88, 89, 90, 91, 92, 93, 94, 95, 96, 97, 98, 99, 100, 101, 102, 103, 104, 105, 106, 107, 108, 109, 110, 111, 112, 113, 114, 115, 116, 117, 118, 119, 120, 121, 122, 123, 124, 125, 126, 127, 128, 129, 130, 131, 132, 133, 134, 135, 136, 137, 138, 139, 140, 141, 142, 143, 144, 145, 146, 147, 148, 149, 150, 151, 152, 153, 154] (by decide +kernel) (by decide +kernel)) (goodIn_sub (fun _ h => List.mem_cons_of_mem _ (List.mem_append_left _ (List.mem_append_right _ h))) (by decide +kernel))) (goodIn_sub (fun _ h => List.mem_cons_of_mem _ (List.mem_append_right _ h)) (by decide +kernel))
set_option maxRecDepth 20000 in
theorem gL_moment_X8_moment : GoodIn wsL_moment (wsV RL 65 RX8 yX8_moment wsX8_moment) := goodIn_app (goodIn_of _ (by decide +kernel)) ggL_moment_X8_moment
theorem dL_moment_0 : decode cL_moment 0 = .ok (.aload_n 3, 1) := by decide +kernel
theorem dL_moment_1 : decode cL_moment 1 = .ok (.iconst 0, 1) := by decide +kernel
theorem dL_moment_2 : decode cL_moment 2 = .ok (.aload_n 0, 1) := by decide +kernel
theorem dL_moment_3 : decode cL_moment 3 = .ok (.iload_n 1, 1) := by decide +kernel
theorem dL_moment_4 : decode cL_moment 4 = .ok (.iload_n 2, 1) := by decide +kernel
theorem dL_moment_5 : decode cL_moment 5 = .ok (.invokevirtual 65, 3) := by decide +kernel
theorem dL_moment_8 : decode cL_moment 8 = .ok (.lastore, 1) := by decide +kernel
theorem dL_moment_9 : decode cL_moment 9 = .ok (.goto 11, 3) := by decide +kernel
theorem dL_moment_12 : decode cL_moment 12 = .ok (.astore 4, 2) := by decide +kernel
theorem dL_moment_14 : decode cL_moment 14 = .ok (.iconst 1, 1) := by decide +kernel
theorem dL_moment_15 : decode cL_moment 15 = .ok (.ireturn, 1) := by decide +kernel
theorem dL_moment_16 : decode cL_moment 16 = .ok (.astore 4, 2) := by decide +kernel
theorem dL_moment_18 : decode cL_moment 18 = .ok (.iconst 2, 1) := by decide +kernel
theorem dL_moment_19 : decode cL_moment 19 = .ok (.ireturn, 1) := by decide +kernel
theorem dL_moment_20 : decode cL_moment 20 = .ok (.iconst 0, 1) := by decide +kernel
theorem dL_moment_21 : decode cL_moment 21 = .ok (.ireturn, 1) := by decide +kernel
set_option maxRecDepth 20000 in
theorem ggL_worstForReaction_X8_worstForReaction : GoodIn wsL_worstForReaction wsX8_worstForReaction := goodIn_ca (goodIn_r _ [6, 7, 8, 9, 10, 11, 5, 12, 13, 14, 15, 16, 17, 18, 19, 20, 21, 22, 23, 24, 25, 26, 27, 28, 29, 30, 31, 32, 33, 34, 35, 36, 37, 38, 39, 40, 41, 42, 43, 44, 45, 46, 47, 48, 49, 50, 51, 52, 53, 54, 55, 56, 57, 58, 59, 60, 61, 62, 63, 64, 65, 66, 67, 68, 69, 70, 71, 72, 73, 74, 75, 76, 77, 78, 79, 80, 81, 82, 83, 84, 85, 86, 87, 88, 89, 90, 91, 92, 93, 94, 95, 96, 97, 98, 99, 100, 101, 102, 103, 104, 105, 106, 107, 108, 109, 110, 111, 112, 113, 114, 115, 116, 117, 118, 119, 120, 121, 122, 123, 124, 125, 126, 127, 128, 129, 130, 131, 132, 133, 134, 135, 136, 137, 138, 139, 140, 141, 142, 143, 144, 145, 146, 147, 148, 149, 150, 151, 152, 153, 154, 155, 156] (by decide +kernel) (by decide +kernel)) (goodIn_sub (fun _ h => List.mem_cons_of_mem _ (List.mem_append_right _ h)) (by decide +kernel))
set_option maxRecDepth 20000 in
theorem gL_worstForReaction_X8_worstForReaction : GoodIn wsL_worstForReaction (wsV RL 68 RX8 yX8_worstForReaction wsX8_worstForReaction) := goodIn_app (goodIn_of _ (by decide +kernel)) ggL_worstForReaction_X8_worstForReaction
theorem dL_worstForReaction_0 : decode cL_worstForReaction 0 = .ok (.aload_n 3, 1) := by decide +kernel
theorem dL_worstForReaction_1 : decode cL_worstForReaction 1 = .ok (.iconst 0, 1) := by decide +kernel
theorem dL_worstForReaction_2 : decode cL_worstForReaction 2 = .ok (.aload_n 0, 1) := by decide +kernel
theorem dL_worstForReaction_3 : decode cL_worstForReaction 3 = .ok (.iload_n 1, 1) := by decide +kernel
theorem dL_worstForReaction_4 : decode cL_worstForReaction 4 = .ok (.iload_n 2, 1) := by decide +kernel
theorem dL_worstForReaction_5 : decode cL_worstForReaction 5 = .ok (.invokevirtual 68, 3) := by decide +kernel
theorem dL_worstForReaction_8 : decode cL_worstForReaction 8 = .ok (.i2l, 1) := by decide +kernel
theorem dL_worstForReaction_9 : decode cL_worstForReaction 9 = .ok (.lastore, 1) := by decide +kernel
theorem dL_worstForReaction_10 : decode cL_worstForReaction 10 = .ok (.goto 7, 3) := by decide +kernel
theorem dL_worstForReaction_13 : decode cL_worstForReaction 13 = .ok (.astore 4, 2) := by decide +kernel
theorem dL_worstForReaction_15 : decode cL_worstForReaction 15 = .ok (.iconst 1, 1) := by decide +kernel
theorem dL_worstForReaction_16 : decode cL_worstForReaction 16 = .ok (.ireturn, 1) := by decide +kernel
theorem dL_worstForReaction_17 : decode cL_worstForReaction 17 = .ok (.iconst 0, 1) := by decide +kernel
theorem dL_worstForReaction_18 : decode cL_worstForReaction 18 = .ok (.ireturn, 1) := by decide +kernel
set_option maxRecDepth 20000 in
theorem ggL_worstForShear_X8_worstForShear : GoodIn wsL_worstForShear wsX8_worstForShear := goodIn_ca (goodIn_r _ [6, 7, 8, 9, 5, 10, 11, 12, 13, 14, 15, 16, 17, 18, 19, 20, 21, 22, 23, 24, 25, 26, 27, 28, 29, 30, 31, 32, 33, 34, 35, 36, 37, 38, 39, 40, 41, 42, 43, 44, 45, 46, 47, 48, 49, 50, 51, 52, 53, 54, 55, 56, 57, 58, 59, 60, 61, 62, 63, 64, 65, 66, 67, 68, 69, 70, 71, 72, 73, 74, 75, 76, 77, 78, 79, 80, 81, 82, 83, 84, 85, 86, 87, 88, 89, 90, 91, 92, 93, 94, 95, 96, 97, 98, 99, 100, 101, 102, 103, 104, 105, 106, 107, 108, 109, 110, 111, 112, 113, 114, 115, 116, 117, 118, 119, 120, 121, 122, 123, 124, 125, 126, 127, 128, 129, 130, 131, 132, 133, 134, 135, 136, 137, 138, 139, 140, 141, 142, 143, 144, 145, 146, 147, 148, 149, 150, 151, 152, 153, 154, 155] (by decide +kernel) (by decide +kernel)) (goodIn_sub (fun _ h => List.mem_cons_of_mem _ (List.mem_append_right _ h)) (by decide +kernel))
set_option maxRecDepth 20000 in
theorem gL_worstForShear_X8_worstForShear : GoodIn wsL_worstForShear (wsV RL 72 RX8 yX8_worstForShear wsX8_worstForShear) := goodIn_app (goodIn_of _ (by decide +kernel)) ggL_worstForShear_X8_worstForShear
theorem dL_worstForShear_0 : decode cL_worstForShear 0 = .ok (.aload_n 3, 1) := by decide +kernel
theorem dL_worstForShear_1 : decode cL_worstForShear 1 = .ok (.iconst 0, 1) := by decide +kernel
theorem dL_worstForShear_2 : decode cL_worstForShear 2 = .ok (.aload_n 0, 1) := by decide +kernel
theorem dL_worstForShear_3 : decode cL_worstForShear 3 = .ok (.iload_n 1, 1) := by decide +kernel
theorem dL_worstForShear_4 : decode cL_worstForShear 4 = .ok (.iload_n 2, 1) := by decide +kernel
theorem dL_worstForShear_5 : decode cL_worstForShear 5 = .ok (.invokevirtual 72, 3) := by decide +kernel
theorem dL_worstForShear_8 : decode cL_worstForShear 8 = .ok (.i2l, 1) := by decide +kernel
theorem dL_worstForShear_9 : decode cL_worstForShear 9 = .ok (.lastore, 1) := by decide +kernel
theorem dL_worstForShear_10 : decode cL_worstForShear 10 = .ok (.goto 7, 3) := by decide +kernel
theorem dL_worstForShear_13 : decode cL_worstForShear 13 = .ok (.astore 4, 2) := by decide +kernel
theorem dL_worstForShear_15 : decode cL_worstForShear 15 = .ok (.iconst 1, 1) := by decide +kernel
theorem dL_worstForShear_16 : decode cL_worstForShear 16 = .ok (.ireturn, 1) := by decide +kernel
theorem dL_worstForShear_17 : decode cL_worstForShear 17 = .ok (.iconst 0, 1) := by decide +kernel
theorem dL_worstForShear_18 : decode cL_worstForShear 18 = .ok (.ireturn, 1) := by decide +kernel
set_option maxRecDepth 20000 in
theorem ggL_worstForMoment_X8_worstForMoment : GoodIn wsL_worstForMoment wsX8_worstForMoment := goodIn_ca (goodIn_r _ [6, 7, 8, 9, 5, 10, 11, 12, 13, 14, 15, 16, 17, 18, 19, 20, 21, 22, 23, 24, 25, 26, 27, 28, 29, 30, 31, 32, 33, 34, 35, 36, 37, 38, 39, 40, 41, 42, 43, 44, 45, 46, 47, 48, 49, 50, 51, 52, 53, 54, 55, 56, 57, 58, 59, 60, 61, 62, 63, 64, 65, 66, 67, 68, 69, 70, 71, 72, 73, 74, 75, 76, 77, 78, 79, 80, 81, 82, 83, 84, 85, 86, 87, 88, 89, 90, 91, 92, 93, 94, 95, 96, 97, 98, 99, 100, 101, 102, 103, 104, 105, 106, 107, 108, 109, 110, 111, 112, 113, 114, 115, 116, 117, 118, 119, 120, 121, 122, 123, 124, 125, 126, 127, 128, 129, 130, 131, 132, 133, 134, 135, 136, 137, 138, 139, 140, 141, 142, 143, 144, 145, 146, 147, 148, 149, 150, 151, 152, 153, 154, 155] (by decide +kernel) (by decide +kernel)) (goodIn_sub (fun _ h => List.mem_cons_of_mem _ (List.mem_append_right _ h)) (by decide +kernel))
set_option maxRecDepth 20000 in
theorem gL_worstForMoment_X8_worstForMoment : GoodIn wsL_worstForMoment (wsV RL 75 RX8 yX8_worstForMoment wsX8_worstForMoment) := goodIn_app (goodIn_of _ (by decide +kernel)) ggL_worstForMoment_X8_worstForMoment
theorem dL_worstForMoment_0 : decode cL_worstForMoment 0 = .ok (.aload_n 3, 1) := by decide +kernel
theorem dL_worstForMoment_1 : decode cL_worstForMoment 1 = .ok (.iconst 0, 1) := by decide +kernel
theorem dL_worstForMoment_2 : decode cL_worstForMoment 2 = .ok (.aload_n 0, 1) := by decide +kernel
theorem dL_worstForMoment_3 : decode cL_worstForMoment 3 = .ok (.iload_n 1, 1) := by decide +kernel
theorem dL_worstForMoment_4 : decode cL_worstForMoment 4 = .ok (.iload_n 2, 1) := by decide +kernel
theorem dL_worstForMoment_5 : decode cL_worstForMoment 5 = .ok (.invokevirtual 75, 3) := by decide +kernel
theorem dL_worstForMoment_8 : decode cL_worstForMoment 8 = .ok (.i2l, 1) := by decide +kernel
theorem dL_worstForMoment_9 : decode cL_worstForMoment 9 = .ok (.lastore, 1) := by decide +kernel
theorem dL_worstForMoment_10 : decode cL_worstForMoment 10 = .ok (.goto 7, 3) := by decide +kernel
theorem dL_worstForMoment_13 : decode cL_worstForMoment 13 = .ok (.astore 4, 2) := by decide +kernel
theorem dL_worstForMoment_15 : decode cL_worstForMoment 15 = .ok (.iconst 1, 1) := by decide +kernel
theorem dL_worstForMoment_16 : decode cL_worstForMoment 16 = .ok (.ireturn, 1) := by decide +kernel
theorem dL_worstForMoment_17 : decode cL_worstForMoment 17 = .ok (.iconst 0, 1) := by decide +kernel
theorem dL_worstForMoment_18 : decode cL_worstForMoment 18 = .ok (.ireturn, 1) := by decide +kernel
set_option maxRecDepth 20000 in
theorem ggL_danger_X8_danger : GoodIn wsL_danger wsX8_danger := goodIn_ca (goodIn_r _ [6, 7, 8, 9, 5, 10, 11, 12, 13, 14, 15, 16, 17, 18, 19, 20, 21, 22, 23, 24, 25, 26, 27, 28, 29, 30, 31, 32, 33, 34, 35, 36, 37, 38, 39, 40, 41, 42, 43, 44, 45, 46, 47, 48, 49, 50, 51, 52, 53, 54, 55, 56, 57, 58, 59, 60, 61, 62, 63, 64, 65, 66, 67, 68, 69, 70, 71, 72, 73, 74, 75, 76, 77, 78, 79, 80, 81, 82, 83, 84, 85, 86, 87, 88, 89, 90, 91, 92, 93, 94, 95, 96, 97, 98, 99, 100, 101, 102, 103, 104, 105, 106, 107, 108, 109, 110, 111, 112, 113, 114, 115, 116, 117, 118, 119, 120, 121, 122, 123, 124, 125, 126, 127, 128, 129, 130, 131, 132, 133, 134, 135, 136, 137, 138, 139, 140, 141, 142, 143, 144, 145, 146, 147, 148, 149, 150, 151, 152, 153, 154, 155, 156, 157, 158, 159, 160, 161, 162, 163, 164, 165, 166, 167, 168, 169, 170] (by decide +kernel) (by decide +kernel)) (goodIn_sub (fun _ h => List.mem_cons_of_mem _ (List.mem_append_right _ h)) (by decide +kernel))
set_option maxRecDepth 20000 in
theorem gL_danger_X8_danger : GoodIn wsL_danger (wsV RL 78 RX8 yX8_danger wsX8_danger) := goodIn_app (goodIn_of _ (by decide +kernel)) ggL_danger_X8_danger
theorem dL_danger_0 : decode cL_danger 0 = .ok (.aload_n 2, 1) := by decide +kernel
theorem dL_danger_1 : decode cL_danger 1 = .ok (.iconst 0, 1) := by decide +kernel
theorem dL_danger_2 : decode cL_danger 2 = .ok (.aload_n 0, 1) := by decide +kernel
theorem dL_danger_3 : decode cL_danger 3 = .ok (.iload_n 1, 1) := by decide +kernel
theorem dL_danger_4 : decode cL_danger 4 = .ok (.invokevirtual 78, 3) := by decide +kernel
theorem dL_danger_7 : decode cL_danger 7 = .ok (.i2l, 1) := by decide +kernel
