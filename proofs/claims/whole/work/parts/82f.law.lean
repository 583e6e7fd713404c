theorem dL_danger_8 : decode cL_danger 8 = .ok (.lastore, 1) := by decide +kernel
theorem dL_danger_9 : decode cL_danger 9 = .ok (.goto 6, 3) := by decide +kernel
theorem dL_danger_12 : decode cL_danger 12 = .ok (.astore_n 3, 1) := by decide +kernel
theorem dL_danger_13 : decode cL_danger 13 = .ok (.iconst 1, 1) := by decide +kernel
theorem dL_danger_14 : decode cL_danger 14 = .ok (.ireturn, 1) := by decide +kernel
theorem dL_danger_15 : decode cL_danger 15 = .ok (.iconst 0, 1) := by decide +kernel
theorem dL_danger_16 : decode cL_danger 16 = .ok (.ireturn, 1) := by decide +kernel
set_option maxRecDepth 20000 in
theorem ggL_share_X8_share : GoodIn wsL_share wsX8_share := goodIn_ca (goodIn_ca (goodIn_r _ [7, 8, 9, 10, 11, 12, 13, 14, 15, 16, 6, 17, 18, 19, 20, 21, 22, 23, 24, 25, 26, 27, 28, 29, 30, 31, 32, 33, 34, 35, 36, 37, 38, 39, 40, 41, 42, 43, 44, 45, 46, 47, 48, 49, 50, 51, 52, 53, 54, 55, 56, 57, 58, 59, 60, 61, 62, 63, 64, 65, 66, 67, 68, 69, 70, 71, 72, 73, 74, 75, 76, 77, 78, 79, 80, 81, 82, 83, 84, 85, 86, 87, 88, 89, 90, 91, 92, 93, 94, 95, 96, 97, 98, 99, 100, 101, 102, 103, 104, 105, 106, 107, 108, 109, 110, 111, 112, 113, 114, 115, 116, 117, 118, 119, 120, 121, 122, 123, 124, 125, 126, 127, 128, 129, 130, 131, 132, 133, 134, 135, 136, 137, 138, 139, 140, 141, 142, 143, 144, 145, 146, 147, 148, 149, 150, 151, 152, 153, 154] (by decide +kernel) (by decide +kernel)) (goodIn_sub (fun _ h => List.mem_cons_of_mem _ (List.mem_append_left _ (List.mem_append_right _ h))) (by decide +kernel))) (goodIn_sub (fun _ h => List.mem_cons_of_mem _ (List.mem_append_right _ h)) (by decide +kernel))
set_option maxRecDepth 20000 in
theorem gL_share_X8_share : GoodIn wsL_share (wsV RL 81 RX8 yX8_share wsX8_share) := goodIn_app (goodIn_of _ (by decide +kernel)) ggL_share_X8_share
theorem dL_share_0 : decode cL_share 0 = .ok (.aload_n 3, 1) := by decide +kernel
theorem dL_share_1 : decode cL_share 1 = .ok (.iconst 0, 1) := by decide +kernel
theorem dL_share_2 : decode cL_share 2 = .ok (.aload_n 0, 1) := by decide +kernel
theorem dL_share_3 : decode cL_share 3 = .ok (.iload_n 1, 1) := by decide +kernel
theorem dL_share_4 : decode cL_share 4 = .ok (.iload_n 2, 1) := by decide +kernel
theorem dL_share_5 : decode cL_share 5 = .ok (.invokevirtual 81, 3) := by decide +kernel
theorem dL_share_8 : decode cL_share 8 = .ok (.dastore, 1) := by decide +kernel
theorem dL_share_9 : decode cL_share 9 = .ok (.goto 11, 3) := by decide +kernel
theorem dL_share_12 : decode cL_share 12 = .ok (.astore 4, 2) := by decide +kernel
theorem dL_share_14 : decode cL_share 14 = .ok (.iconst 1, 1) := by decide +kernel
theorem dL_share_15 : decode cL_share 15 = .ok (.ireturn, 1) := by decide +kernel
theorem dL_share_16 : decode cL_share 16 = .ok (.astore 4, 2) := by decide +kernel
theorem dL_share_18 : decode cL_share 18 = .ok (.iconst 2, 1) := by decide +kernel
theorem dL_share_19 : decode cL_share 19 = .ok (.ireturn, 1) := by decide +kernel
theorem dL_share_20 : decode cL_share 20 = .ok (.iconst 0, 1) := by decide +kernel
theorem dL_share_21 : decode cL_share 21 = .ok (.ireturn, 1) := by decide +kernel
set_option maxRecDepth 20000 in
theorem ggL_tryHinge_X8_tryHinge : GoodIn wsL_tryHinge wsX8_tryHinge := goodIn_ca (goodIn_ca (goodIn_r _ [7, 8, 9, 10, 11, 12, 6, 13, 14, 15, 16, 17, 18, 19, 20, 21, 22, 23, 24, 25, 26, 27, 28, 29, 30, 31, 32, 33, 34, 35, 36, 37, 38, 39, 40, 41, 42, 43, 44, 45, 46, 47, 48, 49, 50, 51, 52, 53, 54, 55, 56, 57, 58, 59, 60, 61, 62, 63, 64, 65, 66, 67, 68, 69, 70, 71, 72, 73, 74, 75, 76, 77, 78, 79, 80, 81, 82, 83, 84, 85, 86, 87, 88, 89, 90, 91, 92, 93, 94, 95, 96, 97, 98, 99, 100, 101, 102, 103, 104, 105, 106, 107, 108, 109, 110, 111, 112, 113, 114, 115, 116, 117, 118, 119, 120, 121, 122, 123, 124, 125, 126, 127, 128, 129, 130, 131, 132, 133, 134, 135, 136, 137, 138, 139, 140, 141, 142, 143, 144, 145, 146, 147, 148, 149, 150, 151, 152, 153, 154, 155, 156, 157, 158, 159, 160, 161, 162, 163, 164, 165, 166, 167, 168, 169, 170, 171, 172, 173, 174, 175, 176, 177, 178, 179, 180] (by decide +kernel) (by decide +kernel)) (goodIn_sub (fun _ h => List.mem_cons_of_mem _ (List.mem_append_left _ (List.mem_append_right _ h))) (by decide +kernel))) (goodIn_sub (fun _ h => List.mem_cons_of_mem _ (List.mem_append_right _ h)) (by decide +kernel))
set_option maxRecDepth 20000 in
theorem gL_tryHinge_X8_tryHinge : GoodIn wsL_tryHinge (wsV RL 85 RX8 yX8_tryHinge wsX8_tryHinge) := goodIn_app (goodIn_of _ (by decide +kernel)) ggL_tryHinge_X8_tryHinge
theorem dL_tryHinge_0 : decode cL_tryHinge 0 = .ok (.aload_n 3, 1) := by decide +kernel
theorem dL_tryHinge_1 : decode cL_tryHinge 1 = .ok (.iconst 0, 1) := by decide +kernel
theorem dL_tryHinge_2 : decode cL_tryHinge 2 = .ok (.aload_n 0, 1) := by decide +kernel
theorem dL_tryHinge_3 : decode cL_tryHinge 3 = .ok (.iload_n 1, 1) := by decide +kernel
theorem dL_tryHinge_4 : decode cL_tryHinge 4 = .ok (.iload_n 2, 1) := by decide +kernel
theorem dL_tryHinge_5 : decode cL_tryHinge 5 = .ok (.invokevirtual 85, 3) := by decide +kernel
theorem dL_tryHinge_8 : decode cL_tryHinge 8 = .ok (.i2l, 1) := by decide +kernel
theorem dL_tryHinge_9 : decode cL_tryHinge 9 = .ok (.lastore, 1) := by decide +kernel
theorem dL_tryHinge_10 : decode cL_tryHinge 10 = .ok (.goto 11, 3) := by decide +kernel
theorem dL_tryHinge_13 : decode cL_tryHinge 13 = .ok (.astore 4, 2) := by decide +kernel
theorem dL_tryHinge_15 : decode cL_tryHinge 15 = .ok (.iconst 1, 1) := by decide +kernel
theorem dL_tryHinge_16 : decode cL_tryHinge 16 = .ok (.ireturn, 1) := by decide +kernel
theorem dL_tryHinge_17 : decode cL_tryHinge 17 = .ok (.astore 4, 2) := by decide +kernel
theorem dL_tryHinge_19 : decode cL_tryHinge 19 = .ok (.iconst 2, 1) := by decide +kernel
theorem dL_tryHinge_20 : decode cL_tryHinge 20 = .ok (.ireturn, 1) := by decide +kernel
theorem dL_tryHinge_21 : decode cL_tryHinge 21 = .ok (.iconst 0, 1) := by decide +kernel
theorem dL_tryHinge_22 : decode cL_tryHinge 22 = .ok (.ireturn, 1) := by decide +kernel
set_option maxRecDepth 20000 in
theorem ggL_bestHinge_X8_bestHinge : GoodIn wsL_bestHinge wsX8_bestHinge := goodIn_ca (goodIn_r _ [6, 7, 8, 9, 10, 11, 12, 13, 14, 15, 16, 17, 18, 5, 19, 20, 21, 22, 23, 24, 25, 26, 27, 28, 29, 30, 31, 32, 33, 34, 35, 36, 37, 38, 39, 40, 41, 42, 43, 44, 45, 46, 47, 48, 49, 50, 51, 52, 53, 54, 55, 56, 57, 58, 59, 60, 61, 62, 63, 64, 65, 66, 67, 68, 69, 70, 71, 72, 73, 74, 75, 76, 77, 78, 79, 80, 81, 82, 83, 84, 85, 86, 87, 88, 89, 90, 91, 92, 93, 94, 95, 96, 97, 98, 99, 100, 101, 102, 103, 104, 105, 106, 107, 108, 109, 110, 111, 112, 113, 114, 115, 116, 117, 118, 119, 120, 121, 122, 123, 124, 125, 126, 127, 128, 129, 130, 131, 132, 133, 134, 135, 136, 137, 138, 139, 140, 141, 142, 143, 144, 145, 146, 147, 148, 149, 150, 151, 152, 153, 154, 155, 156, 157, 158, 159, 160, 161, 162, 163, 164, 165, 166, 167, 168, 169, 170, 171, 172, 173, 174, 175, 176, 177, 178, 179, 180, 181, 182, 183, 184, 185, 186, 187, 188, 189, 190, 191, 192, 193, 194, 195, 196, 197, 198, 199, 200, 201, 202, 203, 204, 205, 206, 207, 208, 209, 210, 211, 212, 213, 214, 215, 216, 217, 218, 219, 220, 221, 222, 223, 224, 225, 226, 227, 228, 229, 230, 231, 232, 233, 234, 235, 236, 237, 238, 239, 240, 241, 242, 243, 244, 245, 246, 247, 248, 249, 250, 251, 252, 253, 254, 255, 256, 257, 258, 259, 260, 261, 262, 263, 264, 265] (by decide +kernel) (by decide +kernel)) (goodIn_sub (fun _ h => List.mem_cons_of_mem _ (List.mem_append_right _ h)) (by decide +kernel))
set_option maxRecDepth 20000 in
theorem gL_bestHinge_X8_bestHinge : GoodIn wsL_bestHinge (wsV RL 88 RX8 yX8_bestHinge wsX8_bestHinge) := goodIn_app (goodIn_of _ (by decide +kernel)) ggL_bestHinge_X8_bestHinge
theorem dL_bestHinge_0 : decode cL_bestHinge 0 = .ok (.aload_n 2, 1) := by decide +kernel
theorem dL_bestHinge_1 : decode cL_bestHinge 1 = .ok (.iconst 0, 1) := by decide +kernel
theorem dL_bestHinge_2 : decode cL_bestHinge 2 = .ok (.aload_n 0, 1) := by decide +kernel
theorem dL_bestHinge_3 : decode cL_bestHinge 3 = .ok (.iload_n 1, 1) := by decide +kernel
theorem dL_bestHinge_4 : decode cL_bestHinge 4 = .ok (.invokevirtual 88, 3) := by decide +kernel
theorem dL_bestHinge_7 : decode cL_bestHinge 7 = .ok (.i2l, 1) := by decide +kernel
theorem dL_bestHinge_8 : decode cL_bestHinge 8 = .ok (.lastore, 1) := by decide +kernel
theorem dL_bestHinge_9 : decode cL_bestHinge 9 = .ok (.goto 6, 3) := by decide +kernel
theorem dL_bestHinge_12 : decode cL_bestHinge 12 = .ok (.astore_n 3, 1) := by decide +kernel
theorem dL_bestHinge_13 : decode cL_bestHinge 13 = .ok (.iconst 1, 1) := by decide +kernel
theorem dL_bestHinge_14 : decode cL_bestHinge 14 = .ok (.ireturn, 1) := by decide +kernel
theorem dL_bestHinge_15 : decode cL_bestHinge 15 = .ok (.iconst 0, 1) := by decide +kernel
theorem dL_bestHinge_16 : decode cL_bestHinge 16 = .ok (.ireturn, 1) := by decide +kernel
set_option maxRecDepth 20000 in
theorem ggL_moveSupport_X8_moveSupport : GoodIn wsL_moveSupport wsX8_moveSupport := goodIn_ca (goodIn_r _ [6, 7, 8, 9, 10, 11, 12, 13, 5, 14, 15, 16, 17, 18, 19, 20, 21, 22, 23, 24, 25, 26, 27, 28, 29, 30, 31, 32, 33, 34, 35, 36, 37, 38, 39, 40, 41, 42, 43, 44, 45, 46, 47, 48, 49, 50, 51, 52, 53, 54, 55, 56, 57, 58, 59, 60, 61, 62, 63, 64, 65, 66, 67, 68, 69, 70, 71, 72, 73, 74, 75, 76, 77, 78, 79, 80, 81, 82, 83, 84, 85, 86, 87, 88, 89, 90, 91, 92, 93, 94, 95, 96, 97, 98, 99, 100, 101, 102, 103, 104, 105, 106, 107, 108, 109, 110, 111, 112, 113, 114, 115, 116, 117, 118, 119, 120, 121, 122, 123, 124, 125, 126, 127, 128, 129, 130, 131, 132, 133, 134, 135, 136, 137, 138, 139, 140, 141, 142, 143, 144, 145, 146, 147, 148, 149, 150, 151, 152, 153, 154, 155, 156, 157, 158, 159, 160, 161, 162, 163, 164, 165, 166, 167, 168, 169, 170, 171, 172, 173, 174, 175, 176, 177, 178, 179, 180, 181, 182, 183, 184, 185, 186, 187, 188, 189, 190, 191, 192, 193] (by decide +kernel) (by decide +kernel)) (goodIn_sub (fun _ h => List.mem_cons_of_mem _ (List.mem_append_right _ h)) (by decide +kernel))
set_option maxRecDepth 20000 in
theorem gL_moveSupport_X8_moveSupport : GoodIn wsL_moveSupport (wsV RL 91 RX8 yX8_moveSupport wsX8_moveSupport) := goodIn_app (goodIn_of _ (by decide +kernel)) ggL_moveSupport_X8_moveSupport
theorem dL_moveSupport_0 : decode cL_moveSupport 0 = .ok (.aload_n 3, 1) := by decide +kernel
theorem dL_moveSupport_1 : decode cL_moveSupport 1 = .ok (.iconst 0, 1) := by decide +kernel
theorem dL_moveSupport_2 : decode cL_moveSupport 2 = .ok (.aload_n 0, 1) := by decide +kernel
theorem dL_moveSupport_3 : decode cL_moveSupport 3 = .ok (.iload_n 1, 1) := by decide +kernel
theorem dL_moveSupport_4 : decode cL_moveSupport 4 = .ok (.iload_n 2, 1) := by decide +kernel
theorem dL_moveSupport_5 : decode cL_moveSupport 5 = .ok (.invokevirtual 91, 3) := by decide +kernel
theorem dL_moveSupport_8 : decode cL_moveSupport 8 = .ok (.i2l, 1) := by decide +kernel
theorem dL_moveSupport_9 : decode cL_moveSupport 9 = .ok (.lastore, 1) := by decide +kernel
theorem dL_moveSupport_10 : decode cL_moveSupport 10 = .ok (.goto 7, 3) := by decide +kernel
theorem dL_moveSupport_13 : decode cL_moveSupport 13 = .ok (.astore 4, 2) := by decide +kernel
theorem dL_moveSupport_15 : decode cL_moveSupport 15 = .ok (.iconst 1, 1) := by decide +kernel
theorem dL_moveSupport_16 : decode cL_moveSupport 16 = .ok (.ireturn, 1) := by decide +kernel
theorem dL_moveSupport_17 : decode cL_moveSupport 17 = .ok (.iconst 0, 1) := by decide +kernel
theorem dL_moveSupport_18 : decode cL_moveSupport 18 = .ok (.ireturn, 1) := by decide +kernel
set_option maxRecDepth 20000 in
theorem ggL_moveHinge_X8_moveHinge : GoodIn wsL_moveHinge wsX8_moveHinge := goodIn_ca (goodIn_ca (goodIn_r _ [7, 8, 9, 10, 11, 12, 6, 13, 14, 15, 16, 17, 18, 19, 20, 21, 22, 23, 24, 25, 26, 27, 28, 29, 30, 31, 32, 33, 34, 35, 36, 37, 38, 39, 40, 41, 42, 43, 44, 45, 46, 47, 48, 49, 50, 51, 52, 53, 54, 55, 56, 57, 58, 59, 60, 61, 62, 63, 64, 65, 66, 67, 68, 69, 70, 71, 72, 73, 74, 75, 76, 77, 78, 79, 80, 81, 82, 83, 84, 85, 86, 87, 88, 89, 90, 91, 92, 93, 94, 95, 96, 97, 98, 99, 100, 101, 102, 103, 104, 105, 106, 107, 108, 109, 110, 111, 112, 113, 114, 115, 116, 117, 118, 119, 120, 121, 122, 123, 124, 125, 126, 127, 128, 129, 130, 131, 132, 133, 134, 135, 136, 137, 138, 139, 140, 141, 142, 143, 144, 145, 146, 147, 148, 149, 150, 151, 152, 153, 154, 155, 156, 157, 158, 159, 160, 161, 162, 163, 164, 165, 166, 167, 168, 169, 170, 171, 172, 173, 174, 175, 176, 177, 178, 179, 180, 181, 182, 183, 184, 185, 186, 187, 188, 189, 190, 191, 192, 193, 194, 195, 196, 197, 198, 199, 200] (by decide +kernel) (by decide +kernel)) (goodIn_sub (fun _ h => List.mem_cons_of_mem _ (List.mem_append_left _ (List.mem_append_right _ h))) (by decide +kernel))) (goodIn_sub (fun _ h => List.mem_cons_of_mem _ (List.mem_append_right _ h)) (by decide +kernel))
set_option maxRecDepth 20000 in
theorem gL_moveHinge_X8_moveHinge : GoodIn wsL_moveHinge (wsV RL 94 RX8 yX8_moveHinge wsX8_moveHinge) := goodIn_app (goodIn_of _ (by decide +kernel)) ggL_moveHinge_X8_moveHinge
theorem dL_moveHinge_0 : decode cL_moveHinge 0 = .ok (.aload_n 3, 1) := by decide +kernel
theorem dL_moveHinge_1 : decode cL_moveHinge 1 = .ok (.iconst 0, 1) := by decide +kernel
theorem dL_moveHinge_2 : decode cL_moveHinge 2 = .ok (.aload_n 0, 1) := by decide +kernel
theorem dL_moveHinge_3 : decode cL_moveHinge 3 = .ok (.iload_n 1, 1) := by decide +kernel
theorem dL_moveHinge_4 : decode cL_moveHinge 4 = .ok (.iload_n 2, 1) := by decide +kernel
theorem dL_moveHinge_5 : decode cL_moveHinge 5 = .ok (.invokevirtual 94, 3) := by decide +kernel
theorem dL_moveHinge_8 : decode cL_moveHinge 8 = .ok (.i2l, 1) := by decide +kernel
theorem dL_moveHinge_9 : decode cL_moveHinge 9 = .ok (.lastore, 1) := by decide +kernel
theorem dL_moveHinge_10 : decode cL_moveHinge 10 = .ok (.goto 11, 3) := by decide +kernel
theorem dL_moveHinge_13 : decode cL_moveHinge 13 = .ok (.astore 4, 2) := by decide +kernel
theorem dL_moveHinge_15 : decode cL_moveHinge 15 = .ok (.iconst 1, 1) := by decide +kernel
theorem dL_moveHinge_16 : decode cL_moveHinge 16 = .ok (.ireturn, 1) := by decide +kernel
theorem dL_moveHinge_17 : decode cL_moveHinge 17 = .ok (.astore 4, 2) := by decide +kernel
theorem dL_moveHinge_19 : decode cL_moveHinge 19 = .ok (.iconst 2, 1) := by decide +kernel
theorem dL_moveHinge_20 : decode cL_moveHinge 20 = .ok (.ireturn, 1) := by decide +kernel
theorem dL_moveHinge_21 : decode cL_moveHinge 21 = .ok (.iconst 0, 1) := by decide +kernel
theorem dL_moveHinge_22 : decode cL_moveHinge 22 = .ok (.ireturn, 1) := by decide +kernel
set_option maxRecDepth 20000 in
theorem ggL_addLoad_X8_addLoad : GoodIn wsL_addLoad wsX8_addLoad := goodIn_ca (goodIn_ca (goodIn_r _ [7, 8, 9, 10, 11, 12, 6, 13, 14, 15, 16, 17, 18, 19, 20, 21, 22, 23, 24, 25, 26, 27, 28, 29, 30, 31, 32, 33, 34, 35, 36, 37, 38, 39, 40, 41, 42, 43, 44, 45, 46, 47, 48, 49, 50, 51, 52, 53, 54, 55, 56, 57, 58, 59, 60, 61, 62, 63, 64, 65, 66, 67, 68, 69, 70, 71, 72, 73, 74, 75, 76, 77, 78, 79, 80, 81, 82, 83, 84, 85, 86, 87, 88, 89, 90, 91, 92, 93, 94, 95, 96, 97, 98, 99, 100, 101, 102, 103, 104, 105, 106, 107, 108, 109, 110, 111, 112, 113, 114] (by decide +kernel) (by decide +kernel)) (goodIn_sub (fun _ h => List.mem_cons_of_mem _ (List.mem_append_left _ (List.mem_append_right _ h))) (by decide +kernel))) (goodIn_sub (fun _ h => List.mem_cons_of_mem _ (List.mem_append_right _ h)) (by decide +kernel))
set_option maxRecDepth 20000 in
theorem gL_addLoad_X8_addLoad : GoodIn wsL_addLoad (wsV RL 97 RX8 yX8_addLoad wsX8_addLoad) := goodIn_app (goodIn_of _ (by decide +kernel)) ggL_addLoad_X8_addLoad
theorem dL_addLoad_0 : decode cL_addLoad 0 = .ok (.aload_n 3, 1) := by decide +kernel
theorem dL_addLoad_1 : decode cL_addLoad 1 = .ok (.iconst 0, 1) := by decide +kernel
theorem dL_addLoad_2 : decode cL_addLoad 2 = .ok (.aload_n 0, 1) := by decide +kernel
theorem dL_addLoad_3 : decode cL_addLoad 3 = .ok (.iload_n 1, 1) := by decide +kernel
theorem dL_addLoad_4 : decode cL_addLoad 4 = .ok (.iload_n 2, 1) := by decide +kernel
theorem dL_addLoad_5 : decode cL_addLoad 5 = .ok (.invokevirtual 97, 3) := by decide +kernel
theorem dL_addLoad_8 : decode cL_addLoad 8 = .ok (.i2l, 1) := by decide +kernel
theorem dL_addLoad_9 : decode cL_addLoad 9 = .ok (.lastore, 1) := by decide +kernel
theorem dL_addLoad_10 : decode cL_addLoad 10 = .ok (.goto 11, 3) := by decide +kernel
theorem dL_addLoad_13 : decode cL_addLoad 13 = .ok (.astore 4, 2) := by decide +kernel
theorem dL_addLoad_15 : decode cL_addLoad 15 = .ok (.iconst 1, 1) := by decide +kernel
theorem dL_addLoad_16 : decode cL_addLoad 16 = .ok (.ireturn, 1) := by decide +kernel
theorem dL_addLoad_17 : decode cL_addLoad 17 = .ok (.astore 4, 2) := by decide +kernel
theorem dL_addLoad_19 : decode cL_addLoad 19 = .ok (.iconst 2, 1) := by decide +kernel
theorem dL_addLoad_20 : decode cL_addLoad 20 = .ok (.ireturn, 1) := by decide +kernel
theorem dL_addLoad_21 : decode cL_addLoad 21 = .ok (.iconst 0, 1) := by decide +kernel
theorem dL_addLoad_22 : decode cL_addLoad 22 = .ok (.ireturn, 1) := by decide +kernel
set_option maxRecDepth 20000 in
theorem ggL_dropLoad_X8_dropLoad : GoodIn wsL_dropLoad wsX8_dropLoad := goodIn_ca (goodIn_r _ [6, 7, 8, 9, 10, 11, 5, 12, 13, 14, 15, 16, 17, 18, 19, 20, 21, 22, 23, 24, 25, 26, 27, 28, 29, 30, 31, 32, 33, 34, 35, 36, 37, 38, 39, 40, 41, 42, 43, 44, 45, 46, 47, 48, 49, 50, 51, 52, 53, 54, 55, 56, 57, 58, 59, 60, 61, 62, 63, 64, 65, 66, 67, 68, 69, 70, 71, 72, 73, 74, 75, 76, 77, 78, 79, 80, 81, 82, 83, 84, 85, 86, 87, 88, 89, 90, 91, 92, 93, 94, 95, 96] (by decide +kernel) (by decide +kernel)) (goodIn_sub (fun _ h => List.mem_cons_of_mem _ (List.mem_append_right _ h)) (by decide +kernel))
set_option maxRecDepth 20000 in
theorem gL_dropLoad_X8_dropLoad : GoodIn wsL_dropLoad (wsV RL 100 RX8 yX8_dropLoad wsX8_dropLoad) := goodIn_app (goodIn_of _ (by decide +kernel)) ggL_dropLoad_X8_dropLoad
theorem dL_dropLoad_0 : decode cL_dropLoad 0 = .ok (.aload_n 2, 1) := by decide +kernel
theorem dL_dropLoad_1 : decode cL_dropLoad 1 = .ok (.iconst 0, 1) := by decide +kernel
theorem dL_dropLoad_2 : decode cL_dropLoad 2 = .ok (.aload_n 0, 1) := by decide +kernel
theorem dL_dropLoad_3 : decode cL_dropLoad 3 = .ok (.iload_n 1, 1) := by decide +kernel
theorem dL_dropLoad_4 : decode cL_dropLoad 4 = .ok (.invokevirtual 100, 3) := by decide +kernel
theorem dL_dropLoad_7 : decode cL_dropLoad 7 = .ok (.i2l, 1) := by decide +kernel
theorem dL_dropLoad_8 : decode cL_dropLoad 8 = .ok (.lastore, 1) := by decide +kernel
theorem dL_dropLoad_9 : decode cL_dropLoad 9 = .ok (.goto 6, 3) := by decide +kernel
theorem dL_dropLoad_12 : decode cL_dropLoad 12 = .ok (.astore_n 3, 1) := by decide +kernel
theorem dL_dropLoad_13 : decode cL_dropLoad 13 = .ok (.iconst 1, 1) := by decide +kernel
theorem dL_dropLoad_14 : decode cL_dropLoad 14 = .ok (.ireturn, 1) := by decide +kernel
theorem dL_dropLoad_15 : decode cL_dropLoad 15 = .ok (.iconst 0, 1) := by decide +kernel
theorem dL_dropLoad_16 : decode cL_dropLoad 16 = .ok (.ireturn, 1) := by decide +kernel
set_option maxRecDepth 20000 in
theorem ggL_addAxle_X8_addAxle : GoodIn wsL_addAxle wsX8_addAxle := goodIn_ca (goodIn_r _ [6, 7, 8, 9, 10, 11, 5, 12, 13, 14, 15, 16, 17, 18, 19, 20, 21, 22, 23, 24, 25, 26, 27, 28, 29, 30, 31, 32, 33, 34, 35, 36, 37, 38, 39, 40, 41, 42, 43, 44, 45, 46, 47, 48, 49, 50, 51, 52, 53, 54, 55, 56, 57, 58, 59, 60, 61, 62, 63, 64, 65, 66, 67, 68, 69, 70, 71, 72, 73, 74, 75, 76, 77, 78, 79, 80, 81, 82, 83, 84, 85, 86, 87, 88, 89, 90, 91, 92, 93, 94, 95, 96, 97, 98, 99, 100, 101, 102, 103] (by decide +kernel) (by decide +kernel)) (goodIn_sub (fun _ h => List.mem_cons_of_mem _ (List.mem_append_right _ h)) (by decide +kernel))
set_option maxRecDepth 20000 in
theorem gL_addAxle_X8_addAxle : GoodIn wsL_addAxle (wsV RL 103 RX8 yX8_addAxle wsX8_addAxle) := goodIn_app (goodIn_of _ (by decide +kernel)) ggL_addAxle_X8_addAxle
theorem dL_addAxle_0 : decode cL_addAxle 0 = .ok (.aload_n 3, 1) := by decide +kernel
theorem dL_addAxle_1 : decode cL_addAxle 1 = .ok (.iconst 0, 1) := by decide +kernel
theorem dL_addAxle_2 : decode cL_addAxle 2 = .ok (.aload_n 0, 1) := by decide +kernel
theorem dL_addAxle_3 : decode cL_addAxle 3 = .ok (.iload_n 1, 1) := by decide +kernel
theorem dL_addAxle_4 : decode cL_addAxle 4 = .ok (.iload_n 2, 1) := by decide +kernel
theorem dL_addAxle_5 : decode cL_addAxle 5 = .ok (.invokevirtual 103, 3) := by decide +kernel
theorem dL_addAxle_8 : decode cL_addAxle 8 = .ok (.i2l, 1) := by decide +kernel
theorem dL_addAxle_9 : decode cL_addAxle 9 = .ok (.lastore, 1) := by decide +kernel
theorem dL_addAxle_10 : decode cL_addAxle 10 = .ok (.goto 7, 3) := by decide +kernel
theorem dL_addAxle_13 : decode cL_addAxle 13 = .ok (.astore 4, 2) := by decide +kernel
theorem dL_addAxle_15 : decode cL_addAxle 15 = .ok (.iconst 1, 1) := by decide +kernel
theorem dL_addAxle_16 : decode cL_addAxle 16 = .ok (.ireturn, 1) := by decide +kernel
theorem dL_addAxle_17 : decode cL_addAxle 17 = .ok (.iconst 0, 1) := by decide +kernel
theorem dL_addAxle_18 : decode cL_addAxle 18 = .ok (.ireturn, 1) := by decide +kernel
set_option maxRecDepth 20000 in
theorem ggL_dropAxle_X8_dropAxle : GoodIn wsL_dropAxle wsX8_dropAxle := goodIn_ca (goodIn_r _ [6, 7, 8, 9, 10, 11, 5, 12, 13, 14, 15, 16, 17, 18, 19, 20, 21, 22, 23, 24, 25, 26, 27, 28, 29, 30, 31, 32, 33, 34, 35, 36, 37, 38, 39, 40, 41, 42, 43, 44, 45, 46, 47, 48, 49, 50, 51, 52, 53, 54, 55, 56, 57, 58, 59, 60, 61, 62, 63, 64, 65, 66, 67, 68, 69, 70, 71, 72, 73, 74, 75, 76, 77, 78, 79, 80, 81, 82, 83, 84, 85, 86, 87, 88, 89, 90, 91, 92, 93, 94, 95, 96] (by decide +kernel) (by decide +kernel)) (goodIn_sub (fun _ h => List.mem_cons_of_mem _ (List.mem_append_right _ h)) (by decide +kernel))
set_option maxRecDepth 20000 in
theorem gL_dropAxle_X8_dropAxle : GoodIn wsL_dropAxle (wsV RL 106 RX8 yX8_dropAxle wsX8_dropAxle) := goodIn_app (goodIn_of _ (by decide +kernel)) ggL_dropAxle_X8_dropAxle
theorem dL_dropAxle_0 : decode cL_dropAxle 0 = .ok (.aload_n 2, 1) := by decide +kernel
theorem dL_dropAxle_1 : decode cL_dropAxle 1 = .ok (.iconst 0, 1) := by decide +kernel
theorem dL_dropAxle_2 : decode cL_dropAxle 2 = .ok (.aload_n 0, 1) := by decide +kernel
theorem dL_dropAxle_3 : decode cL_dropAxle 3 = .ok (.iload_n 1, 1) := by decide +kernel
theorem dL_dropAxle_4 : decode cL_dropAxle 4 = .ok (.invokevirtual 106, 3) := by decide +kernel
theorem dL_dropAxle_7 : decode cL_dropAxle 7 = .ok (.i2l, 1) := by decide +kernel
theorem dL_dropAxle_8 : decode cL_dropAxle 8 = .ok (.lastore, 1) := by decide +kernel
theorem dL_dropAxle_9 : decode cL_dropAxle 9 = .ok (.goto 6, 3) := by decide +kernel
theorem dL_dropAxle_12 : decode cL_dropAxle 12 = .ok (.astore_n 3, 1) := by decide +kernel
theorem dL_dropAxle_13 : decode cL_dropAxle 13 = .ok (.iconst 1, 1) := by decide +kernel
theorem dL_dropAxle_14 : decode cL_dropAxle 14 = .ok (.ireturn, 1) := by decide +kernel
theorem dL_dropAxle_15 : decode cL_dropAxle 15 = .ok (.iconst 0, 1) := by decide +kernel
theorem dL_dropAxle_16 : decode cL_dropAxle 16 = .ok (.ireturn, 1) := by decide +kernel
set_option maxRecDepth 20000 in
theorem ggL_setBearing_X8_setBearing : GoodIn wsL_setBearing wsX8_setBearing := goodIn_ca (goodIn_ca (goodIn_r _ [7, 8, 9, 10, 11, 12, 13, 14, 6, 15, 16, 17, 18, 19, 20, 21, 22, 23, 24, 25, 26, 27, 28, 29, 30, 31, 32, 33, 34, 35, 36, 37, 38, 39, 40, 41, 42, 43, 44, 45, 46, 47, 48, 49, 50, 51, 52, 53, 54, 55, 56, 57, 58, 59, 60, 61, 62, 63, 64, 65, 66, 67, 68, 69, 70, 71, 72, 73, 74, 75, 76, 77, 78, 79, 80, 81, 82, 83, 84, 85, 86, 87, 88, 89, 90, 91, 92, 93, 94, 95, 96, 97, 98, 99, 100] (by decide +kernel) (by decide +kernel)) (goodIn_sub (fun _ h => List.mem_cons_of_mem _ (List.mem_append_left _ (List.mem_append_right _ h))) (by decide +kernel))) (goodIn_sub (fun _ h => List.mem_cons_of_mem _ (List.mem_append_right _ h)) (by decide +kernel))
set_option maxRecDepth 20000 in
theorem gL_setBearing_X8_setBearing : GoodIn wsL_setBearing (wsV RL 109 RX8 yX8_setBearing wsX8_setBearing) := goodIn_app (goodIn_of _ (by decide +kernel)) ggL_setBearing_X8_setBearing
theorem dL_setBearing_0 : decode cL_setBearing 0 = .ok (.aload_n 3, 1) := by decide +kernel
theorem dL_setBearing_1 : decode cL_setBearing 1 = .ok (.iconst 0, 1) := by decide +kernel
theorem dL_setBearing_2 : decode cL_setBearing 2 = .ok (.aload_n 0, 1) := by decide +kernel
theorem dL_setBearing_3 : decode cL_setBearing 3 = .ok (.iload_n 1, 1) := by decide +kernel
theorem dL_setBearing_4 : decode cL_setBearing 4 = .ok (.iload_n 2, 1) := by decide +kernel
theorem dL_setBearing_5 : decode cL_setBearing 5 = .ok (.invokevirtual 109, 3) := by decide +kernel
theorem dL_setBearing_8 : decode cL_setBearing 8 = .ok (.i2l, 1) := by decide +kernel
theorem dL_setBearing_9 : decode cL_setBearing 9 = .ok (.lastore, 1) := by decide +kernel
theorem dL_setBearing_10 : decode cL_setBearing 10 = .ok (.goto 11, 3) := by decide +kernel
theorem dL_setBearing_13 : decode cL_setBearing 13 = .ok (.astore 4, 2) := by decide +kernel
theorem dL_setBearing_15 : decode cL_setBearing 15 = .ok (.iconst 1, 1) := by decide +kernel
theorem dL_setBearing_16 : decode cL_setBearing 16 = .ok (.ireturn, 1) := by decide +kernel
theorem dL_setBearing_17 : decode cL_setBearing 17 = .ok (.astore 4, 2) := by decide +kernel
theorem dL_setBearing_19 : decode cL_setBearing 19 = .ok (.iconst 2, 1) := by decide +kernel
theorem dL_setBearing_20 : decode cL_setBearing 20 = .ok (.ireturn, 1) := by decide +kernel
theorem dL_setBearing_21 : decode cL_setBearing 21 = .ok (.iconst 0, 1) := by decide +kernel
theorem dL_setBearing_22 : decode cL_setBearing 22 = .ok (.ireturn, 1) := by decide +kernel
set_option maxRecDepth 20000 in
theorem ggL_setMost_X8_setMost : GoodIn wsL_setMost wsX8_setMost := goodIn_ca (goodIn_r _ [6, 7, 8, 9, 10, 11, 12, 13, 5, 14, 15, 16, 17, 18, 19, 20, 21, 22, 23, 24, 25, 26, 27, 28, 29, 30, 31, 32, 33, 34, 35, 36, 37, 38, 39, 40, 41, 42, 43, 44, 45, 46, 47, 48, 49, 50, 51, 52, 53, 54, 55, 56, 57, 58, 59, 60, 61, 62, 63, 64, 65, 66, 67, 68, 69, 70, 71, 72, 73, 74, 75, 76, 77, 78, 79, 80, 81, 82, 83, 84, 85, 86, 87] (by decide +kernel) (by decide +kernel)) (goodIn_sub (fun _ h => List.mem_cons_of_mem _ (List.mem_append_right _ h)) (by decide +kernel))
set_option maxRecDepth 20000 in
theorem gL_setMost_X8_setMost : GoodIn wsL_setMost (wsV RL 112 RX8 yX8_setMost wsX8_setMost) := goodIn_app (goodIn_of _ (by decide +kernel)) ggL_setMost_X8_setMost
theorem dL_setMost_0 : decode cL_setMost 0 = .ok (.aload_n 2, 1) := by decide +kernel
theorem dL_setMost_1 : decode cL_setMost 1 = .ok (.iconst 0, 1) := by decide +kernel
theorem dL_setMost_2 : decode cL_setMost 2 = .ok (.aload_n 0, 1) := by decide +kernel
theorem dL_setMost_3 : decode cL_setMost 3 = .ok (.iload_n 1, 1) := by decide +kernel
theorem dL_setMost_4 : decode cL_setMost 4 = .ok (.invokevirtual 112, 3) := by decide +kernel
theorem dL_setMost_7 : decode cL_setMost 7 = .ok (.i2l, 1) := by decide +kernel
theorem dL_setMost_8 : decode cL_setMost 8 = .ok (.lastore, 1) := by decide +kernel
theorem dL_setMost_9 : decode cL_setMost 9 = .ok (.goto 6, 3) := by decide +kernel
theorem dL_setMost_12 : decode cL_setMost 12 = .ok (.astore_n 3, 1) := by decide +kernel
theorem dL_setMost_13 : decode cL_setMost 13 = .ok (.iconst 1, 1) := by decide +kernel
theorem dL_setMost_14 : decode cL_setMost 14 = .ok (.ireturn, 1) := by decide +kernel
theorem dL_setMost_15 : decode cL_setMost 15 = .ok (.iconst 0, 1) := by decide +kernel
theorem dL_setMost_16 : decode cL_setMost 16 = .ok (.ireturn, 1) := by decide +kernel
set_option maxRecDepth 20000 in
theorem ggL_undo_X8_undo : GoodIn wsL_undo wsX8_undo := goodIn_ca (goodIn_r _ [6, 7, 8, 9, 10, 11, 12, 13, 14, 15, 16, 17, 18, 19, 20, 21, 22, 23, 24, 25, 26, 27, 28, 29, 30, 31, 32, 33, 34, 35, 36, 37, 38, 39, 40, 41, 42, 43, 44, 45, 46, 47, 48, 49, 50, 51, 52, 53, 54, 55, 56, 57, 58, 59, 60, 61, 62, 63, 64, 65, 66, 67, 68, 69, 70, 71, 72, 73, 74, 75, 76, 77, 78, 79, 80, 81, 82, 83, 84, 85, 86, 87, 88, 89, 90, 91, 92, 93, 94, 95, 96, 97, 98, 99, 100, 101, 102, 103, 104, 105, 106, 107, 108, 109, 110, 111, 112, 113, 114, 115, 116, 117, 118, 119, 120, 121, 122, 123, 124, 125, 126, 127, 128, 129, 130, 131, 132, 133, 134, 135, 136, 137, 138, 139, 140] (by decide +kernel) (by decide +kernel)) (goodIn_sub (fun _ h => List.mem_cons_of_mem _ (List.mem_append_right _ h)) (by decide +kernel))
set_option maxRecDepth 20000 in
theorem gL_undo_X8_undo : GoodIn wsL_undo (wsV RL 115 RX8 yX8_undo wsX8_undo) := goodIn_app (goodIn_of _ (by decide +kernel)) ggL_undo_X8_undo
theorem dL_undo_0 : decode cL_undo 0 = .ok (.aload_n 1, 1) := by decide +kernel
theorem dL_undo_1 : decode cL_undo 1 = .ok (.iconst 0, 1) := by decide +kernel
theorem dL_undo_2 : decode cL_undo 2 = .ok (.aload_n 0, 1) := by decide +kernel
theorem dL_undo_3 : decode cL_undo 3 = .ok (.invokevirtual 115, 3) := by decide +kernel
theorem dL_undo_6 : decode cL_undo 6 = .ok (.i2l, 1) := by decide +kernel
theorem dL_undo_7 : decode cL_undo 7 = .ok (.lastore, 1) := by decide +kernel
theorem dL_undo_8 : decode cL_undo 8 = .ok (.goto 6, 3) := by decide +kernel
theorem dL_undo_11 : decode cL_undo 11 = .ok (.astore_n 2, 1) := by decide +kernel
theorem dL_undo_12 : decode cL_undo 12 = .ok (.iconst 1, 1) := by decide +kernel
theorem dL_undo_13 : decode cL_undo 13 = .ok (.ireturn, 1) := by decide +kernel
theorem dL_undo_14 : decode cL_undo 14 = .ok (.iconst 0, 1) := by decide +kernel
theorem dL_undo_15 : decode cL_undo 15 = .ok (.ireturn, 1) := by decide +kernel
set_option maxRecDepth 20000 in
theorem ggL_save_X8_save : GoodIn wsL_save wsX8_save := goodIn_ca (goodIn_r _ [6, 7, 8, 9, 10, 11, 12, 5, 13, 14, 15, 16, 17, 18, 19, 20, 21, 22, 23, 24, 25, 26, 27, 28, 29, 30, 31, 32, 33, 34, 35, 36, 37, 38, 39, 40, 41, 42, 43, 44, 45, 46, 47, 48, 49, 50, 51, 52, 53, 54, 55, 56, 57, 58, 59, 60, 61, 62, 63, 64, 65, 66, 67, 68, 69, 70, 71, 72, 73] (by decide +kernel) (by decide +kernel)) (goodIn_sub (fun _ h => List.mem_cons_of_mem _ (List.mem_append_right _ h)) (by decide +kernel))
set_option maxRecDepth 20000 in
theorem gL_save_X8_save : GoodIn wsL_save (wsV RL 119 RX8 yX8_save wsX8_save) := goodIn_app (goodIn_of _ (by decide +kernel)) ggL_save_X8_save
theorem dL_save_0 : decode cL_save 0 = .ok (.aload_n 0, 1) := by decide +kernel
theorem dL_save_1 : decode cL_save 1 = .ok (.iload_n 1, 1) := by decide +kernel
theorem dL_save_2 : decode cL_save 2 = .ok (.invokevirtual 119, 3) := by decide +kernel
theorem dL_save_5 : decode cL_save 5 = .ok (.goto 6, 3) := by decide +kernel
theorem dL_save_8 : decode cL_save 8 = .ok (.astore_n 2, 1) := by decide +kernel
theorem dL_save_9 : decode cL_save 9 = .ok (.iconst 1, 1) := by decide +kernel
theorem dL_save_10 : decode cL_save 10 = .ok (.ireturn, 1) := by decide +kernel
theorem dL_save_11 : decode cL_save 11 = .ok (.iconst 0, 1) := by decide +kernel
theorem dL_save_12 : decode cL_save 12 = .ok (.ireturn, 1) := by decide +kernel
set_option maxRecDepth 20000 in
theorem ggL_restore_X8_restore : GoodIn wsL_restore wsX8_restore := goodIn_ca (goodIn_ca (goodIn_r _ [7, 8, 9, 10, 11, 12, 13, 14, 15, 16, 17, 18, 19, 6, 20, 21, 22, 23, 24, 25, 26, 27, 28, 29, 30, 31, 32, 33, 34, 35, 36, 37, 38, 39, 40, 41, 42, 43, 44, 45, 46, 47, 48, 49, 50, 51, 52, 53, 54, 55, 56, 57, 58, 59, 60, 61, 62, 63, 64, 65, 66, 67, 68, 69, 70, 71, 72, 73, 74, 75, 76, 77, 78, 79, 80, 81, 82, 83, 84, 85, 86, 87, 88, 89, 90, 91, 92, 93, 94, 95, 96, 97, 98, 99, 100, 101, 102, 103, 104, 105, 106, 107, 108, 109, 110, 111, 112, 113, 114, 115, 116, 117, 118, 119, 120, 121, 122, 123, 124, 125, 126, 127, 128, 129, 130, 131, 132, 133, 134, 135, 136, 137, 138, 139, 140, 141, 142, 143, 144, 145, 146, 147, 148, 149, 150, 151, 152, 153, 154, 155] (by decide +kernel) (by decide +kernel)) (goodIn_sub (fun _ h => List.mem_cons_of_mem _ (List.mem_append_left _ (List.mem_append_right _ h))) (by decide +kernel))) (goodIn_sub (fun _ h => List.mem_cons_of_mem _ (List.mem_append_right _ h)) (by decide +kernel))
set_option maxRecDepth 20000 in
theorem gL_restore_X8_restore : GoodIn wsL_restore (wsV RL 123 RX8 yX8_restore wsX8_restore) := goodIn_app (goodIn_of _ (by decide +kernel)) ggL_restore_X8_restore
theorem dL_restore_0 : decode cL_restore 0 = .ok (.aload_n 2, 1) := by decide +kernel
theorem dL_restore_1 : decode cL_restore 1 = .ok (.iconst 0, 1) := by decide +kernel
theorem dL_restore_2 : decode cL_restore 2 = .ok (.aload_n 0, 1) := by decide +kernel
theorem dL_restore_3 : decode cL_restore 3 = .ok (.iload_n 1, 1) := by decide +kernel
theorem dL_restore_4 : decode cL_restore 4 = .ok (.invokevirtual 123, 3) := by decide +kernel
theorem dL_restore_7 : decode cL_restore 7 = .ok (.i2l, 1) := by decide +kernel
theorem dL_restore_8 : decode cL_restore 8 = .ok (.lastore, 1) := by decide +kernel
theorem dL_restore_9 : decode cL_restore 9 = .ok (.goto 9, 3) := by decide +kernel
theorem dL_restore_12 : decode cL_restore 12 = .ok (.astore_n 3, 1) := by decide +kernel
theorem dL_restore_13 : decode cL_restore 13 = .ok (.iconst 1, 1) := by decide +kernel
theorem dL_restore_14 : decode cL_restore 14 = .ok (.ireturn, 1) := by decide +kernel
theorem dL_restore_15 : decode cL_restore 15 = .ok (.astore_n 3, 1) := by decide +kernel
theorem dL_restore_16 : decode cL_restore 16 = .ok (.iconst 2, 1) := by decide +kernel
theorem dL_restore_17 : decode cL_restore 17 = .ok (.ireturn, 1) := by decide +kernel
theorem dL_restore_18 : decode cL_restore 18 = .ok (.iconst 0, 1) := by decide +kernel
theorem dL_restore_19 : decode cL_restore 19 = .ok (.ireturn, 1) := by decide +kernel
set_option maxRecDepth 20000 in
theorem ggL_writtenByte_X8_writtenByte : GoodIn wsL_writtenByte wsX8_writtenByte := goodIn_ca (goodIn_r _ [6, 7, 8, 9, 10, 11, 12, 13, 14, 15, 16, 17, 18, 19, 20, 21, 22, 23, 24] (by decide +kernel) (by decide +kernel)) (goodIn_sub (fun _ h => List.mem_cons_of_mem _ (List.mem_append_right _ h)) (by decide +kernel))
set_option maxRecDepth 20000 in
theorem gL_writtenByte_X8_writtenByte : GoodIn wsL_writtenByte (wsV RL 126 RX8 yX8_writtenByte wsX8_writtenByte) := goodIn_app (goodIn_of _ (by decide +kernel)) ggL_writtenByte_X8_writtenByte
theorem dL_writtenByte_0 : decode cL_writtenByte 0 = .ok (.aload_n 2, 1) := by decide +kernel
theorem dL_writtenByte_1 : decode cL_writtenByte 1 = .ok (.iconst 0, 1) := by decide +kernel
theorem dL_writtenByte_2 : decode cL_writtenByte 2 = .ok (.aload_n 0, 1) := by decide +kernel
theorem dL_writtenByte_3 : decode cL_writtenByte 3 = .ok (.iload_n 1, 1) := by decide +kernel
theorem dL_writtenByte_4 : decode cL_writtenByte 4 = .ok (.invokevirtual 126, 3) := by decide +kernel
theorem dL_writtenByte_7 : decode cL_writtenByte 7 = .ok (.i2l, 1) := by decide +kernel
theorem dL_writtenByte_8 : decode cL_writtenByte 8 = .ok (.lastore, 1) := by decide +kernel
theorem dL_writtenByte_9 : decode cL_writtenByte 9 = .ok (.goto 6, 3) := by decide +kernel
theorem dL_writtenByte_12 : decode cL_writtenByte 12 = .ok (.astore_n 3, 1) := by decide +kernel
theorem dL_writtenByte_13 : decode cL_writtenByte 13 = .ok (.iconst 1, 1) := by decide +kernel
theorem dL_writtenByte_14 : decode cL_writtenByte 14 = .ok (.ireturn, 1) := by decide +kernel
theorem dL_writtenByte_15 : decode cL_writtenByte 15 = .ok (.iconst 0, 1) := by decide +kernel
theorem dL_writtenByte_16 : decode cL_writtenByte 16 = .ok (.ireturn, 1) := by decide +kernel
set_option maxRecDepth 20000 in
theorem ggL_law_X8_init : GoodIn wsL_law wsX8_init := goodIn_r _ [10, 11, 12, 13, 14, 15, 16, 17, 18, 19, 20, 21, 22, 23, 24, 25, 26, 27, 28, 29, 30, 31, 32, 33, 34, 35, 36, 37, 38, 39, 40, 41, 42, 43, 44, 45, 46, 47, 48, 49, 50, 51, 52, 53, 54, 55, 56, 57, 58, 59, 60, 61, 62, 63, 64, 65, 66, 67, 68, 69, 70, 71, 72, 73, 74, 75, 76, 77, 78, 79, 80, 81, 82, 83, 84, 85, 86, 87, 88, 89, 90, 91, 92, 93, 94, 95, 96, 97, 98, 99, 100, 6, 101, 102, 103, 104, 105, 106, 107, 108, 109, 110, 111, 112, 113, 114, 115, 116, 117, 118, 119, 120, 121, 122, 123, 124, 125, 126, 127, 128, 129, 130, 131, 132, 133, 134, 135, 136, 137, 138, 139, 140, 141, 142, 143, 144, 145, 146, 147, 148, 149, 150, 151, 152, 153, 154, 155, 156, 157, 158, 159, 160, 161, 162, 163, 164, 165, 166, 167, 168, 169, 170, 171, 172, 173, 174, 175, 176, 177, 178, 179, 180, 181, 182, 183, 184, 185, 186, 187, 188, 189, 190, 191, 192, 193, 194, 195, 196, 197, 198, 1430, 1431, 1432, 1433, 1434, 1394, 1395, 1396, 1397, 1398, 1399, 1400, 1401, 1402, 1403, 1404, 1405, 1406, 1407, 1435, 1436, 1437, 1438, 1439, 1440, 1441, 1442, 1443, 1444, 1445, 1446, 1447, 1448, 1449, 1450, 1451, 1452, 1453, 1454, 1455, 1456, 1457, 1458, 1459, 1460, 1461, 1462, 1463, 1464] (by decide +kernel) (by decide +kernel)
set_option maxRecDepth 20000 in
theorem gL_law_X8_init : GoodIn wsL_law (wsX8_init) := ggL_law_X8_init
set_option maxRecDepth 20000 in
theorem ggL_law_X9_init : GoodIn wsL_law wsX9_init := goodIn_r _ [201, 202, 12, 13, 68, 203, 204, 205, 206, 43, 207, 208, 209, 6, 210, 211, 212, 213, 1408, 1409, 1410, 1411, 1412, 1413, 1414, 1415, 1416, 1417, 1418, 1419, 1420, 1421, 1422, 1423, 1424, 1425, 1426, 1427, 1428, 1429] (by decide +kernel) (by decide +kernel)
set_option maxRecDepth 20000 in
theorem gL_law_X9_init : GoodIn wsL_law (wsX9_init) := ggL_law_X9_init
set_option maxRecDepth 20000 in
theorem ggL_law_L_append : GoodIn wsL_law wsL_append := goodIn_ca (goodIn_r _ [217, 218, 219, 220, 221, 2, 222, 223, 224, 17, 225, 226, 227, 228, 229, 230, 231, 232, 233, 234, 235, 236, 56, 237, 67, 66, 1394, 1395, 1396, 1397, 1398, 1399, 1400, 1401, 1402, 1403, 1404, 1405, 1406, 1407, 1430, 1431, 1432, 1433, 1434, 1455, 1456, 1457, 1458, 1459, 1460, 1461] (by decide +kernel) (by decide +kernel)) (goodIn_sub (fun _ h => List.mem_append_left _ (List.mem_append_left _ (List.mem_append_right _ h))) (by decide +kernel))
set_option maxRecDepth 20000 in
theorem gL_law_L_append : GoodIn wsL_law (va_wsS RL 133 yL_append wsL_append) := goodIn_app (goodIn_of _ (by decide +kernel)) ggL_law_L_append
set_option maxRecDepth 20000 in
theorem ggL_law_X9_append : GoodIn wsL_law wsX9_append := goodIn_r _ [241, 242, 243, 208, 244, 245, 5, 246, 1408, 1409, 1410, 1411, 1412, 1413, 1414, 1415, 1416, 1417, 1418, 1419, 1420, 1421, 1422, 1423, 1424, 1425, 1426, 1427, 1428, 1429] (by decide +kernel) (by decide +kernel)
set_option maxRecDepth 20000 in
theorem gL_law_X9_append : GoodIn wsL_law (wsV RL 138 RX9 yX9_append wsX9_append) := goodIn_app (goodIn_of _ (by decide +kernel)) ggL_law_X9_append
set_option maxRecDepth 20000 in
theorem ggL_law_X9_thrown : GoodIn wsL_law wsX9_thrown := goodIn_r _ [250, 243, 1408, 1409, 1410, 1411, 1412, 1413, 1414, 1415, 1416, 1417, 1418, 1419, 1420, 1421, 1422, 1423, 1424, 1425, 1426, 1427, 1428, 1429] (by decide +kernel) (by decide +kernel)
set_option maxRecDepth 20000 in
theorem gL_law_X9_thrown : GoodIn wsL_law (wsV RL 139 RX9 yX9_thrown wsX9_thrown) := goodIn_app (goodIn_of _ (by decide +kernel)) ggL_law_X9_thrown
set_option maxRecDepth 20000 in
theorem ggL_law_X8_load : GoodIn wsL_law wsX8_load := goodIn_r _ [254, 17, 225, 226, 255, 18, 256, 27, 257, 28, 22, 50, 258, 259, 260, 261, 16, 262, 60, 61, 62, 59, 57, 263, 264, 265, 266, 21, 267, 82, 268, 83, 84, 85, 269, 270, 271, 56, 272, 73, 67, 273, 274, 275, 276, 66, 277, 278, 279, 280, 281, 282, 283, 69, 70, 72, 284, 285, 286, 287, 71, 288, 289, 149, 93, 150, 290, 291, 292, 293, 294, 295, 296, 297, 298, 299, 300, 301, 302, 303, 304, 305, 306, 307, 308, 309, 310, 311, 312, 313, 314, 315, 316, 317, 318, 319, 320, 321, 322, 323, 324, 325, 326, 327, 328, 329, 330, 331, 332, 333, 334, 335, 336, 337, 338, 339, 340, 341, 342, 343, 344, 345, 346, 347, 348, 349, 350, 351, 352, 353, 354, 355, 356, 357, 358, 359, 360, 361, 362, 363, 364, 365, 366, 367, 368, 369, 370, 371, 372, 373, 374, 375, 376, 377, 378, 379, 380, 381, 382, 383, 384, 385, 386, 387, 388, 389, 390, 391, 392, 393, 394, 395, 396, 397, 398, 139, 140, 81, 141, 90, 95, 96, 399, 400, 401, 402, 403, 404, 405, 406, 407, 408, 409, 410, 411, 127, 128, 129, 130, 131, 132, 133, 134, 135, 136, 137, 138, 412, 413, 414, 415, 416, 417, 418, 419, 420, 421, 422, 423, 424, 425, 426, 427, 428, 429, 430, 431, 432, 433, 434, 77, 78, 435, 436, 437, 438, 439, 440, 157, 158, 159, 160, 161, 162, 163, 441, 442, 443, 444, 142, 143, 144, 25, 145, 146, 147, 148, 103, 151, 104, 152, 153, 154, 155, 101, 156, 164, 165, 166, 167, 168, 92, 94, 169, 170, 171, 172, 173, 174, 175, 176, 177, 178, 179, 180, 181, 182, 183, 184, 185, 186, 187, 188, 102, 189, 190, 191, 192, 193, 194, 195, 105, 196, 197, 198, 445, 446, 447, 2, 448, 41, 26, 449, 450, 451, 40, 452, 125, 124, 453, 454, 455, 456, 457, 1394, 1395, 1396, 1397, 1398, 1399, 1400, 1401, 1402, 1403, 1404, 1405, 1406, 1407, 1430, 1431, 1432, 1433, 1434, 1455, 1456, 1457, 1458, 1459, 1460, 1461, 1435, 1436, 1437, 1438, 1439, 1440, 1462, 1463, 1464, 1441, 1442, 1443, 1444, 1445, 1453, 1454] (by decide +kernel) (by decide +kernel)
set_option maxRecDepth 20000 in
theorem gL_law_X8_load : GoodIn wsL_law (wsV RL 142 RX8 yX8_load wsX8_load) := goodIn_app (goodIn_of _ (by decide +kernel)) ggL_law_X8_load
set_option maxRecDepth 20000 in
theorem ggL_law_X9_load : GoodIn wsL_law wsX9_load := goodIn_r _ [461, 243, 462, 463, 204, 203, 464, 465, 466, 209, 242, 467, 468, 5, 469, 470, 471, 472, 473, 474, 475, 476, 477, 149, 93, 150, 478, 479, 480, 481, 208, 482, 483, 484, 485, 486, 487, 488, 489, 490, 491, 492, 493, 494, 495, 496, 497, 310, 311, 312, 313, 314, 315, 316, 317, 318, 319, 320, 498, 322, 323, 324, 325, 326, 327, 328, 329, 330, 331, 332, 333, 334, 335, 336, 337, 338, 339, 340, 341, 342, 343, 344, 345, 346, 347, 348, 349, 350, 351, 352, 353, 354, 355, 356, 357, 499, 500, 501, 502, 503, 504, 505, 506, 507, 508, 509, 510, 511, 512, 513, 514, 515, 516, 517, 518, 519, 520, 521, 522, 523, 524, 525, 526, 527, 528, 529, 530, 531, 532, 533, 534, 535, 536, 537, 538, 539, 540, 541, 542, 543, 544, 545, 546, 547, 548, 549, 550, 551, 552, 553, 554, 555, 556, 557, 558, 559, 560, 561, 562, 563, 564, 565, 566, 567, 568, 569, 570, 571, 210, 572, 573, 574, 575, 576, 92, 94, 577, 578, 579, 580, 581, 582, 583, 584, 585, 586, 587, 588, 589, 590, 591, 592, 205, 1408, 1409, 1410, 1411, 1412, 1413, 1414, 1415, 1416, 1417, 1418, 1419, 1420, 1421, 1422, 1423, 1424, 1425, 1426, 1427, 1428, 1429] (by decide +kernel) (by decide +kernel)
set_option maxRecDepth 20000 in
theorem gL_law_X9_load : GoodIn wsL_law (wsV RL 145 RX9 yX9_load wsX9_load) := goodIn_app (goodIn_of _ (by decide +kernel)) ggL_law_X9_load
set_option maxRecDepth 20000 in
theorem ggL_law_X8_errorPosition : GoodIn wsL_law wsX8_errorPosition := goodIn_r _ [596, 18, 1394, 1395, 1396, 1397, 1398, 1399, 1400, 1401, 1402, 1403, 1404, 1405, 1406, 1407] (by decide +kernel) (by decide +kernel)
set_option maxRecDepth 20000 in
theorem gL_law_X8_errorPosition : GoodIn wsL_law (wsV RL 146 RX8 yX8_errorPosition wsX8_errorPosition) := goodIn_app (goodIn_of _ (by decide +kernel)) ggL_law_X8_errorPosition
set_option maxRecDepth 20000 in
theorem ggL_law_X9_errorPosition : GoodIn wsL_law wsX9_errorPosition := goodIn_r _ [600, 243, 209, 1408, 1409, 1410, 1411, 1412, 1413, 1414, 1415, 1416, 1417, 1418, 1419, 1420, 1421, 1422, 1423, 1424, 1425, 1426, 1427, 1428, 1429] (by decide +kernel) (by decide +kernel)
set_option maxRecDepth 20000 in
theorem gL_law_X9_errorPosition : GoodIn wsL_law (wsV RL 149 RX9 yX9_errorPosition wsX9_errorPosition) := goodIn_app (goodIn_of _ (by decide +kernel)) ggL_law_X9_errorPosition
set_option maxRecDepth 20000 in
theorem ggL_law_L_count : GoodIn wsL_law wsL_count := goodIn_ca (goodIn_r _ [603, 604, 605, 606, 607, 2, 608, 609, 610, 22, 48, 50, 258, 611, 612, 613, 49, 614, 615, 616, 81, 617, 90, 440, 157, 158, 159, 95, 160, 161, 162, 163, 96, 618, 619, 620, 21, 621, 85, 268, 77, 622, 623, 624, 625, 91, 92, 93, 94, 441, 442, 443, 444, 1394, 1395, 1396, 1397, 1398, 1399, 1400, 1401, 1402, 1403, 1404, 1405, 1406, 1407, 1435, 1436, 1437, 1438, 1439, 1440, 1462, 1463, 1464] (by decide +kernel) (by decide +kernel)) (goodIn_sub (fun _ h => List.mem_append_left _ (List.mem_append_right _ h)) (by decide +kernel))
set_option maxRecDepth 20000 in
theorem gL_law_L_count : GoodIn wsL_law (va_wsS RL 150 yL_count wsL_count) := goodIn_app (goodIn_of _ (by decide +kernel)) ggL_law_L_count
set_option maxRecDepth 20000 in
theorem ggL_law_X9_count : GoodIn wsL_law wsX9_count := goodIn_r _ [629, 243, 203, 486, 487, 5, 488, 630, 631, 632, 633, 634, 635, 636, 637, 576, 92, 93, 94, 1408, 1409, 1410, 1411, 1412, 1413, 1414, 1415, 1416, 1417, 1418, 1419, 1420, 1421, 1422, 1423, 1424, 1425, 1426, 1427, 1428, 1429] (by decide +kernel) (by decide +kernel)
set_option maxRecDepth 20000 in
theorem gL_law_X9_count : GoodIn wsL_law (wsV RL 153 RX9 yX9_count wsX9_count) := goodIn_app (goodIn_of _ (by decide +kernel)) ggL_law_X9_count
set_option maxRecDepth 20000 in
theorem ggL_law_X8_unit : GoodIn wsL_law wsX8_unit := goodIn_r _ [641, 26, 642, 1394, 1395, 1396, 1397, 1398, 1399, 1400, 1401, 1402, 1403, 1404, 1405, 1406, 1407, 1441, 1442, 1443, 1444, 1445] (by decide +kernel) (by decide +kernel)
set_option maxRecDepth 20000 in
theorem gL_law_X8_unit : GoodIn wsL_law (wsV RL 154 RX8 yX8_unit wsX8_unit) := goodIn_app (goodIn_of _ (by decide +kernel)) ggL_law_X8_unit
set_option maxRecDepth 20000 in
theorem ggL_law_X9_unit : GoodIn wsL_law wsX9_unit := goodIn_r _ [646, 243, 647, 648, 649, 650, 5, 651, 203, 211, 568, 569, 570, 571, 210, 540, 541, 542, 543, 572, 573, 574, 575, 576, 92, 93, 94, 577, 578, 579, 580, 581, 582, 583, 584, 585, 586, 587, 652, 653, 654, 655, 656, 657, 658, 1408, 1409, 1410, 1411, 1412, 1413, 1414, 1415, 1416, 1417, 1418, 1419, 1420, 1421, 1422, 1423, 1424, 1425, 1426, 1427, 1428, 1429] (by decide +kernel) (by decide +kernel)
set_option maxRecDepth 20000 in
theorem gL_law_X9_unit : GoodIn wsL_law (wsV RL 158 RX9 yX9_unit wsX9_unit) := goodIn_app (goodIn_of _ (by decide +kernel)) ggL_law_X9_unit
set_option maxRecDepth 20000 in
theorem ggL_law_L_support : GoodIn wsL_law wsL_support := goodIn_ca (goodIn_ca (goodIn_r _ [661, 662, 604, 663, 664, 665, 2, 666, 22, 50, 667, 668, 669, 670, 671, 672, 673, 674, 675, 676, 677, 161, 162, 81, 163, 90, 95, 96, 678, 679, 680, 681, 609, 610, 682, 157, 158, 159, 160, 683, 442, 443, 444, 1394, 1395, 1396, 1397, 1398, 1399, 1400, 1401, 1402, 1403, 1404, 1405, 1406, 1407, 1435, 1436, 1437, 1438, 1439, 1440, 1462, 1463, 1464] (by decide +kernel) (by decide +kernel)) (goodIn_sub (fun _ h => List.mem_append_right _ h) (by decide +kernel))) (goodIn_sub (fun _ h => List.mem_append_left _ (List.mem_append_right _ h)) (by decide +kernel))
set_option maxRecDepth 20000 in
theorem gL_law_L_support : GoodIn wsL_law (va_wsS RL 159 yL_support wsL_support) := goodIn_app (goodIn_of _ (by decide +kernel)) ggL_law_L_support
set_option maxRecDepth 20000 in
theorem ggL_law_X9_support : GoodIn wsL_law wsX9_support := goodIn_r _ [687, 243, 203, 688, 689, 690, 5, 691, 486, 487, 488, 1408, 1409, 1410, 1411, 1412, 1413, 1414, 1415, 1416, 1417, 1418, 1419, 1420, 1421, 1422, 1423, 1424, 1425, 1426, 1427, 1428, 1429] (by decide +kernel) (by decide +kernel)
set_option maxRecDepth 20000 in
theorem gL_law_X9_support : GoodIn wsL_law (wsV RL 162 RX9 yX9_support wsX9_support) := goodIn_app (goodIn_of _ (by decide +kernel)) ggL_law_X9_support
set_option maxRecDepth 20000 in
theorem ggL_law_L_hinge : GoodIn wsL_law wsL_hinge := goodIn_ca (goodIn_ca (goodIn_r _ [694, 662, 695, 696, 697, 2, 698, 22, 611, 667, 668, 669, 670, 671, 672, 673, 674, 675, 676, 677, 161, 162, 81, 163, 90, 95, 96, 678, 679, 680, 681, 609, 610, 682, 157, 158, 159, 160, 683, 442, 443, 444, 1394, 1395, 1396, 1397, 1398, 1399, 1400, 1401, 1402, 1403, 1404, 1405, 1406, 1407, 1435, 1436, 1437, 1438, 1439, 1440, 1462, 1463, 1464] (by decide +kernel) (by decide +kernel)) (goodIn_sub (fun _ h => List.mem_append_right _ h) (by decide +kernel))) (goodIn_sub (fun _ h => List.mem_append_left _ (List.mem_append_right _ h)) (by decide +kernel))
set_option maxRecDepth 20000 in
theorem gL_law_L_hinge : GoodIn wsL_law (va_wsS RL 163 yL_hinge wsL_hinge) := goodIn_app (goodIn_of _ (by decide +kernel)) ggL_law_L_hinge
set_option maxRecDepth 20000 in
theorem ggL_law_X9_hinge : GoodIn wsL_law wsX9_hinge := goodIn_r _ [702, 243, 203, 703, 704, 705, 5, 706, 486, 487, 488, 1408, 1409, 1410, 1411, 1412, 1413, 1414, 1415, 1416, 1417, 1418, 1419, 1420, 1421, 1422, 1423, 1424, 1425, 1426, 1427, 1428, 1429] (by decide +kernel) (by decide +kernel)
set_option maxRecDepth 20000 in
theorem gL_law_X9_hinge : GoodIn wsL_law (wsV RL 165 RX9 yX9_hinge wsX9_hinge) := goodIn_app (goodIn_of _ (by decide +kernel)) ggL_law_X9_hinge
set_option maxRecDepth 20000 in
theorem ggL_law_L_weight : GoodIn wsL_law wsL_weight := goodIn_ca (goodIn_ca (goodIn_r _ [709, 662, 604, 710, 711, 712, 2, 713, 22, 612, 667, 668, 669, 670, 671, 672, 673, 674, 675, 676, 677, 161, 162, 81, 163, 90, 95, 96, 678, 679, 680, 681, 609, 610, 682, 157, 158, 159, 160, 683, 442, 443, 444, 1394, 1395, 1396, 1397, 1398, 1399, 1400, 1401, 1402, 1403, 1404, 1405, 1406, 1407, 1435, 1436, 1437, 1438, 1439, 1440, 1462, 1463, 1464] (by decide +kernel) (by decide +kernel)) (goodIn_sub (fun _ h => List.mem_append_right _ h) (by decide +kernel))) (goodIn_sub (fun _ h => List.mem_append_left _ (List.mem_append_right _ h)) (by decide +kernel))
set_option maxRecDepth 20000 in
theorem gL_law_L_weight : GoodIn wsL_law (va_wsS RL 166 yL_weight wsL_weight) := goodIn_app (goodIn_of _ (by decide +kernel)) ggL_law_L_weight
set_option maxRecDepth 20000 in
theorem ggL_law_X9_weight : GoodIn wsL_law wsX9_weight := goodIn_r _ [717, 203, 243, 486, 487, 5, 488, 1408, 1409, 1410, 1411, 1412, 1413, 1414, 1415, 1416, 1417, 1418, 1419, 1420, 1421, 1422, 1423, 1424, 1425, 1426, 1427, 1428, 1429] (by decide +kernel) (by decide +kernel)
set_option maxRecDepth 20000 in
theorem gL_law_X9_weight : GoodIn wsL_law (wsV RL 168 RX9 yX9_weight wsX9_weight) := goodIn_app (goodIn_of _ (by decide +kernel)) ggL_law_X9_weight
set_option maxRecDepth 20000 in
theorem ggL_law_L_axle : GoodIn wsL_law wsL_axle := goodIn_ca (goodIn_ca (goodIn_r _ [720, 662, 604, 721, 722, 723, 2, 724, 22, 613, 667, 668, 669, 670, 671, 672, 673, 674, 675, 676, 677, 161, 162, 81, 163, 90, 95, 96, 678, 679, 680, 681, 609, 610, 682, 157, 158, 159, 160, 683, 442, 443, 444, 1394, 1395, 1396, 1397, 1398, 1399, 1400, 1401, 1402, 1403, 1404, 1405, 1406, 1407, 1435, 1436, 1437, 1438, 1439, 1440, 1462, 1463, 1464] (by decide +kernel) (by decide +kernel)) (goodIn_sub (fun _ h => List.mem_append_right _ h) (by decide +kernel))) (goodIn_sub (fun _ h => List.mem_append_left _ (List.mem_append_right _ h)) (by decide +kernel))
