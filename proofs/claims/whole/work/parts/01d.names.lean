theorem dX9_init_0 : decode cX9_init 0 = .ok (.aload_n 0, 1) := by decide +kernel
theorem dX9_init_1 : decode cX9_init 1 = .ok (.invokespecial 1, 3) := by decide +kernel
theorem dX9_init_4 : decode cX9_init 4 = .ok (.aload_n 0, 1) := by decide +kernel
theorem dX9_init_5 : decode cX9_init 5 = .ok (.bipush 47, 2) := by decide +kernel
theorem dX9_init_7 : decode cX9_init 7 = .ok (.newarray .int, 2) := by decide +kernel
theorem dX9_init_9 : decode cX9_init 9 = .ok (.putfield 7, 3) := by decide +kernel
theorem dX9_init_12 : decode cX9_init 12 = .ok (.aload_n 0, 1) := by decide +kernel
theorem dX9_init_13 : decode cX9_init 13 = .ok (.bipush 47, 2) := by decide +kernel
theorem dX9_init_15 : decode cX9_init 15 = .ok (.newarray .int, 2) := by decide +kernel
theorem dX9_init_17 : decode cX9_init 17 = .ok (.putfield 13, 3) := by decide +kernel
theorem dX9_init_20 : decode cX9_init 20 = .ok (.aload_n 0, 1) := by decide +kernel
theorem dX9_init_21 : decode cX9_init 21 = .ok (.sipush 376, 3) := by decide +kernel
theorem dX9_init_24 : decode cX9_init 24 = .ok (.newarray .int, 2) := by decide +kernel
theorem dX9_init_26 : decode cX9_init 26 = .ok (.putfield 16, 3) := by decide +kernel
theorem dX9_init_29 : decode cX9_init 29 = .ok (.aload_n 0, 1) := by decide +kernel
theorem dX9_init_30 : decode cX9_init 30 = .ok (.bipush 94, 2) := by decide +kernel
theorem dX9_init_32 : decode cX9_init 32 = .ok (.newarray .int, 2) := by decide +kernel
theorem dX9_init_34 : decode cX9_init 34 = .ok (.putfield 19, 3) := by decide +kernel
theorem dX9_init_37 : decode cX9_init 37 = .ok (.aload_n 0, 1) := by decide +kernel
theorem dX9_init_38 : decode cX9_init 38 = .ok (.iconst 2, 1) := by decide +kernel
theorem dX9_init_39 : decode cX9_init 39 = .ok (.newarray .boolean, 2) := by decide +kernel
theorem dX9_init_41 : decode cX9_init 41 = .ok (.putfield 22, 3) := by decide +kernel
theorem dX9_init_44 : decode cX9_init 44 = .ok (.aload_n 0, 1) := by decide +kernel
theorem dX9_init_45 : decode cX9_init 45 = .ok (.sipush 500, 3) := by decide +kernel
theorem dX9_init_48 : decode cX9_init 48 = .ok (.newarray .int, 2) := by decide +kernel
theorem dX9_init_50 : decode cX9_init 50 = .ok (.putfield 26, 3) := by decide +kernel
theorem dX9_init_53 : decode cX9_init 53 = .ok (.aload_n 0, 1) := by decide +kernel
theorem dX9_init_54 : decode cX9_init 54 = .ok (.iconst (-1), 1) := by decide +kernel
theorem dX9_init_55 : decode cX9_init 55 = .ok (.putfield 29, 3) := by decide +kernel
theorem dX9_init_58 : decode cX9_init 58 = .ok (.aload_n 0, 1) := by decide +kernel
theorem dX9_init_59 : decode cX9_init 59 = .ok (.bipush 25, 2) := by decide +kernel
theorem dX9_init_61 : decode cX9_init 61 = .ok (.newarray .long, 2) := by decide +kernel
theorem dX9_init_63 : decode cX9_init 63 = .ok (.putfield 33, 3) := by decide +kernel
theorem dX9_init_66 : decode cX9_init 66 = .ok (.aload_n 0, 1) := by decide +kernel
theorem dX9_init_67 : decode cX9_init 67 = .ok (.sipush 155, 3) := by decide +kernel
theorem dX9_init_70 : decode cX9_init 70 = .ok (.newarray .long, 2) := by decide +kernel
theorem dX9_init_72 : decode cX9_init 72 = .ok (.putfield 37, 3) := by decide +kernel
theorem dX9_init_75 : decode cX9_init 75 = .ok (.aload_n 0, 1) := by decide +kernel
theorem dX9_init_76 : decode cX9_init 76 = .ok (.bipush 47, 2) := by decide +kernel
theorem dX9_init_78 : decode cX9_init 78 = .ok (.newarray .int, 2) := by decide +kernel
theorem dX9_init_80 : decode cX9_init 80 = .ok (.putfield 40, 3) := by decide +kernel
theorem dX9_init_83 : decode cX9_init 83 = .ok (.aload_n 0, 1) := by decide +kernel
theorem dX9_init_84 : decode cX9_init 84 = .ok (.bipush 31, 2) := by decide +kernel
theorem dX9_init_86 : decode cX9_init 86 = .ok (.newarray .int, 2) := by decide +kernel
theorem dX9_init_88 : decode cX9_init 88 = .ok (.putfield 43, 3) := by decide +kernel
theorem dX9_init_91 : decode cX9_init 91 = .ok (.aload_n 0, 1) := by decide +kernel
theorem dX9_init_92 : decode cX9_init 92 = .ok (.getfield 7, 3) := by decide +kernel
theorem dX9_init_95 : decode cX9_init 95 = .ok (.iconst 0, 1) := by decide +kernel
theorem dX9_init_96 : decode cX9_init 96 = .ok (.bipush 10, 2) := by decide +kernel
theorem dX9_init_98 : decode cX9_init 98 = .ok (.iastore, 1) := by decide +kernel
theorem dX9_init_99 : decode cX9_init 99 = .ok (.aload_n 0, 1) := by decide +kernel
theorem dX9_init_100 : decode cX9_init 100 = .ok (.getfield 7, 3) := by decide +kernel
theorem dX9_init_103 : decode cX9_init 103 = .ok (.iconst 1, 1) := by decide +kernel
theorem dX9_init_104 : decode cX9_init 104 = .ok (.bipush 100, 2) := by decide +kernel
theorem dX9_init_106 : decode cX9_init 106 = .ok (.iastore, 1) := by decide +kernel
theorem dX9_init_107 : decode cX9_init 107 = .ok (.aload_n 0, 1) := by decide +kernel
theorem dX9_init_108 : decode cX9_init 108 = .ok (.getfield 7, 3) := by decide +kernel
theorem dX9_init_111 : decode cX9_init 111 = .ok (.iconst 2, 1) := by decide +kernel
theorem dX9_init_112 : decode cX9_init 112 = .ok (.iconst 2, 1) := by decide +kernel
theorem dX9_init_113 : decode cX9_init 113 = .ok (.iastore, 1) := by decide +kernel
theorem dX9_init_114 : decode cX9_init 114 = .ok (.aload_n 0, 1) := by decide +kernel
theorem dX9_init_115 : decode cX9_init 115 = .ok (.getfield 7, 3) := by decide +kernel
theorem dX9_init_118 : decode cX9_init 118 = .ok (.bipush 7, 2) := by decide +kernel
theorem dX9_init_120 : decode cX9_init 120 = .ok (.iconst (-1), 1) := by decide +kernel
theorem dX9_init_121 : decode cX9_init 121 = .ok (.iastore, 1) := by decide +kernel
theorem dX9_init_122 : decode cX9_init 122 = .ok (.aload_n 0, 1) := by decide +kernel
theorem dX9_init_123 : decode cX9_init 123 = .ok (.getfield 7, 3) := by decide +kernel
theorem dX9_init_126 : decode cX9_init 126 = .ok (.bipush 8, 2) := by decide +kernel
theorem dX9_init_128 : decode cX9_init 128 = .ok (.bipush 10, 2) := by decide +kernel
theorem dX9_init_130 : decode cX9_init 130 = .ok (.iastore, 1) := by decide +kernel
theorem dX9_init_131 : decode cX9_init 131 = .ok (.aload_n 0, 1) := by decide +kernel
theorem dX9_init_132 : decode cX9_init 132 = .ok (.getfield 7, 3) := by decide +kernel
theorem dX9_init_135 : decode cX9_init 135 = .ok (.bipush 9, 2) := by decide +kernel
theorem dX9_init_137 : decode cX9_init 137 = .ok (.iconst (-1), 1) := by decide +kernel
theorem dX9_init_138 : decode cX9_init 138 = .ok (.iastore, 1) := by decide +kernel
theorem dX9_init_139 : decode cX9_init 139 = .ok (.return_, 1) := by decide +kernel
theorem dX9_thrown_0 : decode cX9_thrown 0 = .ok (.aload_n 0, 1) := by decide +kernel
theorem dX9_thrown_1 : decode cX9_thrown 1 = .ok (.getfield 46, 3) := by decide +kernel
theorem dX9_thrown_4 : decode cX9_thrown 4 = .ok (.ireturn, 1) := by decide +kernel
theorem dX9_isIn_0 : decode cX9_isIn 0 = .ok (.iload_n 0, 1) := by decide +kernel
theorem dX9_isIn_1 : decode cX9_isIn 1 = .ok (.iload_n 1, 1) := by decide +kernel
theorem dX9_isIn_2 : decode cX9_isIn 2 = .ok (.if_icmp .lt 12, 3) := by decide +kernel
theorem dX9_isIn_5 : decode cX9_isIn 5 = .ok (.iload_n 0, 1) := by decide +kernel
theorem dX9_isIn_6 : decode cX9_isIn 6 = .ok (.iload_n 2, 1) := by decide +kernel
theorem dX9_isIn_7 : decode cX9_isIn 7 = .ok (.if_icmp .gt 7, 3) := by decide +kernel
theorem dX9_isIn_10 : decode cX9_isIn 10 = .ok (.iconst 1, 1) := by decide +kernel
theorem dX9_isIn_11 : decode cX9_isIn 11 = .ok (.goto 4, 3) := by decide +kernel
theorem dX9_isIn_14 : decode cX9_isIn 14 = .ok (.iconst 0, 1) := by decide +kernel
theorem dX9_isIn_15 : decode cX9_isIn 15 = .ok (.ireturn, 1) := by decide +kernel
theorem dX9_copies_0 : decode cX9_copies 0 = .ok (.iconst 0, 1) := by decide +kernel
theorem dX9_copies_1 : decode cX9_copies 1 = .ok (.istore 4, 2) := by decide +kernel
theorem dX9_copies_3 : decode cX9_copies 3 = .ok (.iload 4, 2) := by decide +kernel
theorem dX9_copies_5 : decode cX9_copies 5 = .ok (.bipush 47, 2) := by decide +kernel
theorem dX9_copies_7 : decode cX9_copies 7 = .ok (.if_icmp .ge 21, 3) := by decide +kernel
theorem dX9_copies_10 : decode cX9_copies 10 = .ok (.aload_n 0, 1) := by decide +kernel
theorem dX9_copies_11 : decode cX9_copies 11 = .ok (.iload_n 1, 1) := by decide +kernel
theorem dX9_copies_12 : decode cX9_copies 12 = .ok (.iload 4, 2) := by decide +kernel
theorem dX9_copies_14 : decode cX9_copies 14 = .ok (.iadd, 1) := by decide +kernel
theorem dX9_copies_15 : decode cX9_copies 15 = .ok (.aload_n 2, 1) := by decide +kernel
theorem dX9_copies_16 : decode cX9_copies 16 = .ok (.iload_n 3, 1) := by decide +kernel
theorem dX9_copies_17 : decode cX9_copies 17 = .ok (.iload 4, 2) := by decide +kernel
theorem dX9_copies_19 : decode cX9_copies 19 = .ok (.iadd, 1) := by decide +kernel
theorem dX9_copies_20 : decode cX9_copies 20 = .ok (.iaload, 1) := by decide +kernel
theorem dX9_copies_21 : decode cX9_copies 21 = .ok (.iastore, 1) := by decide +kernel
theorem dX9_copies_22 : decode cX9_copies 22 = .ok (.iinc 4 1, 3) := by decide +kernel
theorem dX9_copies_25 : decode cX9_copies 25 = .ok (.goto (-22), 3) := by decide +kernel
theorem dX9_copies_28 : decode cX9_copies 28 = .ok (.return_, 1) := by decide +kernel
set_option maxRecDepth 20000 in
theorem ggX9_keeps_X9_copies : GoodIn wsX9_keeps wsX9_copies := goodIn_r _ [6] (by decide +kernel) (by decide +kernel)
set_option maxRecDepth 20000 in
theorem gX9_keeps_X9_copies : GoodIn wsX9_keeps (va_wsS RX9 52 yX9_copies wsX9_copies) := goodIn_app (goodIn_of _ (by decide +kernel)) ggX9_keeps_X9_copies
theorem dX9_keeps_0 : decode cX9_keeps 0 = .ok (.aload_n 0, 1) := by decide +kernel
theorem dX9_keeps_1 : decode cX9_keeps 1 = .ok (.getfield 49, 3) := by decide +kernel
theorem dX9_keeps_4 : decode cX9_keeps 4 = .ok (.bipush 8, 2) := by decide +kernel
theorem dX9_keeps_6 : decode cX9_keeps 6 = .ok (.if_icmp .ne 43, 3) := by decide +kernel
theorem dX9_keeps_9 : decode cX9_keeps 9 = .ok (.iconst 0, 1) := by decide +kernel
theorem dX9_keeps_10 : decode cX9_keeps 10 = .ok (.istore_n 2, 1) := by decide +kernel
theorem dX9_keeps_11 : decode cX9_keeps 11 = .ok (.iload_n 2, 1) := by decide +kernel
theorem dX9_keeps_12 : decode cX9_keeps 12 = .ok (.sipush 329, 3) := by decide +kernel
theorem dX9_keeps_15 : decode cX9_keeps 15 = .ok (.if_icmp .ge 24, 3) := by decide +kernel
theorem dX9_keeps_18 : decode cX9_keeps 18 = .ok (.aload_n 0, 1) := by decide +kernel
theorem dX9_keeps_19 : decode cX9_keeps 19 = .ok (.getfield 16, 3) := by decide +kernel
theorem dX9_keeps_22 : decode cX9_keeps 22 = .ok (.iload_n 2, 1) := by decide +kernel
theorem dX9_keeps_23 : decode cX9_keeps 23 = .ok (.aload_n 0, 1) := by decide +kernel
theorem dX9_keeps_24 : decode cX9_keeps 24 = .ok (.getfield 16, 3) := by decide +kernel
theorem dX9_keeps_27 : decode cX9_keeps 27 = .ok (.iload_n 2, 1) := by decide +kernel
theorem dX9_keeps_28 : decode cX9_keeps 28 = .ok (.bipush 47, 2) := by decide +kernel
theorem dX9_keeps_30 : decode cX9_keeps 30 = .ok (.iadd, 1) := by decide +kernel
theorem dX9_keeps_31 : decode cX9_keeps 31 = .ok (.iaload, 1) := by decide +kernel
theorem dX9_keeps_32 : decode cX9_keeps 32 = .ok (.iastore, 1) := by decide +kernel
theorem dX9_keeps_33 : decode cX9_keeps 33 = .ok (.iinc 2 1, 3) := by decide +kernel
theorem dX9_keeps_36 : decode cX9_keeps 36 = .ok (.goto (-25), 3) := by decide +kernel
theorem dX9_keeps_39 : decode cX9_keeps 39 = .ok (.aload_n 0, 1) := by decide +kernel
theorem dX9_keeps_40 : decode cX9_keeps 40 = .ok (.dup, 1) := by decide +kernel
theorem dX9_keeps_41 : decode cX9_keeps 41 = .ok (.getfield 49, 3) := by decide +kernel
theorem dX9_keeps_44 : decode cX9_keeps 44 = .ok (.iconst 1, 1) := by decide +kernel
theorem dX9_keeps_45 : decode cX9_keeps 45 = .ok (.isub, 1) := by decide +kernel
theorem dX9_keeps_46 : decode cX9_keeps 46 = .ok (.putfield 49, 3) := by decide +kernel
theorem dX9_keeps_49 : decode cX9_keeps 49 = .ok (.aload_n 0, 1) := by decide +kernel
theorem dX9_keeps_50 : decode cX9_keeps 50 = .ok (.getfield 16, 3) := by decide +kernel
theorem dX9_keeps_53 : decode cX9_keeps 53 = .ok (.bipush 47, 2) := by decide +kernel
theorem dX9_keeps_55 : decode cX9_keeps 55 = .ok (.aload_n 0, 1) := by decide +kernel
theorem dX9_keeps_56 : decode cX9_keeps 56 = .ok (.getfield 49, 3) := by decide +kernel
theorem dX9_keeps_59 : decode cX9_keeps 59 = .ok (.imul, 1) := by decide +kernel
theorem dX9_keeps_60 : decode cX9_keeps 60 = .ok (.aload_n 1, 1) := by decide +kernel
theorem dX9_keeps_61 : decode cX9_keeps 61 = .ok (.iconst 0, 1) := by decide +kernel
theorem dX9_keeps_62 : decode cX9_keeps 62 = .ok (.invokestatic 52, 3) := by decide +kernel
theorem dX9_keeps_65 : decode cX9_keeps 65 = .ok (.aload_n 0, 1) := by decide +kernel
theorem dX9_keeps_66 : decode cX9_keeps 66 = .ok (.dup, 1) := by decide +kernel
theorem dX9_keeps_67 : decode cX9_keeps 67 = .ok (.getfield 49, 3) := by decide +kernel
theorem dX9_keeps_70 : decode cX9_keeps 70 = .ok (.iconst 1, 1) := by decide +kernel
theorem dX9_keeps_71 : decode cX9_keeps 71 = .ok (.iadd, 1) := by decide +kernel
theorem dX9_keeps_72 : decode cX9_keeps 72 = .ok (.putfield 49, 3) := by decide +kernel
theorem dX9_keeps_75 : decode cX9_keeps 75 = .ok (.return_, 1) := by decide +kernel
set_option maxRecDepth 20000 in
theorem ggX9_undo_X9_copies : GoodIn wsX9_undo wsX9_copies := goodIn_r _ [8] (by decide +kernel) (by decide +kernel)
set_option maxRecDepth 20000 in
theorem gX9_undo_X9_copies : GoodIn wsX9_undo (va_wsS RX9 52 yX9_copies wsX9_copies) := goodIn_app (goodIn_of _ (by decide +kernel)) ggX9_undo_X9_copies
theorem dX9_undo_0 : decode cX9_undo 0 = .ok (.aload_n 0, 1) := by decide +kernel
theorem dX9_undo_1 : decode cX9_undo 1 = .ok (.aload_n 0, 1) := by decide +kernel
theorem dX9_undo_2 : decode cX9_undo 2 = .ok (.getfield 49, 3) := by decide +kernel
theorem dX9_undo_5 : decode cX9_undo 5 = .ok (.ifCond .ne 7, 3) := by decide +kernel
theorem dX9_undo_8 : decode cX9_undo 8 = .ok (.iconst 1, 1) := by decide +kernel
theorem dX9_undo_9 : decode cX9_undo 9 = .ok (.goto 4, 3) := by decide +kernel
theorem dX9_undo_12 : decode cX9_undo 12 = .ok (.iconst 0, 1) := by decide +kernel
theorem dX9_undo_13 : decode cX9_undo 13 = .ok (.putfield 46, 3) := by decide +kernel
theorem dX9_undo_16 : decode cX9_undo 16 = .ok (.aload_n 0, 1) := by decide +kernel
theorem dX9_undo_17 : decode cX9_undo 17 = .ok (.getfield 46, 3) := by decide +kernel
theorem dX9_undo_20 : decode cX9_undo 20 = .ok (.ifCond .le 5, 3) := by decide +kernel
theorem dX9_undo_23 : decode cX9_undo 23 = .ok (.iconst 0, 1) := by decide +kernel
theorem dX9_undo_24 : decode cX9_undo 24 = .ok (.ireturn, 1) := by decide +kernel
theorem dX9_undo_25 : decode cX9_undo 25 = .ok (.aload_n 0, 1) := by decide +kernel
theorem dX9_undo_26 : decode cX9_undo 26 = .ok (.dup, 1) := by decide +kernel
theorem dX9_undo_27 : decode cX9_undo 27 = .ok (.getfield 49, 3) := by decide +kernel
theorem dX9_undo_30 : decode cX9_undo 30 = .ok (.iconst 1, 1) := by decide +kernel
theorem dX9_undo_31 : decode cX9_undo 31 = .ok (.isub, 1) := by decide +kernel
theorem dX9_undo_32 : decode cX9_undo 32 = .ok (.putfield 49, 3) := by decide +kernel
theorem dX9_undo_35 : decode cX9_undo 35 = .ok (.aload_n 0, 1) := by decide +kernel
theorem dX9_undo_36 : decode cX9_undo 36 = .ok (.getfield 7, 3) := by decide +kernel
theorem dX9_undo_39 : decode cX9_undo 39 = .ok (.iconst 0, 1) := by decide +kernel
theorem dX9_undo_40 : decode cX9_undo 40 = .ok (.aload_n 0, 1) := by decide +kernel
theorem dX9_undo_41 : decode cX9_undo 41 = .ok (.getfield 16, 3) := by decide +kernel
theorem dX9_undo_44 : decode cX9_undo 44 = .ok (.bipush 47, 2) := by decide +kernel
theorem dX9_undo_46 : decode cX9_undo 46 = .ok (.aload_n 0, 1) := by decide +kernel
theorem dX9_undo_47 : decode cX9_undo 47 = .ok (.getfield 49, 3) := by decide +kernel
theorem dX9_undo_50 : decode cX9_undo 50 = .ok (.imul, 1) := by decide +kernel
theorem dX9_undo_51 : decode cX9_undo 51 = .ok (.invokestatic 52, 3) := by decide +kernel
theorem dX9_undo_54 : decode cX9_undo 54 = .ok (.aload_n 0, 1) := by decide +kernel
theorem dX9_undo_55 : decode cX9_undo 55 = .ok (.getfield 49, 3) := by decide +kernel
theorem dX9_undo_58 : decode cX9_undo 58 = .ok (.ireturn, 1) := by decide +kernel
set_option maxRecDepth 20000 in
theorem ggX9_save_X9_isIn : GoodIn wsX9_save wsX9_isIn := goodIn_r _ [8] (by decide +kernel) (by decide +kernel)
set_option maxRecDepth 20000 in
theorem gX9_save_X9_isIn : GoodIn wsX9_save (va_wsS RX9 56 yX9_isIn wsX9_isIn) := goodIn_app (goodIn_of _ (by decide +kernel)) ggX9_save_X9_isIn
set_option maxRecDepth 20000 in
theorem ggX9_save_X9_copies : GoodIn wsX9_save wsX9_copies := goodIn_r _ [11] (by decide +kernel) (by decide +kernel)
set_option maxRecDepth 20000 in
theorem gX9_save_X9_copies : GoodIn wsX9_save (va_wsS RX9 52 yX9_copies wsX9_copies) := goodIn_app (goodIn_of _ (by decide +kernel)) ggX9_save_X9_copies
theorem dX9_save_0 : decode cX9_save 0 = .ok (.aload_n 0, 1) := by decide +kernel
theorem dX9_save_1 : decode cX9_save 1 = .ok (.iload_n 1, 1) := by decide +kernel
theorem dX9_save_2 : decode cX9_save 2 = .ok (.iconst 0, 1) := by decide +kernel
theorem dX9_save_3 : decode cX9_save 3 = .ok (.iconst 1, 1) := by decide +kernel
theorem dX9_save_4 : decode cX9_save 4 = .ok (.invokestatic 56, 3) := by decide +kernel
theorem dX9_save_7 : decode cX9_save 7 = .ok (.ifCond .eq 7, 3) := by decide +kernel
theorem dX9_save_10 : decode cX9_save 10 = .ok (.iconst 0, 1) := by decide +kernel
theorem dX9_save_11 : decode cX9_save 11 = .ok (.goto 4, 3) := by decide +kernel
theorem dX9_save_14 : decode cX9_save 14 = .ok (.iconst 1, 1) := by decide +kernel
theorem dX9_save_15 : decode cX9_save 15 = .ok (.putfield 46, 3) := by decide +kernel
theorem dX9_save_18 : decode cX9_save 18 = .ok (.aload_n 0, 1) := by decide +kernel
theorem dX9_save_19 : decode cX9_save 19 = .ok (.getfield 46, 3) := by decide +kernel
theorem dX9_save_22 : decode cX9_save 22 = .ok (.ifCond .le 4, 3) := by decide +kernel
theorem dX9_save_25 : decode cX9_save 25 = .ok (.return_, 1) := by decide +kernel
theorem dX9_save_26 : decode cX9_save 26 = .ok (.aload_n 0, 1) := by decide +kernel
theorem dX9_save_27 : decode cX9_save 27 = .ok (.getfield 19, 3) := by decide +kernel
theorem dX9_save_30 : decode cX9_save 30 = .ok (.bipush 47, 2) := by decide +kernel
theorem dX9_save_32 : decode cX9_save 32 = .ok (.iload_n 1, 1) := by decide +kernel
theorem dX9_save_33 : decode cX9_save 33 = .ok (.imul, 1) := by decide +kernel
theorem dX9_save_34 : decode cX9_save 34 = .ok (.aload_n 0, 1) := by decide +kernel
theorem dX9_save_35 : decode cX9_save 35 = .ok (.getfield 7, 3) := by decide +kernel
theorem dX9_save_38 : decode cX9_save 38 = .ok (.iconst 0, 1) := by decide +kernel
theorem dX9_save_39 : decode cX9_save 39 = .ok (.invokestatic 52, 3) := by decide +kernel
theorem dX9_save_42 : decode cX9_save 42 = .ok (.aload_n 0, 1) := by decide +kernel
theorem dX9_save_43 : decode cX9_save 43 = .ok (.getfield 22, 3) := by decide +kernel
theorem dX9_save_46 : decode cX9_save 46 = .ok (.iload_n 1, 1) := by decide +kernel
theorem dX9_save_47 : decode cX9_save 47 = .ok (.iconst 1, 1) := by decide +kernel
theorem dX9_save_48 : decode cX9_save 48 = .ok (.bastore, 1) := by decide +kernel
theorem dX9_save_49 : decode cX9_save 49 = .ok (.return_, 1) := by decide +kernel
set_option maxRecDepth 20000 in
theorem ggX9_restore_X9_isIn : GoodIn wsX9_restore wsX9_isIn := goodIn_r _ [8] (by decide +kernel) (by decide +kernel)
set_option maxRecDepth 20000 in
theorem gX9_restore_X9_isIn : GoodIn wsX9_restore (va_wsS RX9 56 yX9_isIn wsX9_isIn) := goodIn_app (goodIn_of _ (by decide +kernel)) ggX9_restore_X9_isIn
set_option maxRecDepth 20000 in
theorem ggX9_restore_X9_keeps : GoodIn wsX9_restore wsX9_keeps := goodIn_r _ [12, 13, 14, 15, 16, 7, 17, 18, 19, 20, 21, 22, 23, 24, 25, 26, 27, 28, 29, 30, 31, 32, 33, 34, 35, 36, 37, 38, 39] (by decide +kernel) (by decide +kernel)
set_option maxRecDepth 20000 in
theorem gX9_restore_X9_keeps : GoodIn wsX9_restore (wsV RX9 60 RX9 yX9_keeps wsX9_keeps) := goodIn_app (goodIn_of _ (by decide +kernel)) ggX9_restore_X9_keeps
set_option maxRecDepth 20000 in
theorem ggX9_restore_X9_copies : GoodIn wsX9_restore wsX9_copies := goodIn_r _ [17] (by decide +kernel) (by decide +kernel)
set_option maxRecDepth 20000 in
theorem gX9_restore_X9_copies : GoodIn wsX9_restore (va_wsS RX9 52 yX9_copies wsX9_copies) := goodIn_app (goodIn_of _ (by decide +kernel)) ggX9_restore_X9_copies
theorem dX9_restore_0 : decode cX9_restore 0 = .ok (.aload_n 0, 1) := by decide +kernel
theorem dX9_restore_1 : decode cX9_restore 1 = .ok (.iload_n 1, 1) := by decide +kernel
theorem dX9_restore_2 : decode cX9_restore 2 = .ok (.iconst 0, 1) := by decide +kernel
theorem dX9_restore_3 : decode cX9_restore 3 = .ok (.iconst 1, 1) := by decide +kernel
theorem dX9_restore_4 : decode cX9_restore 4 = .ok (.invokestatic 56, 3) := by decide +kernel
theorem dX9_restore_7 : decode cX9_restore 7 = .ok (.ifCond .ne 7, 3) := by decide +kernel
theorem dX9_restore_10 : decode cX9_restore 10 = .ok (.iconst 1, 1) := by decide +kernel
theorem dX9_restore_11 : decode cX9_restore 11 = .ok (.goto 17, 3) := by decide +kernel
theorem dX9_restore_14 : decode cX9_restore 14 = .ok (.aload_n 0, 1) := by decide +kernel
theorem dX9_restore_15 : decode cX9_restore 15 = .ok (.getfield 22, 3) := by decide +kernel
theorem dX9_restore_18 : decode cX9_restore 18 = .ok (.iload_n 1, 1) := by decide +kernel
theorem dX9_restore_19 : decode cX9_restore 19 = .ok (.baload, 1) := by decide +kernel
theorem dX9_restore_20 : decode cX9_restore 20 = .ok (.ifCond .eq 7, 3) := by decide +kernel
theorem dX9_restore_23 : decode cX9_restore 23 = .ok (.iconst 0, 1) := by decide +kernel
theorem dX9_restore_24 : decode cX9_restore 24 = .ok (.goto 4, 3) := by decide +kernel
theorem dX9_restore_27 : decode cX9_restore 27 = .ok (.iconst 2, 1) := by decide +kernel
theorem dX9_restore_28 : decode cX9_restore 28 = .ok (.putfield 46, 3) := by decide +kernel
theorem dX9_restore_31 : decode cX9_restore 31 = .ok (.aload_n 0, 1) := by decide +kernel
theorem dX9_restore_32 : decode cX9_restore 32 = .ok (.getfield 46, 3) := by decide +kernel
theorem dX9_restore_35 : decode cX9_restore 35 = .ok (.ifCond .le 5, 3) := by decide +kernel
theorem dX9_restore_38 : decode cX9_restore 38 = .ok (.iconst 0, 1) := by decide +kernel
theorem dX9_restore_39 : decode cX9_restore 39 = .ok (.ireturn, 1) := by decide +kernel
theorem dX9_restore_40 : decode cX9_restore 40 = .ok (.aload_n 0, 1) := by decide +kernel
theorem dX9_restore_41 : decode cX9_restore 41 = .ok (.aload_n 0, 1) := by decide +kernel
theorem dX9_restore_42 : decode cX9_restore 42 = .ok (.getfield 7, 3) := by decide +kernel
theorem dX9_restore_45 : decode cX9_restore 45 = .ok (.invokevirtual 60, 3) := by decide +kernel
theorem dX9_restore_48 : decode cX9_restore 48 = .ok (.aload_n 0, 1) := by decide +kernel
theorem dX9_restore_49 : decode cX9_restore 49 = .ok (.getfield 7, 3) := by decide +kernel
theorem dX9_restore_52 : decode cX9_restore 52 = .ok (.iconst 0, 1) := by decide +kernel
theorem dX9_restore_53 : decode cX9_restore 53 = .ok (.aload_n 0, 1) := by decide +kernel
theorem dX9_restore_54 : decode cX9_restore 54 = .ok (.getfield 19, 3) := by decide +kernel
theorem dX9_restore_57 : decode cX9_restore 57 = .ok (.bipush 47, 2) := by decide +kernel
theorem dX9_restore_59 : decode cX9_restore 59 = .ok (.iload_n 1, 1) := by decide +kernel
theorem dX9_restore_60 : decode cX9_restore 60 = .ok (.imul, 1) := by decide +kernel
theorem dX9_restore_61 : decode cX9_restore 61 = .ok (.invokestatic 52, 3) := by decide +kernel
theorem dX9_restore_64 : decode cX9_restore 64 = .ok (.aload_n 0, 1) := by decide +kernel
theorem dX9_restore_65 : decode cX9_restore 65 = .ok (.getfield 7, 3) := by decide +kernel
theorem dX9_restore_68 : decode cX9_restore 68 = .ok (.iconst 2, 1) := by decide +kernel
theorem dX9_restore_69 : decode cX9_restore 69 = .ok (.iaload, 1) := by decide +kernel
theorem dX9_restore_70 : decode cX9_restore 70 = .ok (.ireturn, 1) := by decide +kernel
theorem dX9_byteOf_0 : decode cX9_byteOf 0 = .ok (.iload_n 0, 1) := by decide +kernel
theorem dX9_byteOf_1 : decode cX9_byteOf 1 = .ok (.iconst 4, 1) := by decide +kernel
theorem dX9_byteOf_2 : decode cX9_byteOf 2 = .ok (.if_icmp .ge 7, 3) := by decide +kernel
theorem dX9_byteOf_5 : decode cX9_byteOf 5 = .ok (.iload_n 1, 1) := by decide +kernel
theorem dX9_byteOf_6 : decode cX9_byteOf 6 = .ok (.goto 36, 3) := by decide +kernel
theorem dX9_byteOf_9 : decode cX9_byteOf 9 = .ok (.iload_n 0, 1) := by decide +kernel
theorem dX9_byteOf_10 : decode cX9_byteOf 10 = .ok (.bipush 8, 2) := by decide +kernel
theorem dX9_byteOf_12 : decode cX9_byteOf 12 = .ok (.if_icmp .ge 7, 3) := by decide +kernel
theorem dX9_byteOf_15 : decode cX9_byteOf 15 = .ok (.iload_n 2, 1) := by decide +kernel
theorem dX9_byteOf_16 : decode cX9_byteOf 16 = .ok (.goto 26, 3) := by decide +kernel
theorem dX9_byteOf_19 : decode cX9_byteOf 19 = .ok (.iload_n 0, 1) := by decide +kernel
theorem dX9_byteOf_20 : decode cX9_byteOf 20 = .ok (.bipush 12, 2) := by decide +kernel
theorem dX9_byteOf_22 : decode cX9_byteOf 22 = .ok (.if_icmp .ge 7, 3) := by decide +kernel
theorem dX9_byteOf_25 : decode cX9_byteOf 25 = .ok (.iload_n 3, 1) := by decide +kernel
theorem dX9_byteOf_26 : decode cX9_byteOf 26 = .ok (.goto 16, 3) := by decide +kernel
theorem dX9_byteOf_29 : decode cX9_byteOf 29 = .ok (.iload_n 0, 1) := by decide +kernel
theorem dX9_byteOf_30 : decode cX9_byteOf 30 = .ok (.bipush 16, 2) := by decide +kernel
theorem dX9_byteOf_32 : decode cX9_byteOf 32 = .ok (.if_icmp .ge 8, 3) := by decide +kernel
theorem dX9_byteOf_35 : decode cX9_byteOf 35 = .ok (.iload 4, 2) := by decide +kernel
theorem dX9_byteOf_37 : decode cX9_byteOf 37 = .ok (.goto 5, 3) := by decide +kernel
theorem dX9_byteOf_40 : decode cX9_byteOf 40 = .ok (.iload 5, 2) := by decide +kernel
theorem dX9_byteOf_42 : decode cX9_byteOf 42 = .ok (.istore 6, 2) := by decide +kernel
theorem dX9_byteOf_44 : decode cX9_byteOf 44 = .ok (.iload 6, 2) := by decide +kernel
theorem dX9_byteOf_46 : decode cX9_byteOf 46 = .ok (.bipush 24, 2) := by decide +kernel
theorem dX9_byteOf_48 : decode cX9_byteOf 48 = .ok (.bipush 8, 2) := by decide +kernel
theorem dX9_byteOf_50 : decode cX9_byteOf 50 = .ok (.iload_n 0, 1) := by decide +kernel
theorem dX9_byteOf_51 : decode cX9_byteOf 51 = .ok (.iconst 4, 1) := by decide +kernel
theorem dX9_byteOf_52 : decode cX9_byteOf 52 = .ok (.irem, 1) := by decide +kernel
theorem dX9_byteOf_53 : decode cX9_byteOf 53 = .ok (.imul, 1) := by decide +kernel
theorem dX9_byteOf_54 : decode cX9_byteOf 54 = .ok (.isub, 1) := by decide +kernel
theorem dX9_byteOf_55 : decode cX9_byteOf 55 = .ok (.ishr, 1) := by decide +kernel
theorem dX9_byteOf_56 : decode cX9_byteOf 56 = .ok (.sipush 255, 3) := by decide +kernel
theorem dX9_byteOf_59 : decode cX9_byteOf 59 = .ok (.iand, 1) := by decide +kernel
theorem dX9_byteOf_60 : decode cX9_byteOf 60 = .ok (.ireturn, 1) := by decide +kernel
set_option maxRecDepth 20000 in
theorem ggX9_append_X9_byteOf : GoodIn wsX9_append wsX9_byteOf := goodIn_r _ [7] (by decide +kernel) (by decide +kernel)
set_option maxRecDepth 20000 in
theorem gX9_append_X9_byteOf : GoodIn wsX9_append (va_wsS RX9 64 yX9_byteOf wsX9_byteOf) := goodIn_app (goodIn_of _ (by decide +kernel)) ggX9_append_X9_byteOf
theorem dX9_append_0 : decode cX9_append 0 = .ok (.iconst 0, 1) := by decide +kernel
theorem dX9_append_1 : decode cX9_append 1 = .ok (.istore 6, 2) := by decide +kernel
theorem dX9_append_3 : decode cX9_append 3 = .ok (.iconst 0, 1) := by decide +kernel
theorem dX9_append_4 : decode cX9_append 4 = .ok (.istore 7, 2) := by decide +kernel
theorem dX9_append_6 : decode cX9_append 6 = .ok (.iload 7, 2) := by decide +kernel
theorem dX9_append_8 : decode cX9_append 8 = .ok (.bipush 20, 2) := by decide +kernel
theorem dX9_append_10 : decode cX9_append 10 = .ok (.if_icmp .ge 34, 3) := by decide +kernel
theorem dX9_append_13 : decode cX9_append 13 = .ok (.iload 6, 2) := by decide +kernel
theorem dX9_append_15 : decode cX9_append 15 = .ok (.iload 7, 2) := by decide +kernel
theorem dX9_append_17 : decode cX9_append 17 = .ok (.iload_n 1, 1) := by decide +kernel
theorem dX9_append_18 : decode cX9_append 18 = .ok (.iload_n 2, 1) := by decide +kernel
theorem dX9_append_19 : decode cX9_append 19 = .ok (.iload_n 3, 1) := by decide +kernel
theorem dX9_append_20 : decode cX9_append 20 = .ok (.iload 4, 2) := by decide +kernel
theorem dX9_append_22 : decode cX9_append 22 = .ok (.iload 5, 2) := by decide +kernel
theorem dX9_append_24 : decode cX9_append 24 = .ok (.invokestatic 64, 3) := by decide +kernel
theorem dX9_append_27 : decode cX9_append 27 = .ok (.ifCond .ne 7, 3) := by decide +kernel
theorem dX9_append_30 : decode cX9_append 30 = .ok (.iconst 0, 1) := by decide +kernel
theorem dX9_append_31 : decode cX9_append 31 = .ok (.goto 4, 3) := by decide +kernel
theorem dX9_append_34 : decode cX9_append 34 = .ok (.iconst 1, 1) := by decide +kernel
theorem dX9_append_35 : decode cX9_append 35 = .ok (.iadd, 1) := by decide +kernel
theorem dX9_append_36 : decode cX9_append 36 = .ok (.istore 6, 2) := by decide +kernel
theorem dX9_append_38 : decode cX9_append 38 = .ok (.iinc 7 1, 3) := by decide +kernel
theorem dX9_append_41 : decode cX9_append 41 = .ok (.goto (-35), 3) := by decide +kernel
theorem dX9_append_44 : decode cX9_append 44 = .ok (.aload_n 0, 1) := by decide +kernel
theorem dX9_append_45 : decode cX9_append 45 = .ok (.aload_n 0, 1) := by decide +kernel
theorem dX9_append_46 : decode cX9_append 46 = .ok (.getfield 68, 3) := by decide +kernel
theorem dX9_append_49 : decode cX9_append 49 = .ok (.iload 6, 2) := by decide +kernel
theorem dX9_append_51 : decode cX9_append 51 = .ok (.iadd, 1) := by decide +kernel
theorem dX9_append_52 : decode cX9_append 52 = .ok (.sipush 500, 3) := by decide +kernel
theorem dX9_append_55 : decode cX9_append 55 = .ok (.if_icmp .le 7, 3) := by decide +kernel
theorem dX9_append_58 : decode cX9_append 58 = .ok (.iconst 1, 1) := by decide +kernel
theorem dX9_append_59 : decode cX9_append 59 = .ok (.goto 4, 3) := by decide +kernel
theorem dX9_append_62 : decode cX9_append 62 = .ok (.iconst 0, 1) := by decide +kernel
theorem dX9_append_63 : decode cX9_append 63 = .ok (.putfield 46, 3) := by decide +kernel
theorem dX9_append_66 : decode cX9_append 66 = .ok (.aload_n 0, 1) := by decide +kernel
theorem dX9_append_67 : decode cX9_append 67 = .ok (.getfield 46, 3) := by decide +kernel
theorem dX9_append_70 : decode cX9_append 70 = .ok (.ifCond .le 5, 3) := by decide +kernel
theorem dX9_append_73 : decode cX9_append 73 = .ok (.iconst 0, 1) := by decide +kernel
theorem dX9_append_74 : decode cX9_append 74 = .ok (.ireturn, 1) := by decide +kernel
theorem dX9_append_75 : decode cX9_append 75 = .ok (.iconst 0, 1) := by decide +kernel
theorem dX9_append_76 : decode cX9_append 76 = .ok (.istore 7, 2) := by decide +kernel
theorem dX9_append_78 : decode cX9_append 78 = .ok (.iload 7, 2) := by decide +kernel
theorem dX9_append_80 : decode cX9_append 80 = .ok (.bipush 20, 2) := by decide +kernel
theorem dX9_append_82 : decode cX9_append 82 = .ok (.if_icmp .ge 52, 3) := by decide +kernel
theorem dX9_append_85 : decode cX9_append 85 = .ok (.iload 7, 2) := by decide +kernel
theorem dX9_append_87 : decode cX9_append 87 = .ok (.iload_n 1, 1) := by decide +kernel
theorem dX9_append_88 : decode cX9_append 88 = .ok (.iload_n 2, 1) := by decide +kernel
theorem dX9_append_89 : decode cX9_append 89 = .ok (.iload_n 3, 1) := by decide +kernel
theorem dX9_append_90 : decode cX9_append 90 = .ok (.iload 4, 2) := by decide +kernel
theorem dX9_append_92 : decode cX9_append 92 = .ok (.iload 5, 2) := by decide +kernel
theorem dX9_append_94 : decode cX9_append 94 = .ok (.invokestatic 64, 3) := by decide +kernel
theorem dX9_append_97 : decode cX9_append 97 = .ok (.istore 8, 2) := by decide +kernel
theorem dX9_append_99 : decode cX9_append 99 = .ok (.iload 8, 2) := by decide +kernel
theorem dX9_append_101 : decode cX9_append 101 = .ok (.ifCond .ne 6, 3) := by decide +kernel
theorem dX9_append_104 : decode cX9_append 104 = .ok (.goto 24, 3) := by decide +kernel
theorem dX9_append_107 : decode cX9_append 107 = .ok (.aload_n 0, 1) := by decide +kernel
theorem dX9_append_108 : decode cX9_append 108 = .ok (.getfield 26, 3) := by decide +kernel
theorem dX9_append_111 : decode cX9_append 111 = .ok (.aload_n 0, 1) := by decide +kernel
theorem dX9_append_112 : decode cX9_append 112 = .ok (.getfield 68, 3) := by decide +kernel
theorem dX9_append_115 : decode cX9_append 115 = .ok (.iload 8, 2) := by decide +kernel
theorem dX9_append_117 : decode cX9_append 117 = .ok (.iastore, 1) := by decide +kernel
theorem dX9_append_118 : decode cX9_append 118 = .ok (.aload_n 0, 1) := by decide +kernel
theorem dX9_append_119 : decode cX9_append 119 = .ok (.dup, 1) := by decide +kernel
theorem dX9_append_120 : decode cX9_append 120 = .ok (.getfield 68, 3) := by decide +kernel
theorem dX9_append_123 : decode cX9_append 123 = .ok (.iconst 1, 1) := by decide +kernel
theorem dX9_append_124 : decode cX9_append 124 = .ok (.iadd, 1) := by decide +kernel
theorem dX9_append_125 : decode cX9_append 125 = .ok (.putfield 68, 3) := by decide +kernel
theorem dX9_append_128 : decode cX9_append 128 = .ok (.iinc 7 1, 3) := by decide +kernel
theorem dX9_append_131 : decode cX9_append 131 = .ok (.goto (-53), 3) := by decide +kernel
theorem dX9_append_134 : decode cX9_append 134 = .ok (.aload_n 0, 1) := by decide +kernel
theorem dX9_append_135 : decode cX9_append 135 = .ok (.getfield 68, 3) := by decide +kernel
theorem dX9_append_138 : decode cX9_append 138 = .ok (.ireturn, 1) := by decide +kernel
theorem dX9_see_0 : decode cX9_see 0 = .ok (.iload_n 1, 1) := by decide +kernel
theorem dX9_see_1 : decode cX9_see 1 = .ok (.aload_n 0, 1) := by decide +kernel
theorem dX9_see_2 : decode cX9_see 2 = .ok (.getfield 68, 3) := by decide +kernel
theorem dX9_see_5 : decode cX9_see 5 = .ok (.if_icmp .ge 12, 3) := by decide +kernel
theorem dX9_see_8 : decode cX9_see 8 = .ok (.aload_n 0, 1) := by decide +kernel
theorem dX9_see_9 : decode cX9_see 9 = .ok (.getfield 26, 3) := by decide +kernel
theorem dX9_see_12 : decode cX9_see 12 = .ok (.iload_n 1, 1) := by decide +kernel
theorem dX9_see_13 : decode cX9_see 13 = .ok (.iaload, 1) := by decide +kernel
theorem dX9_see_14 : decode cX9_see 14 = .ok (.goto 4, 3) := by decide +kernel
theorem dX9_see_17 : decode cX9_see 17 = .ok (.iconst (-1), 1) := by decide +kernel
theorem dX9_see_18 : decode cX9_see 18 = .ok (.ireturn, 1) := by decide +kernel
set_option maxRecDepth 20000 in
theorem ggX9_isLetter_X9_see : GoodIn wsX9_isLetter wsX9_see := goodIn_r _ [5, 6, 7, 11, 12, 13, 14, 15, 16, 17, 18, 19, 20, 21, 22, 23, 24, 25, 26, 27, 28, 29, 30, 31, 32] (by decide +kernel) (by decide +kernel)
set_option maxRecDepth 20000 in
theorem gX9_isLetter_X9_see : GoodIn wsX9_isLetter (wsV RX9 71 RX9 yX9_see wsX9_see) := goodIn_app (goodIn_of _ (by decide +kernel)) ggX9_isLetter_X9_see
set_option maxRecDepth 20000 in
theorem ggX9_isLetter_X9_isIn : GoodIn wsX9_isLetter wsX9_isIn := goodIn_r _ [10] (by decide +kernel) (by decide +kernel)
set_option maxRecDepth 20000 in
theorem gX9_isLetter_X9_isIn : GoodIn wsX9_isLetter (va_wsS RX9 56 yX9_isIn wsX9_isIn) := goodIn_app (goodIn_of _ (by decide +kernel)) ggX9_isLetter_X9_isIn
theorem dX9_isLetter_0 : decode cX9_isLetter 0 = .ok (.aload_n 0, 1) := by decide +kernel
theorem dX9_isLetter_1 : decode cX9_isLetter 1 = .ok (.iload_n 1, 1) := by decide +kernel
theorem dX9_isLetter_2 : decode cX9_isLetter 2 = .ok (.invokevirtual 71, 3) := by decide +kernel
theorem dX9_isLetter_5 : decode cX9_isLetter 5 = .ok (.bipush 97, 2) := by decide +kernel
theorem dX9_isLetter_7 : decode cX9_isLetter 7 = .ok (.bipush 122, 2) := by decide +kernel
theorem dX9_isLetter_9 : decode cX9_isLetter 9 = .ok (.invokestatic 56, 3) := by decide +kernel
theorem dX9_isLetter_12 : decode cX9_isLetter 12 = .ok (.ireturn, 1) := by decide +kernel
set_option maxRecDepth 20000 in
theorem ggX9_isDigit_X9_see : GoodIn wsX9_isDigit wsX9_see := goodIn_r _ [5, 6, 7, 11, 12, 13, 14, 15, 16, 17, 18, 19, 20, 21, 22, 23, 24, 25, 26, 27, 28, 29, 30, 31, 32] (by decide +kernel) (by decide +kernel)
set_option maxRecDepth 20000 in
theorem gX9_isDigit_X9_see : GoodIn wsX9_isDigit (wsV RX9 71 RX9 yX9_see wsX9_see) := goodIn_app (goodIn_of _ (by decide +kernel)) ggX9_isDigit_X9_see
set_option maxRecDepth 20000 in
theorem ggX9_isDigit_X9_isIn : GoodIn wsX9_isDigit wsX9_isIn := goodIn_r _ [10] (by decide +kernel) (by decide +kernel)
set_option maxRecDepth 20000 in
theorem gX9_isDigit_X9_isIn : GoodIn wsX9_isDigit (va_wsS RX9 56 yX9_isIn wsX9_isIn) := goodIn_app (goodIn_of _ (by decide +kernel)) ggX9_isDigit_X9_isIn
theorem dX9_isDigit_0 : decode cX9_isDigit 0 = .ok (.aload_n 0, 1) := by decide +kernel
theorem dX9_isDigit_1 : decode cX9_isDigit 1 = .ok (.iload_n 1, 1) := by decide +kernel
theorem dX9_isDigit_2 : decode cX9_isDigit 2 = .ok (.invokevirtual 71, 3) := by decide +kernel
theorem dX9_isDigit_5 : decode cX9_isDigit 5 = .ok (.bipush 48, 2) := by decide +kernel
theorem dX9_isDigit_7 : decode cX9_isDigit 7 = .ok (.bipush 57, 2) := by decide +kernel
theorem dX9_isDigit_9 : decode cX9_isDigit 9 = .ok (.invokestatic 56, 3) := by decide +kernel
theorem dX9_isDigit_12 : decode cX9_isDigit 12 = .ok (.ireturn, 1) := by decide +kernel
set_option maxRecDepth 20000 in
theorem ggX9_next_X9_see : GoodIn wsX9_next wsX9_see := goodIn_r _ [15, 4, 16, 28, 29, 30, 31, 32, 33, 34, 35, 36, 37, 38, 39, 40, 41, 42, 43, 44, 45, 46, 47, 48, 49] (by decide +kernel) (by decide +kernel)
set_option maxRecDepth 20000 in
theorem gX9_next_X9_see : GoodIn wsX9_next (wsV RX9 71 RX9 yX9_see wsX9_see) := goodIn_app (goodIn_of _ (by decide +kernel)) ggX9_next_X9_see
set_option maxRecDepth 20000 in
theorem ggX9_next_X9_isLetter : GoodIn wsX9_next wsX9_isLetter := goodIn_r _ [20, 11, 12, 13, 14, 15, 4, 16, 21, 22, 23, 28, 29, 30, 31, 32, 33, 34, 35, 36, 37, 38, 39, 40, 41, 42, 43, 44, 45, 46, 47, 48, 49] (by decide +kernel) (by decide +kernel)
set_option maxRecDepth 20000 in
theorem gX9_next_X9_isLetter : GoodIn wsX9_next (wsV RX9 87 RX9 yX9_isLetter wsX9_isLetter) := goodIn_app (goodIn_of _ (by decide +kernel)) ggX9_next_X9_isLetter
set_option maxRecDepth 20000 in
theorem ggX9_next_X9_isDigit : GoodIn wsX9_next wsX9_isDigit := goodIn_r _ [27, 11, 12, 13, 14, 15, 4, 16, 21, 22, 23, 28, 29, 30, 31, 32, 33, 34, 35, 36, 37, 38, 39, 40, 41, 42, 43, 44, 45, 46, 47, 48, 49] (by decide +kernel) (by decide +kernel)
set_option maxRecDepth 20000 in
theorem gX9_next_X9_isDigit : GoodIn wsX9_next (wsV RX9 91 RX9 yX9_isDigit wsX9_isDigit) := goodIn_app (goodIn_of _ (by decide +kernel)) ggX9_next_X9_isDigit
theorem dX9_next_0 : decode cX9_next 0 = .ok (.aload_n 0, 1) := by decide +kernel
theorem dX9_next_1 : decode cX9_next 1 = .ok (.aload_n 0, 1) := by decide +kernel
theorem dX9_next_2 : decode cX9_next 2 = .ok (.getfield 75, 3) := by decide +kernel
theorem dX9_next_5 : decode cX9_next 5 = .ok (.putfield 78, 3) := by decide +kernel
theorem dX9_next_8 : decode cX9_next 8 = .ok (.aload_n 0, 1) := by decide +kernel
theorem dX9_next_9 : decode cX9_next 9 = .ok (.aload_n 0, 1) := by decide +kernel
theorem dX9_next_10 : decode cX9_next 10 = .ok (.getfield 78, 3) := by decide +kernel
theorem dX9_next_13 : decode cX9_next 13 = .ok (.invokevirtual 71, 3) := by decide +kernel
theorem dX9_next_16 : decode cX9_next 16 = .ok (.bipush 32, 2) := by decide +kernel
theorem dX9_next_18 : decode cX9_next 18 = .ok (.if_icmp .ne 16, 3) := by decide +kernel
theorem dX9_next_21 : decode cX9_next 21 = .ok (.aload_n 0, 1) := by decide +kernel
theorem dX9_next_22 : decode cX9_next 22 = .ok (.dup, 1) := by decide +kernel
theorem dX9_next_23 : decode cX9_next 23 = .ok (.getfield 78, 3) := by decide +kernel
theorem dX9_next_26 : decode cX9_next 26 = .ok (.iconst 1, 1) := by decide +kernel
theorem dX9_next_27 : decode cX9_next 27 = .ok (.iadd, 1) := by decide +kernel
theorem dX9_next_28 : decode cX9_next 28 = .ok (.putfield 78, 3) := by decide +kernel
theorem dX9_next_31 : decode cX9_next 31 = .ok (.goto (-23), 3) := by decide +kernel
theorem dX9_next_34 : decode cX9_next 34 = .ok (.aload_n 0, 1) := by decide +kernel
theorem dX9_next_35 : decode cX9_next 35 = .ok (.aload_n 0, 1) := by decide +kernel
theorem dX9_next_36 : decode cX9_next 36 = .ok (.getfield 78, 3) := by decide +kernel
theorem dX9_next_39 : decode cX9_next 39 = .ok (.putfield 75, 3) := by decide +kernel
theorem dX9_next_42 : decode cX9_next 42 = .ok (.aload_n 0, 1) := by decide +kernel
theorem dX9_next_43 : decode cX9_next 43 = .ok (.iconst 0, 1) := by decide +kernel
theorem dX9_next_44 : decode cX9_next 44 = .ok (.putfield 81, 3) := by decide +kernel
theorem dX9_next_47 : decode cX9_next 47 = .ok (.aload_n 0, 1) := by decide +kernel
theorem dX9_next_48 : decode cX9_next 48 = .ok (.getfield 78, 3) := by decide +kernel
theorem dX9_next_51 : decode cX9_next 51 = .ok (.aload_n 0, 1) := by decide +kernel
theorem dX9_next_52 : decode cX9_next 52 = .ok (.getfield 68, 3) := by decide +kernel
theorem dX9_next_55 : decode cX9_next 55 = .ok (.if_icmp .lt 11, 3) := by decide +kernel
theorem dX9_next_58 : decode cX9_next 58 = .ok (.aload_n 0, 1) := by decide +kernel
theorem dX9_next_59 : decode cX9_next 59 = .ok (.iconst 3, 1) := by decide +kernel
theorem dX9_next_60 : decode cX9_next 60 = .ok (.putfield 84, 3) := by decide +kernel
theorem dX9_next_63 : decode cX9_next 63 = .ok (.goto 132, 3) := by decide +kernel
theorem dX9_next_66 : decode cX9_next 66 = .ok (.aload_n 0, 1) := by decide +kernel
theorem dX9_next_67 : decode cX9_next 67 = .ok (.aload_n 0, 1) := by decide +kernel
theorem dX9_next_68 : decode cX9_next 68 = .ok (.getfield 78, 3) := by decide +kernel
theorem dX9_next_71 : decode cX9_next 71 = .ok (.invokevirtual 87, 3) := by decide +kernel
theorem dX9_next_74 : decode cX9_next 74 = .ok (.ifCond .eq 35, 3) := by decide +kernel
theorem dX9_next_77 : decode cX9_next 77 = .ok (.aload_n 0, 1) := by decide +kernel
theorem dX9_next_78 : decode cX9_next 78 = .ok (.aload_n 0, 1) := by decide +kernel
theorem dX9_next_79 : decode cX9_next 79 = .ok (.getfield 75, 3) := by decide +kernel
theorem dX9_next_82 : decode cX9_next 82 = .ok (.invokevirtual 87, 3) := by decide +kernel
theorem dX9_next_85 : decode cX9_next 85 = .ok (.ifCond .eq 16, 3) := by decide +kernel
theorem dX9_next_88 : decode cX9_next 88 = .ok (.aload_n 0, 1) := by decide +kernel
theorem dX9_next_89 : decode cX9_next 89 = .ok (.dup, 1) := by decide +kernel
theorem dX9_next_90 : decode cX9_next 90 = .ok (.getfield 75, 3) := by decide +kernel
theorem dX9_next_93 : decode cX9_next 93 = .ok (.iconst 1, 1) := by decide +kernel
theorem dX9_next_94 : decode cX9_next 94 = .ok (.iadd, 1) := by decide +kernel
theorem dX9_next_95 : decode cX9_next 95 = .ok (.putfield 75, 3) := by decide +kernel
theorem dX9_next_98 : decode cX9_next 98 = .ok (.goto (-21), 3) := by decide +kernel
theorem dX9_next_101 : decode cX9_next 101 = .ok (.aload_n 0, 1) := by decide +kernel
theorem dX9_next_102 : decode cX9_next 102 = .ok (.iconst 0, 1) := by decide +kernel
theorem dX9_next_103 : decode cX9_next 103 = .ok (.putfield 84, 3) := by decide +kernel
theorem dX9_next_106 : decode cX9_next 106 = .ok (.goto 89, 3) := by decide +kernel
theorem dX9_next_109 : decode cX9_next 109 = .ok (.aload_n 0, 1) := by decide +kernel
theorem dX9_next_110 : decode cX9_next 110 = .ok (.aload_n 0, 1) := by decide +kernel
theorem dX9_next_111 : decode cX9_next 111 = .ok (.getfield 78, 3) := by decide +kernel
theorem dX9_next_114 : decode cX9_next 114 = .ok (.invokevirtual 91, 3) := by decide +kernel
theorem dX9_next_117 : decode cX9_next 117 = .ok (.ifCond .eq 63, 3) := by decide +kernel
theorem dX9_next_120 : decode cX9_next 120 = .ok (.aload_n 0, 1) := by decide +kernel
theorem dX9_next_121 : decode cX9_next 121 = .ok (.aload_n 0, 1) := by decide +kernel
theorem dX9_next_122 : decode cX9_next 122 = .ok (.getfield 75, 3) := by decide +kernel
theorem dX9_next_125 : decode cX9_next 125 = .ok (.invokevirtual 91, 3) := by decide +kernel
theorem dX9_next_128 : decode cX9_next 128 = .ok (.ifCond .eq 44, 3) := by decide +kernel
theorem dX9_next_131 : decode cX9_next 131 = .ok (.aload_n 0, 1) := by decide +kernel
theorem dX9_next_132 : decode cX9_next 132 = .ok (.ldc 94, 2) := by decide +kernel
theorem dX9_next_134 : decode cX9_next 134 = .ok (.bipush 10, 2) := by decide +kernel
theorem dX9_next_136 : decode cX9_next 136 = .ok (.aload_n 0, 1) := by decide +kernel
theorem dX9_next_137 : decode cX9_next 137 = .ok (.getfield 81, 3) := by decide +kernel
theorem dX9_next_140 : decode cX9_next 140 = .ok (.imul, 1) := by decide +kernel
theorem dX9_next_141 : decode cX9_next 141 = .ok (.aload_n 0, 1) := by decide +kernel
theorem dX9_next_142 : decode cX9_next 142 = .ok (.aload_n 0, 1) := by decide +kernel
theorem dX9_next_143 : decode cX9_next 143 = .ok (.getfield 75, 3) := by decide +kernel
theorem dX9_next_146 : decode cX9_next 146 = .ok (.invokevirtual 71, 3) := by decide +kernel
theorem dX9_next_149 : decode cX9_next 149 = .ok (.iadd, 1) := by decide +kernel
theorem dX9_next_150 : decode cX9_next 150 = .ok (.bipush 48, 2) := by decide +kernel
theorem dX9_next_152 : decode cX9_next 152 = .ok (.isub, 1) := by decide +kernel
theorem dX9_next_153 : decode cX9_next 153 = .ok (.invokestatic 95, 3) := by decide +kernel
theorem dX9_next_156 : decode cX9_next 156 = .ok (.putfield 81, 3) := by decide +kernel
theorem dX9_next_159 : decode cX9_next 159 = .ok (.aload_n 0, 1) := by decide +kernel
theorem dX9_next_160 : decode cX9_next 160 = .ok (.dup, 1) := by decide +kernel
theorem dX9_next_161 : decode cX9_next 161 = .ok (.getfield 75, 3) := by decide +kernel
theorem dX9_next_164 : decode cX9_next 164 = .ok (.iconst 1, 1) := by decide +kernel
theorem dX9_next_165 : decode cX9_next 165 = .ok (.iadd, 1) := by decide +kernel
theorem dX9_next_166 : decode cX9_next 166 = .ok (.putfield 75, 3) := by decide +kernel
theorem dX9_next_169 : decode cX9_next 169 = .ok (.goto (-49), 3) := by decide +kernel
theorem dX9_next_172 : decode cX9_next 172 = .ok (.aload_n 0, 1) := by decide +kernel
theorem dX9_next_173 : decode cX9_next 173 = .ok (.iconst 1, 1) := by decide +kernel
theorem dX9_next_174 : decode cX9_next 174 = .ok (.putfield 84, 3) := by decide +kernel
theorem dX9_next_177 : decode cX9_next 177 = .ok (.goto 18, 3) := by decide +kernel
theorem dX9_next_180 : decode cX9_next 180 = .ok (.aload_n 0, 1) := by decide +kernel
theorem dX9_next_181 : decode cX9_next 181 = .ok (.dup, 1) := by decide +kernel
theorem dX9_next_182 : decode cX9_next 182 = .ok (.getfield 75, 3) := by decide +kernel
theorem dX9_next_185 : decode cX9_next 185 = .ok (.iconst 1, 1) := by decide +kernel
theorem dX9_next_186 : decode cX9_next 186 = .ok (.iadd, 1) := by decide +kernel
theorem dX9_next_187 : decode cX9_next 187 = .ok (.putfield 75, 3) := by decide +kernel
theorem dX9_next_190 : decode cX9_next 190 = .ok (.aload_n 0, 1) := by decide +kernel
theorem dX9_next_191 : decode cX9_next 191 = .ok (.iconst 2, 1) := by decide +kernel
theorem dX9_next_192 : decode cX9_next 192 = .ok (.putfield 84, 3) := by decide +kernel
theorem dX9_next_195 : decode cX9_next 195 = .ok (.return_, 1) := by decide +kernel
set_option maxRecDepth 20000 in
theorem ggX9_isWord_J0_length_8abf5 : GoodIn wsX9_isWord wsJ0_length_8abf5 := goodIn_r _ [10, 11, 12, 13, 14, 9, 15, 16, 17] (by decide +kernel) (by decide +kernel)
set_option maxRecDepth 20000 in
theorem gX9_isWord_J0_length_8abf5 : GoodIn wsX9_isWord (wsV RX9 104 RJ0 yJ0_length_8abf5 wsJ0_length_8abf5) := goodIn_app (goodIn_of _ (by decide +kernel)) ggX9_isWord_J0_length_8abf5
set_option maxRecDepth 20000 in
theorem ggX9_isWord_J0_charAt_5068e : GoodIn wsX9_isWord wsJ0_charAt_5068e := goodIn_r _ [21, 11, 22, 23, 24, 9, 25, 16, 17, 26, 27, 28, 29, 30, 31, 32, 33, 34, 35, 36, 37, 38, 39, 40, 41, 42, 43, 44, 45, 46, 47, 48, 49, 50, 51, 52, 53, 54] (by decide +kernel) (by decide +kernel)
set_option maxRecDepth 20000 in
theorem gX9_isWord_J0_charAt_5068e : GoodIn wsX9_isWord (wsV RX9 110 RJ0 yJ0_charAt_5068e wsJ0_charAt_5068e) := goodIn_app (goodIn_of _ (by decide +kernel)) ggX9_isWord_J0_charAt_5068e
theorem dX9_isWord_0 : decode cX9_isWord 0 = .ok (.aload_n 0, 1) := by decide +kernel
theorem dX9_isWord_1 : decode cX9_isWord 1 = .ok (.getfield 101, 3) := by decide +kernel
theorem dX9_isWord_4 : decode cX9_isWord 4 = .ok (.ifCond .ne 26, 3) := by decide +kernel
theorem dX9_isWord_7 : decode cX9_isWord 7 = .ok (.aload_n 0, 1) := by decide +kernel
theorem dX9_isWord_8 : decode cX9_isWord 8 = .ok (.getfield 84, 3) := by decide +kernel
theorem dX9_isWord_11 : decode cX9_isWord 11 = .ok (.ifCond .ne 19, 3) := by decide +kernel
theorem dX9_isWord_14 : decode cX9_isWord 14 = .ok (.aload_n 0, 1) := by decide +kernel
theorem dX9_isWord_15 : decode cX9_isWord 15 = .ok (.getfield 75, 3) := by decide +kernel
theorem dX9_isWord_18 : decode cX9_isWord 18 = .ok (.aload_n 0, 1) := by decide +kernel
theorem dX9_isWord_19 : decode cX9_isWord 19 = .ok (.getfield 78, 3) := by decide +kernel
theorem dX9_isWord_22 : decode cX9_isWord 22 = .ok (.isub, 1) := by decide +kernel
theorem dX9_isWord_23 : decode cX9_isWord 23 = .ok (.aload_n 1, 1) := by decide +kernel
theorem dX9_isWord_24 : decode cX9_isWord 24 = .ok (.invokevirtual 104, 3) := by decide +kernel
theorem dX9_isWord_27 : decode cX9_isWord 27 = .ok (.if_icmp .eq 5, 3) := by decide +kernel
theorem dX9_isWord_30 : decode cX9_isWord 30 = .ok (.iconst 0, 1) := by decide +kernel
theorem dX9_isWord_31 : decode cX9_isWord 31 = .ok (.ireturn, 1) := by decide +kernel
theorem dX9_isWord_32 : decode cX9_isWord 32 = .ok (.iconst 0, 1) := by decide +kernel
theorem dX9_isWord_33 : decode cX9_isWord 33 = .ok (.istore_n 2, 1) := by decide +kernel
theorem dX9_isWord_34 : decode cX9_isWord 34 = .ok (.iload_n 2, 1) := by decide +kernel
theorem dX9_isWord_35 : decode cX9_isWord 35 = .ok (.aload_n 1, 1) := by decide +kernel
theorem dX9_isWord_36 : decode cX9_isWord 36 = .ok (.invokevirtual 104, 3) := by decide +kernel
theorem dX9_isWord_39 : decode cX9_isWord 39 = .ok (.if_icmp .ge 30, 3) := by decide +kernel
theorem dX9_isWord_42 : decode cX9_isWord 42 = .ok (.aload_n 0, 1) := by decide +kernel
theorem dX9_isWord_43 : decode cX9_isWord 43 = .ok (.getfield 26, 3) := by decide +kernel
theorem dX9_isWord_46 : decode cX9_isWord 46 = .ok (.aload_n 0, 1) := by decide +kernel
theorem dX9_isWord_47 : decode cX9_isWord 47 = .ok (.getfield 78, 3) := by decide +kernel
theorem dX9_isWord_50 : decode cX9_isWord 50 = .ok (.iload_n 2, 1) := by decide +kernel
theorem dX9_isWord_51 : decode cX9_isWord 51 = .ok (.iadd, 1) := by decide +kernel
theorem dX9_isWord_52 : decode cX9_isWord 52 = .ok (.iaload, 1) := by decide +kernel
theorem dX9_isWord_53 : decode cX9_isWord 53 = .ok (.aload_n 1, 1) := by decide +kernel
theorem dX9_isWord_54 : decode cX9_isWord 54 = .ok (.iload_n 2, 1) := by decide +kernel
theorem dX9_isWord_55 : decode cX9_isWord 55 = .ok (.invokevirtual 110, 3) := by decide +kernel
theorem dX9_isWord_58 : decode cX9_isWord 58 = .ok (.if_icmp .eq 5, 3) := by decide +kernel
theorem dX9_isWord_61 : decode cX9_isWord 61 = .ok (.iconst 0, 1) := by decide +kernel
theorem dX9_isWord_62 : decode cX9_isWord 62 = .ok (.ireturn, 1) := by decide +kernel
theorem dX9_isWord_63 : decode cX9_isWord 63 = .ok (.iinc 2 1, 3) := by decide +kernel
theorem dX9_isWord_66 : decode cX9_isWord 66 = .ok (.goto (-32), 3) := by decide +kernel
theorem dX9_isWord_69 : decode cX9_isWord 69 = .ok (.iconst 1, 1) := by decide +kernel
theorem dX9_isWord_70 : decode cX9_isWord 70 = .ok (.ireturn, 1) := by decide +kernel
theorem dX9_fails_0 : decode cX9_fails 0 = .ok (.aload_n 0, 1) := by decide +kernel
theorem dX9_fails_1 : decode cX9_fails 1 = .ok (.getfield 101, 3) := by decide +kernel
theorem dX9_fails_4 : decode cX9_fails 4 = .ok (.ifCond .eq 4, 3) := by decide +kernel
theorem dX9_fails_7 : decode cX9_fails 7 = .ok (.return_, 1) := by decide +kernel
theorem dX9_fails_8 : decode cX9_fails 8 = .ok (.aload_n 0, 1) := by decide +kernel
theorem dX9_fails_9 : decode cX9_fails 9 = .ok (.iload_n 1, 1) := by decide +kernel
theorem dX9_fails_10 : decode cX9_fails 10 = .ok (.putfield 101, 3) := by decide +kernel
theorem dX9_fails_13 : decode cX9_fails 13 = .ok (.aload_n 0, 1) := by decide +kernel
theorem dX9_fails_14 : decode cX9_fails 14 = .ok (.aload_n 0, 1) := by decide +kernel
theorem dX9_fails_15 : decode cX9_fails 15 = .ok (.getfield 78, 3) := by decide +kernel
theorem dX9_fails_18 : decode cX9_fails 18 = .ok (.putfield 114, 3) := by decide +kernel
theorem dX9_fails_21 : decode cX9_fails 21 = .ok (.return_, 1) := by decide +kernel
set_option maxRecDepth 20000 in
theorem ggX9_must_X9_fails : GoodIn wsX9_must wsX9_fails := goodIn_r _ [6, 1, 7, 8, 38, 39, 40, 41, 42, 43, 44, 45, 46, 47, 48, 49, 50, 51, 52, 53, 54, 55, 56, 57, 58, 59] (by decide +kernel) (by decide +kernel)
set_option maxRecDepth 20000 in
theorem gX9_must_X9_fails : GoodIn wsX9_must (wsV RX9 117 RX9 yX9_fails wsX9_fails) := goodIn_app (goodIn_of _ (by decide +kernel)) ggX9_must_X9_fails
set_option maxRecDepth 20000 in
theorem ggX9_must_X9_next : GoodIn wsX9_must wsX9_next := goodIn_r _ [12, 13, 7, 14, 15, 16, 17, 18, 19, 20, 21, 22, 23, 24, 5, 25, 26, 27, 28, 29, 30, 31, 32, 33, 34, 35, 36, 37, 38, 39, 40, 41, 42, 43, 44, 45, 46, 47, 48, 49, 50, 51, 52, 53, 54, 55, 56, 57, 58, 59] (by decide +kernel) (by decide +kernel)
set_option maxRecDepth 20000 in
theorem gX9_must_X9_next : GoodIn wsX9_must (wsV RX9 121 RX9 yX9_next wsX9_next) := goodIn_app (goodIn_of _ (by decide +kernel)) ggX9_must_X9_next
theorem dX9_must_0 : decode cX9_must 0 = .ok (.iload_n 1, 1) := by decide +kernel
theorem dX9_must_1 : decode cX9_must 1 = .ok (.ifCond .ne 9, 3) := by decide +kernel
theorem dX9_must_4 : decode cX9_must 4 = .ok (.aload_n 0, 1) := by decide +kernel
theorem dX9_must_5 : decode cX9_must 5 = .ok (.bipush (-2), 2) := by decide +kernel
theorem dX9_must_7 : decode cX9_must 7 = .ok (.invokevirtual 117, 3) := by decide +kernel
theorem dX9_must_10 : decode cX9_must 10 = .ok (.aload_n 0, 1) := by decide +kernel
theorem dX9_must_11 : decode cX9_must 11 = .ok (.getfield 101, 3) := by decide +kernel
theorem dX9_must_14 : decode cX9_must 14 = .ok (.ifCond .ne 7, 3) := by decide +kernel
theorem dX9_must_17 : decode cX9_must 17 = .ok (.aload_n 0, 1) := by decide +kernel
theorem dX9_must_18 : decode cX9_must 18 = .ok (.invokevirtual 121, 3) := by decide +kernel
theorem dX9_must_21 : decode cX9_must 21 = .ok (.return_, 1) := by decide +kernel
set_option maxRecDepth 20000 in
theorem ggX9_mustEnd_X9_see : GoodIn wsX9_mustEnd wsX9_see := goodIn_r _ [7, 8, 9, 42, 43, 44, 45, 46, 47, 48, 49, 50, 51, 52, 53, 54, 55, 56, 57, 58, 59, 60, 61, 62, 63] (by decide +kernel) (by decide +kernel)
set_option maxRecDepth 20000 in
theorem gX9_mustEnd_X9_see : GoodIn wsX9_mustEnd (wsV RX9 71 RX9 yX9_see wsX9_see) := goodIn_app (goodIn_of _ (by decide +kernel)) ggX9_mustEnd_X9_see
set_option maxRecDepth 20000 in
theorem ggX9_mustEnd_X9_must : GoodIn wsX9_mustEnd wsX9_must := goodIn_r _ [13, 14, 15, 16, 17, 6, 18, 2, 19, 20, 21, 22, 23, 24, 25, 8, 1, 26, 27, 28, 29, 30, 3, 4, 5, 7, 9, 31, 32, 33, 34, 35, 36, 37, 38, 39, 40, 41, 42, 43, 44, 45, 46, 47, 48, 49, 50, 51, 52, 53, 54, 55, 56, 57, 58, 59, 60, 61, 62, 63] (by decide +kernel) (by decide +kernel)
set_option maxRecDepth 20000 in
theorem gX9_mustEnd_X9_must : GoodIn wsX9_mustEnd (wsV RX9 124 RX9 yX9_must wsX9_must) := goodIn_app (goodIn_of _ (by decide +kernel)) ggX9_mustEnd_X9_must
theorem dX9_mustEnd_0 : decode cX9_mustEnd 0 = .ok (.aload_n 0, 1) := by decide +kernel
theorem dX9_mustEnd_1 : decode cX9_mustEnd 1 = .ok (.aload_n 0, 1) := by decide +kernel
theorem dX9_mustEnd_2 : decode cX9_mustEnd 2 = .ok (.getfield 84, 3) := by decide +kernel
theorem dX9_mustEnd_5 : decode cX9_mustEnd 5 = .ok (.iconst 2, 1) := by decide +kernel
theorem dX9_mustEnd_6 : decode cX9_mustEnd 6 = .ok (.if_icmp .ne 20, 3) := by decide +kernel
theorem dX9_mustEnd_9 : decode cX9_mustEnd 9 = .ok (.aload_n 0, 1) := by decide +kernel
theorem dX9_mustEnd_10 : decode cX9_mustEnd 10 = .ok (.aload_n 0, 1) := by decide +kernel
theorem dX9_mustEnd_11 : decode cX9_mustEnd 11 = .ok (.getfield 78, 3) := by decide +kernel
theorem dX9_mustEnd_14 : decode cX9_mustEnd 14 = .ok (.invokevirtual 71, 3) := by decide +kernel
theorem dX9_mustEnd_17 : decode cX9_mustEnd 17 = .ok (.bipush 59, 2) := by decide +kernel
theorem dX9_mustEnd_19 : decode cX9_mustEnd 19 = .ok (.if_icmp .ne 7, 3) := by decide +kernel
theorem dX9_mustEnd_22 : decode cX9_mustEnd 22 = .ok (.iconst 1, 1) := by decide +kernel
theorem dX9_mustEnd_23 : decode cX9_mustEnd 23 = .ok (.goto 4, 3) := by decide +kernel
theorem dX9_mustEnd_26 : decode cX9_mustEnd 26 = .ok (.iconst 0, 1) := by decide +kernel
theorem dX9_mustEnd_27 : decode cX9_mustEnd 27 = .ok (.invokevirtual 124, 3) := by decide +kernel
theorem dX9_mustEnd_30 : decode cX9_mustEnd 30 = .ok (.return_, 1) := by decide +kernel
set_option maxRecDepth 20000 in
theorem ggX9_stands_X9_fails : GoodIn wsX9_stands wsX9_fails := goodIn_r _ [8, 1, 9, 10, 14, 15, 16, 17, 18, 19, 20, 21, 22, 23, 24, 25, 26, 27, 28, 29, 30, 31, 32, 33, 34, 35] (by decide +kernel) (by decide +kernel)
set_option maxRecDepth 20000 in
theorem gX9_stands_X9_fails : GoodIn wsX9_stands (wsV RX9 117 RX9 yX9_fails wsX9_fails) := goodIn_app (goodIn_of _ (by decide +kernel)) ggX9_stands_X9_fails
set_option maxRecDepth 20000 in
theorem ggX9_stands_X9_isIn : GoodIn wsX9_stands wsX9_isIn := goodIn_r _ [13] (by decide +kernel) (by decide +kernel)
set_option maxRecDepth 20000 in
theorem gX9_stands_X9_isIn : GoodIn wsX9_stands (va_wsS RX9 56 yX9_isIn wsX9_isIn) := goodIn_app (goodIn_of _ (by decide +kernel)) ggX9_stands_X9_isIn
theorem dX9_stands_0 : decode cX9_stands 0 = .ok (.aload_n 0, 1) := by decide +kernel
theorem dX9_stands_1 : decode cX9_stands 1 = .ok (.getfield 101, 3) := by decide +kernel
theorem dX9_stands_4 : decode cX9_stands 4 = .ok (.ifCond .ne 17, 3) := by decide +kernel
theorem dX9_stands_7 : decode cX9_stands 7 = .ok (.aload_n 0, 1) := by decide +kernel
theorem dX9_stands_8 : decode cX9_stands 8 = .ok (.getfield 84, 3) := by decide +kernel
theorem dX9_stands_11 : decode cX9_stands 11 = .ok (.iconst 1, 1) := by decide +kernel
theorem dX9_stands_12 : decode cX9_stands 12 = .ok (.if_icmp .eq 9, 3) := by decide +kernel
theorem dX9_stands_15 : decode cX9_stands 15 = .ok (.aload_n 0, 1) := by decide +kernel
theorem dX9_stands_16 : decode cX9_stands 16 = .ok (.bipush (-2), 2) := by decide +kernel
theorem dX9_stands_18 : decode cX9_stands 18 = .ok (.invokevirtual 117, 3) := by decide +kernel
theorem dX9_stands_21 : decode cX9_stands 21 = .ok (.aload_n 0, 1) := by decide +kernel
theorem dX9_stands_22 : decode cX9_stands 22 = .ok (.getfield 101, 3) := by decide +kernel
theorem dX9_stands_25 : decode cX9_stands 25 = .ok (.ifCond .ne 21, 3) := by decide +kernel
theorem dX9_stands_28 : decode cX9_stands 28 = .ok (.aload_n 0, 1) := by decide +kernel
theorem dX9_stands_29 : decode cX9_stands 29 = .ok (.getfield 81, 3) := by decide +kernel
theorem dX9_stands_32 : decode cX9_stands 32 = .ok (.iload_n 1, 1) := by decide +kernel
theorem dX9_stands_33 : decode cX9_stands 33 = .ok (.iload_n 2, 1) := by decide +kernel
theorem dX9_stands_34 : decode cX9_stands 34 = .ok (.invokestatic 56, 3) := by decide +kernel
theorem dX9_stands_37 : decode cX9_stands 37 = .ok (.ifCond .ne 9, 3) := by decide +kernel
theorem dX9_stands_40 : decode cX9_stands 40 = .ok (.aload_n 0, 1) := by decide +kernel
theorem dX9_stands_41 : decode cX9_stands 41 = .ok (.bipush (-3), 2) := by decide +kernel
theorem dX9_stands_43 : decode cX9_stands 43 = .ok (.invokevirtual 117, 3) := by decide +kernel
theorem dX9_stands_46 : decode cX9_stands 46 = .ok (.aload_n 0, 1) := by decide +kernel
theorem dX9_stands_47 : decode cX9_stands 47 = .ok (.getfield 101, 3) := by decide +kernel
theorem dX9_stands_50 : decode cX9_stands 50 = .ok (.ifCond .ne 10, 3) := by decide +kernel
theorem dX9_stands_53 : decode cX9_stands 53 = .ok (.aload_n 0, 1) := by decide +kernel
theorem dX9_stands_54 : decode cX9_stands 54 = .ok (.getfield 81, 3) := by decide +kernel
theorem dX9_stands_57 : decode cX9_stands 57 = .ok (.goto 4, 3) := by decide +kernel
theorem dX9_stands_60 : decode cX9_stands 60 = .ok (.iconst 0, 1) := by decide +kernel
theorem dX9_stands_61 : decode cX9_stands 61 = .ok (.ireturn, 1) := by decide +kernel
set_option maxRecDepth 20000 in
theorem ggX9_takes_X9_stands : GoodIn wsX9_takes wsX9_stands := goodIn_r _ [6, 1, 7, 8, 9, 10, 11, 5, 12, 13, 14, 15, 16, 17, 42, 43, 44, 45, 46, 47, 48, 49, 50, 51, 52, 53, 54, 55, 56, 57, 58, 59, 60, 61, 62, 63] (by decide +kernel) (by decide +kernel)
set_option maxRecDepth 20000 in
theorem gX9_takes_X9_stands : GoodIn wsX9_takes (wsV RX9 128 RX9 yX9_stands wsX9_stands) := goodIn_app (goodIn_of _ (by decide +kernel)) ggX9_takes_X9_stands
set_option maxRecDepth 20000 in
theorem ggX9_takes_X9_next : GoodIn wsX9_takes wsX9_next := goodIn_r _ [21, 22, 13, 8, 23, 7, 24, 25, 26, 27, 28, 29, 30, 31, 5, 32, 33, 34, 35, 36, 37, 15, 16, 17, 38, 39, 40, 41, 42, 43, 44, 45, 46, 47, 48, 49, 50, 51, 52, 53, 54, 55, 56, 57, 58, 59, 60, 61, 62, 63] (by decide +kernel) (by decide +kernel)
set_option maxRecDepth 20000 in
theorem gX9_takes_X9_next : GoodIn wsX9_takes (wsV RX9 121 RX9 yX9_next wsX9_next) := goodIn_app (goodIn_of _ (by decide +kernel)) ggX9_takes_X9_next
theorem dX9_takes_0 : decode cX9_takes 0 = .ok (.aload_n 0, 1) := by decide +kernel
theorem dX9_takes_1 : decode cX9_takes 1 = .ok (.iload_n 1, 1) := by decide +kernel
theorem dX9_takes_2 : decode cX9_takes 2 = .ok (.iload_n 2, 1) := by decide +kernel
theorem dX9_takes_3 : decode cX9_takes 3 = .ok (.invokevirtual 128, 3) := by decide +kernel
theorem dX9_takes_6 : decode cX9_takes 6 = .ok (.istore_n 3, 1) := by decide +kernel
theorem dX9_takes_7 : decode cX9_takes 7 = .ok (.aload_n 0, 1) := by decide +kernel
theorem dX9_takes_8 : decode cX9_takes 8 = .ok (.getfield 101, 3) := by decide +kernel
theorem dX9_takes_11 : decode cX9_takes 11 = .ok (.ifCond .ne 7, 3) := by decide +kernel
theorem dX9_takes_14 : decode cX9_takes 14 = .ok (.aload_n 0, 1) := by decide +kernel
theorem dX9_takes_15 : decode cX9_takes 15 = .ok (.invokevirtual 121, 3) := by decide +kernel
theorem dX9_takes_18 : decode cX9_takes 18 = .ok (.iload_n 3, 1) := by decide +kernel
theorem dX9_takes_19 : decode cX9_takes 19 = .ok (.ireturn, 1) := by decide +kernel
set_option maxRecDepth 20000 in
theorem ggX9_takesPlace_X9_stands : GoodIn wsX9_takesPlace wsX9_stands := goodIn_r _ [6, 1, 7, 8, 9, 10, 11, 5, 12, 13, 14, 15, 16, 17, 55, 56, 57, 58, 59, 60, 61, 62, 63, 64, 65, 66, 67, 68, 69, 70, 71, 72, 73, 74, 75, 76] (by decide +kernel) (by decide +kernel)
set_option maxRecDepth 20000 in
theorem gX9_takesPlace_X9_stands : GoodIn wsX9_takesPlace (wsV RX9 128 RX9 yX9_stands wsX9_stands) := goodIn_app (goodIn_of _ (by decide +kernel)) ggX9_takesPlace_X9_stands
set_option maxRecDepth 20000 in
theorem ggX9_takesPlace_X9_supportAt : GoodIn wsX9_takesPlace wsX9_supportAt := goodIn_r _ [21, 22, 23, 24, 25, 5, 26, 55, 56, 57, 58, 59, 60, 61, 62, 63, 64, 65, 66, 67, 68, 69, 70, 71, 72, 73, 74, 75, 76] (by decide +kernel) (by decide +kernel)
set_option maxRecDepth 20000 in
theorem gX9_takesPlace_X9_supportAt : GoodIn wsX9_takesPlace (wsV RX9 131 RX9 yX9_supportAt wsX9_supportAt) := goodIn_app (goodIn_of _ (by decide +kernel)) ggX9_takesPlace_X9_supportAt
set_option maxRecDepth 20000 in
theorem ggX9_takesPlace_X9_hingeAt : GoodIn wsX9_takesPlace wsX9_hingeAt := goodIn_r _ [30, 22, 55, 56, 57, 58, 59, 60, 61, 62, 63, 64, 65, 66, 67, 68, 69, 70, 71, 72, 73, 74, 75, 76] (by decide +kernel) (by decide +kernel)
set_option maxRecDepth 20000 in
theorem gX9_takesPlace_X9_hingeAt : GoodIn wsX9_takesPlace (wsV RX9 134 RX9 yX9_hingeAt wsX9_hingeAt) := goodIn_app (goodIn_of _ (by decide +kernel)) ggX9_takesPlace_X9_hingeAt
set_option maxRecDepth 20000 in
theorem ggX9_takesPlace_X9_fails : GoodIn wsX9_takesPlace wsX9_fails := goodIn_r _ [12, 1, 13, 14, 55, 56, 57, 58, 59, 60, 61, 62, 63, 64, 65, 66, 67, 68, 69, 70, 71, 72, 73, 74, 75, 76] (by decide +kernel) (by decide +kernel)
set_option maxRecDepth 20000 in
theorem gX9_takesPlace_X9_fails : GoodIn wsX9_takesPlace (wsV RX9 117 RX9 yX9_fails wsX9_fails) := goodIn_app (goodIn_of _ (by decide +kernel)) ggX9_takesPlace_X9_fails
set_option maxRecDepth 20000 in
theorem ggX9_takesPlace_X9_next : GoodIn wsX9_takesPlace wsX9_next := goodIn_r _ [34, 35, 13, 8, 36, 7, 37, 38, 39, 40, 41, 42, 43, 44, 5, 45, 46, 47, 48, 49, 50, 15, 16, 17, 51, 52, 53, 54, 55, 56, 57, 58, 59, 60, 61, 62, 63, 64, 65, 66, 67, 68, 69, 70, 71, 72, 73, 74, 75, 76] (by decide +kernel) (by decide +kernel)
set_option maxRecDepth 20000 in
theorem gX9_takesPlace_X9_next : GoodIn wsX9_takesPlace (wsV RX9 121 RX9 yX9_next wsX9_next) := goodIn_app (goodIn_of _ (by decide +kernel)) ggX9_takesPlace_X9_next
theorem dX9_takesPlace_0 : decode cX9_takesPlace 0 = .ok (.aload_n 0, 1) := by decide +kernel
theorem dX9_takesPlace_1 : decode cX9_takesPlace 1 = .ok (.iload_n 1, 1) := by decide +kernel
theorem dX9_takesPlace_2 : decode cX9_takesPlace 2 = .ok (.iload_n 2, 1) := by decide +kernel
theorem dX9_takesPlace_3 : decode cX9_takesPlace 3 = .ok (.invokevirtual 128, 3) := by decide +kernel
theorem dX9_takesPlace_6 : decode cX9_takesPlace 6 = .ok (.istore_n 3, 1) := by decide +kernel
theorem dX9_takesPlace_7 : decode cX9_takesPlace 7 = .ok (.aload_n 0, 1) := by decide +kernel
theorem dX9_takesPlace_8 : decode cX9_takesPlace 8 = .ok (.getfield 101, 3) := by decide +kernel
theorem dX9_takesPlace_11 : decode cX9_takesPlace 11 = .ok (.ifCond .ne 27, 3) := by decide +kernel
theorem dX9_takesPlace_14 : decode cX9_takesPlace 14 = .ok (.aload_n 0, 1) := by decide +kernel
theorem dX9_takesPlace_15 : decode cX9_takesPlace 15 = .ok (.iload_n 3, 1) := by decide +kernel
theorem dX9_takesPlace_16 : decode cX9_takesPlace 16 = .ok (.invokevirtual 131, 3) := by decide +kernel
theorem dX9_takesPlace_19 : decode cX9_takesPlace 19 = .ok (.iconst (-1), 1) := by decide +kernel
theorem dX9_takesPlace_20 : decode cX9_takesPlace 20 = .ok (.if_icmp .ne 12, 3) := by decide +kernel
theorem dX9_takesPlace_23 : decode cX9_takesPlace 23 = .ok (.aload_n 0, 1) := by decide +kernel
theorem dX9_takesPlace_24 : decode cX9_takesPlace 24 = .ok (.iload_n 3, 1) := by decide +kernel
theorem dX9_takesPlace_25 : decode cX9_takesPlace 25 = .ok (.invokevirtual 134, 3) := by decide +kernel
theorem dX9_takesPlace_28 : decode cX9_takesPlace 28 = .ok (.iconst (-1), 1) := by decide +kernel
theorem dX9_takesPlace_29 : decode cX9_takesPlace 29 = .ok (.if_icmp .eq 9, 3) := by decide +kernel
theorem dX9_takesPlace_32 : decode cX9_takesPlace 32 = .ok (.aload_n 0, 1) := by decide +kernel
theorem dX9_takesPlace_33 : decode cX9_takesPlace 33 = .ok (.bipush (-4), 2) := by decide +kernel
theorem dX9_takesPlace_35 : decode cX9_takesPlace 35 = .ok (.invokevirtual 117, 3) := by decide +kernel
theorem dX9_takesPlace_38 : decode cX9_takesPlace 38 = .ok (.aload_n 0, 1) := by decide +kernel
theorem dX9_takesPlace_39 : decode cX9_takesPlace 39 = .ok (.getfield 101, 3) := by decide +kernel
theorem dX9_takesPlace_42 : decode cX9_takesPlace 42 = .ok (.ifCond .ne 7, 3) := by decide +kernel
theorem dX9_takesPlace_45 : decode cX9_takesPlace 45 = .ok (.aload_n 0, 1) := by decide +kernel
theorem dX9_takesPlace_46 : decode cX9_takesPlace 46 = .ok (.invokevirtual 121, 3) := by decide +kernel
theorem dX9_takesPlace_49 : decode cX9_takesPlace 49 = .ok (.iload_n 3, 1) := by decide +kernel
theorem dX9_takesPlace_50 : decode cX9_takesPlace 50 = .ok (.ireturn, 1) := by decide +kernel
set_option maxRecDepth 20000 in
theorem ggX9_begins_X9_fails : GoodIn wsX9_begins wsX9_fails := goodIn_r _ [6, 7, 8, 9, 43, 44, 45, 46, 47, 48, 49, 50, 51, 52, 53, 54, 55, 56, 57, 58, 59, 60, 61, 62, 63, 64] (by decide +kernel) (by decide +kernel)
set_option maxRecDepth 20000 in
theorem gX9_begins_X9_fails : GoodIn wsX9_begins (wsV RX9 117 RX9 yX9_fails wsX9_fails) := goodIn_app (goodIn_of _ (by decide +kernel)) ggX9_begins_X9_fails
set_option maxRecDepth 20000 in
theorem ggX9_begins_X9_must : GoodIn wsX9_begins wsX9_must := goodIn_r _ [13, 7, 2, 3, 4, 5, 6, 8, 9, 14, 15, 16, 17, 18, 19, 20, 21, 22, 23, 24, 25, 26, 27, 28, 29, 30, 31, 32, 33, 34, 35, 36, 37, 38, 39, 40, 41, 42, 43, 44, 45, 46, 47, 48, 49, 50, 51, 52, 53, 54, 55, 56, 57, 58, 59, 60, 61, 62, 63, 64] (by decide +kernel) (by decide +kernel)
set_option maxRecDepth 20000 in
theorem gX9_begins_X9_must : GoodIn wsX9_begins (wsV RX9 124 RX9 yX9_must wsX9_must) := goodIn_app (goodIn_of _ (by decide +kernel)) ggX9_begins_X9_must
theorem dX9_begins_0 : decode cX9_begins 0 = .ok (.aload_n 0, 1) := by decide +kernel
theorem dX9_begins_1 : decode cX9_begins 1 = .ok (.getfield 7, 3) := by decide +kernel
theorem dX9_begins_4 : decode cX9_begins 4 = .ok (.iload_n 1, 1) := by decide +kernel
theorem dX9_begins_5 : decode cX9_begins 5 = .ok (.iaload, 1) := by decide +kernel
theorem dX9_begins_6 : decode cX9_begins 6 = .ok (.iload_n 2, 1) := by decide +kernel
theorem dX9_begins_7 : decode cX9_begins 7 = .ok (.if_icmp .ne 9, 3) := by decide +kernel
theorem dX9_begins_10 : decode cX9_begins 10 = .ok (.aload_n 0, 1) := by decide +kernel
theorem dX9_begins_11 : decode cX9_begins 11 = .ok (.bipush (-5), 2) := by decide +kernel
theorem dX9_begins_13 : decode cX9_begins 13 = .ok (.invokevirtual 117, 3) := by decide +kernel
theorem dX9_begins_16 : decode cX9_begins 16 = .ok (.aload_n 0, 1) := by decide +kernel
theorem dX9_begins_17 : decode cX9_begins 17 = .ok (.iconst 1, 1) := by decide +kernel
theorem dX9_begins_18 : decode cX9_begins 18 = .ok (.invokevirtual 124, 3) := by decide +kernel
theorem dX9_begins_21 : decode cX9_begins 21 = .ok (.return_, 1) := by decide +kernel
set_option maxRecDepth 20000 in
theorem ggX9_readsSupport_X9_begins : GoodIn wsX9_readsSupport wsX9_begins := goodIn_r _ [8, 1, 9, 10, 11, 7, 12, 3, 13, 14, 15, 16, 17, 18, 19, 20, 21, 22, 23, 24, 25, 26, 27, 28, 29, 30, 31, 32, 33, 34, 35, 36, 37, 38, 39, 40, 41, 42, 43, 44, 45, 46, 47, 133, 134, 135, 136, 137, 138, 139, 140, 141, 142, 143, 144, 145, 146, 147, 148, 149, 150, 151, 152, 153, 154] (by decide +kernel) (by decide +kernel)
set_option maxRecDepth 20000 in
theorem gX9_readsSupport_X9_begins : GoodIn wsX9_readsSupport (wsV RX9 137 RX9 yX9_begins wsX9_begins) := goodIn_app (goodIn_of _ (by decide +kernel)) ggX9_readsSupport_X9_begins
set_option maxRecDepth 20000 in
theorem ggX9_readsSupport_X9_takesPlace : GoodIn wsX9_readsSupport wsX9_takesPlace := goodIn_r _ [51, 3, 52, 53, 54, 7, 55, 26, 24, 9, 10, 11, 12, 13, 14, 41, 42, 43, 56, 57, 58, 59, 1, 60, 61, 62, 63, 64, 65, 66, 67, 19, 20, 21, 22, 23, 25, 27, 28, 29, 30, 31, 32, 33, 34, 35, 36, 37, 38, 39, 40, 44, 45, 46, 47, 133, 134, 135, 136, 137, 138, 139, 140, 141, 142, 143, 144, 145, 146, 147, 148, 149, 150, 151, 152, 153, 154] (by decide +kernel) (by decide +kernel)
set_option maxRecDepth 20000 in
theorem gX9_readsSupport_X9_takesPlace : GoodIn wsX9_readsSupport (wsV RX9 141 RX9 yX9_takesPlace wsX9_takesPlace) := goodIn_app (goodIn_of _ (by decide +kernel)) ggX9_readsSupport_X9_takesPlace
set_option maxRecDepth 20000 in
theorem ggX9_readsSupport_X9_isWord : GoodIn wsX9_readsSupport wsX9_isWord := goodIn_r _ [71, 3, 26, 23, 13, 36, 72, 73, 74, 75, 76, 77, 78, 79, 80, 81, 82, 83, 84, 85, 86, 87, 88, 89, 90, 91, 92, 93, 94, 95, 96, 97, 98, 99, 100, 101, 102, 103, 104, 105, 106, 107, 108, 109, 110, 111, 112, 113, 114, 115, 116, 117, 118, 119, 120, 133, 134, 135, 136, 137, 138, 139, 140, 141, 142, 143, 144, 145, 146, 147, 148, 149, 150, 151, 152, 153, 154] (by decide +kernel) (by decide +kernel)
set_option maxRecDepth 20000 in
theorem gX9_readsSupport_X9_isWord : GoodIn wsX9_readsSupport (wsV RX9 146 RX9 yX9_isWord wsX9_isWord) := goodIn_app (goodIn_of _ (by decide +kernel)) ggX9_readsSupport_X9_isWord
set_option maxRecDepth 20000 in
theorem ggX9_readsSupport_X9_next : GoodIn wsX9_readsSupport wsX9_next := goodIn_r _ [22, 23, 13, 24, 25, 26, 27, 28, 29, 30, 31, 32, 33, 34, 7, 35, 36, 37, 38, 39, 40, 41, 42, 43, 44, 45, 46, 47, 133, 134, 135, 136, 137, 138, 139, 140, 141, 142, 143, 144, 145, 146, 147, 148, 149, 150, 151, 152, 153, 154] (by decide +kernel) (by decide +kernel)
set_option maxRecDepth 20000 in
theorem gX9_readsSupport_X9_next : GoodIn wsX9_readsSupport (wsV RX9 121 RX9 yX9_next wsX9_next) := goodIn_app (goodIn_of _ (by decide +kernel)) ggX9_readsSupport_X9_next
set_option maxRecDepth 20000 in
theorem ggX9_readsSupport_X9_takes : GoodIn wsX9_readsSupport wsX9_takes := goodIn_r _ [124, 3, 52, 53, 54, 7, 55, 26, 24, 9, 10, 11, 12, 13, 14, 41, 42, 43, 19, 20, 21, 22, 23, 25, 27, 28, 29, 30, 31, 32, 33, 34, 35, 36, 37, 38, 39, 40, 44, 45, 46, 47, 133, 134, 135, 136, 137, 138, 139, 140, 141, 142, 143, 144, 145, 146, 147, 148, 149, 150, 151, 152, 153, 154] (by decide +kernel) (by decide +kernel)
set_option maxRecDepth 20000 in
theorem gX9_readsSupport_X9_takes : GoodIn wsX9_readsSupport (wsV RX9 151 RX9 yX9_takes wsX9_takes) := goodIn_app (goodIn_of _ (by decide +kernel)) ggX9_readsSupport_X9_takes
set_option maxRecDepth 20000 in
theorem ggX9_readsSupport_X9_mustEnd : GoodIn wsX9_readsSupport wsX9_mustEnd := goodIn_r _ [128, 26, 13, 32, 33, 34, 7, 35, 25, 36, 15, 16, 17, 18, 3, 9, 10, 11, 12, 14, 19, 20, 21, 22, 23, 24, 27, 28, 29, 30, 31, 37, 38, 39, 40, 41, 42, 43, 44, 45, 46, 47, 133, 134, 135, 136, 137, 138, 139, 140, 141, 142, 143, 144, 145, 146, 147, 148, 149, 150, 151, 152, 153, 154] (by decide +kernel) (by decide +kernel)
set_option maxRecDepth 20000 in
theorem gX9_readsSupport_X9_mustEnd : GoodIn wsX9_readsSupport (wsV RX9 154 RX9 yX9_mustEnd wsX9_mustEnd) := goodIn_app (goodIn_of _ (by decide +kernel)) ggX9_readsSupport_X9_mustEnd
set_option maxRecDepth 20000 in
theorem ggX9_readsSupport_X9_addsSupport : GoodIn wsX9_readsSupport wsX9_addsSupport := goodIn_r _ [132, 1, 60, 61, 62, 7, 63, 133, 134, 135, 136, 137, 138, 139, 140, 141, 142, 143, 144, 145, 146, 147, 148, 149, 150, 151, 152, 153, 154] (by decide +kernel) (by decide +kernel)
set_option maxRecDepth 20000 in
theorem gX9_readsSupport_X9_addsSupport : GoodIn wsX9_readsSupport (wsV RX9 157 RX9 yX9_addsSupport wsX9_addsSupport) := goodIn_app (goodIn_of _ (by decide +kernel)) ggX9_readsSupport_X9_addsSupport
theorem dX9_readsSupport_0 : decode cX9_readsSupport 0 = .ok (.aload_n 0, 1) := by decide +kernel
theorem dX9_readsSupport_1 : decode cX9_readsSupport 1 = .ok (.iconst 2, 1) := by decide +kernel
theorem dX9_readsSupport_2 : decode cX9_readsSupport 2 = .ok (.iconst 5, 1) := by decide +kernel
theorem dX9_readsSupport_3 : decode cX9_readsSupport 3 = .ok (.invokevirtual 137, 3) := by decide +kernel
theorem dX9_readsSupport_6 : decode cX9_readsSupport 6 = .ok (.aload_n 0, 1) := by decide +kernel
theorem dX9_readsSupport_7 : decode cX9_readsSupport 7 = .ok (.iconst 0, 1) := by decide +kernel
theorem dX9_readsSupport_8 : decode cX9_readsSupport 8 = .ok (.aload_n 0, 1) := by decide +kernel
theorem dX9_readsSupport_9 : decode cX9_readsSupport 9 = .ok (.getfield 7, 3) := by decide +kernel
theorem dX9_readsSupport_12 : decode cX9_readsSupport 12 = .ok (.iconst 0, 1) := by decide +kernel
theorem dX9_readsSupport_13 : decode cX9_readsSupport 13 = .ok (.iaload, 1) := by decide +kernel
theorem dX9_readsSupport_14 : decode cX9_readsSupport 14 = .ok (.invokevirtual 141, 3) := by decide +kernel
theorem dX9_readsSupport_17 : decode cX9_readsSupport 17 = .ok (.istore_n 1, 1) := by decide +kernel
theorem dX9_readsSupport_18 : decode cX9_readsSupport 18 = .ok (.iconst (-1), 1) := by decide +kernel
theorem dX9_readsSupport_19 : decode cX9_readsSupport 19 = .ok (.istore_n 2, 1) := by decide +kernel
theorem dX9_readsSupport_20 : decode cX9_readsSupport 20 = .ok (.aload_n 0, 1) := by decide +kernel
theorem dX9_readsSupport_21 : decode cX9_readsSupport 21 = .ok (.ldc 144, 2) := by decide +kernel
theorem dX9_readsSupport_23 : decode cX9_readsSupport 23 = .ok (.invokevirtual 146, 3) := by decide +kernel
theorem dX9_readsSupport_26 : decode cX9_readsSupport 26 = .ok (.ifCond .eq 15, 3) := by decide +kernel
theorem dX9_readsSupport_29 : decode cX9_readsSupport 29 = .ok (.aload_n 0, 1) := by decide +kernel
theorem dX9_readsSupport_30 : decode cX9_readsSupport 30 = .ok (.invokevirtual 121, 3) := by decide +kernel
theorem dX9_readsSupport_33 : decode cX9_readsSupport 33 = .ok (.aload_n 0, 1) := by decide +kernel
theorem dX9_readsSupport_34 : decode cX9_readsSupport 34 = .ok (.iconst 1, 1) := by decide +kernel
theorem dX9_readsSupport_35 : decode cX9_readsSupport 35 = .ok (.ldc 150, 2) := by decide +kernel
theorem dX9_readsSupport_37 : decode cX9_readsSupport 37 = .ok (.invokevirtual 151, 3) := by decide +kernel
theorem dX9_readsSupport_40 : decode cX9_readsSupport 40 = .ok (.istore_n 2, 1) := by decide +kernel
theorem dX9_readsSupport_41 : decode cX9_readsSupport 41 = .ok (.aload_n 0, 1) := by decide +kernel
theorem dX9_readsSupport_42 : decode cX9_readsSupport 42 = .ok (.invokevirtual 154, 3) := by decide +kernel
theorem dX9_readsSupport_45 : decode cX9_readsSupport 45 = .ok (.aload_n 0, 1) := by decide +kernel
theorem dX9_readsSupport_46 : decode cX9_readsSupport 46 = .ok (.getfield 101, 3) := by decide +kernel
theorem dX9_readsSupport_49 : decode cX9_readsSupport 49 = .ok (.ifCond .ne 9, 3) := by decide +kernel
theorem dX9_readsSupport_52 : decode cX9_readsSupport 52 = .ok (.aload_n 0, 1) := by decide +kernel
theorem dX9_readsSupport_53 : decode cX9_readsSupport 53 = .ok (.iload_n 1, 1) := by decide +kernel
theorem dX9_readsSupport_54 : decode cX9_readsSupport 54 = .ok (.iload_n 2, 1) := by decide +kernel
theorem dX9_readsSupport_55 : decode cX9_readsSupport 55 = .ok (.invokevirtual 157, 3) := by decide +kernel
theorem dX9_readsSupport_58 : decode cX9_readsSupport 58 = .ok (.return_, 1) := by decide +kernel
set_option maxRecDepth 20000 in
theorem ggX9_readsHinge_X9_begins : GoodIn wsX9_readsHinge wsX9_begins := goodIn_r _ [7, 1, 8, 9, 10, 6, 11, 2, 12, 13, 14, 15, 16, 17, 18, 19, 20, 21, 22, 23, 24, 25, 26, 27, 28, 29, 30, 31, 32, 33, 34, 35, 36, 37, 38, 39, 40, 41, 42, 43, 44, 45, 46, 75, 76, 77, 78, 79, 80, 81, 82, 83, 84, 85, 86, 87, 88, 89, 90, 91, 92, 93, 94, 95, 96] (by decide +kernel) (by decide +kernel)
set_option maxRecDepth 20000 in
theorem gX9_readsHinge_X9_begins : GoodIn wsX9_readsHinge (wsV RX9 137 RX9 yX9_begins wsX9_begins) := goodIn_app (goodIn_of _ (by decide +kernel)) ggX9_readsHinge_X9_begins
set_option maxRecDepth 20000 in
theorem ggX9_readsHinge_X9_takesPlace : GoodIn wsX9_readsHinge wsX9_takesPlace := goodIn_r _ [50, 2, 51, 52, 53, 6, 54, 25, 23, 8, 9, 10, 11, 12, 13, 40, 41, 42, 55, 56, 57, 58, 1, 59, 60, 61, 62, 63, 64, 65, 66, 18, 19, 20, 21, 22, 24, 26, 27, 28, 29, 30, 31, 32, 33, 34, 35, 36, 37, 38, 39, 43, 44, 45, 46, 75, 76, 77, 78, 79, 80, 81, 82, 83, 84, 85, 86, 87, 88, 89, 90, 91, 92, 93, 94, 95, 96] (by decide +kernel) (by decide +kernel)
set_option maxRecDepth 20000 in
theorem gX9_readsHinge_X9_takesPlace : GoodIn wsX9_readsHinge (wsV RX9 141 RX9 yX9_takesPlace wsX9_takesPlace) := goodIn_app (goodIn_of _ (by decide +kernel)) ggX9_readsHinge_X9_takesPlace
set_option maxRecDepth 20000 in
theorem ggX9_readsHinge_X9_mustEnd : GoodIn wsX9_readsHinge wsX9_mustEnd := goodIn_r _ [70, 25, 12, 31, 32, 33, 6, 34, 24, 35, 14, 15, 16, 17, 2, 8, 9, 10, 11, 13, 18, 19, 20, 21, 22, 23, 26, 27, 28, 29, 30, 36, 37, 38, 39, 40, 41, 42, 43, 44, 45, 46, 75, 76, 77, 78, 79, 80, 81, 82, 83, 84, 85, 86, 87, 88, 89, 90, 91, 92, 93, 94, 95, 96] (by decide +kernel) (by decide +kernel)
set_option maxRecDepth 20000 in
theorem gX9_readsHinge_X9_mustEnd : GoodIn wsX9_readsHinge (wsV RX9 154 RX9 yX9_mustEnd wsX9_mustEnd) := goodIn_app (goodIn_of _ (by decide +kernel)) ggX9_readsHinge_X9_mustEnd
set_option maxRecDepth 20000 in
theorem ggX9_readsHinge_X9_addsHinge : GoodIn wsX9_readsHinge wsX9_addsHinge := goodIn_r _ [74, 1, 75, 76, 77, 78, 79, 80, 81, 82, 83, 84, 85, 86, 87, 88, 89, 90, 91, 92, 93, 94, 95, 96] (by decide +kernel) (by decide +kernel)
set_option maxRecDepth 20000 in
theorem gX9_readsHinge_X9_addsHinge : GoodIn wsX9_readsHinge (wsV RX9 160 RX9 yX9_addsHinge wsX9_addsHinge) := goodIn_app (goodIn_of _ (by decide +kernel)) ggX9_readsHinge_X9_addsHinge
theorem dX9_readsHinge_0 : decode cX9_readsHinge 0 = .ok (.aload_n 0, 1) := by decide +kernel
theorem dX9_readsHinge_1 : decode cX9_readsHinge 1 = .ok (.iconst 3, 1) := by decide +kernel
theorem dX9_readsHinge_2 : decode cX9_readsHinge 2 = .ok (.iconst 3, 1) := by decide +kernel
theorem dX9_readsHinge_3 : decode cX9_readsHinge 3 = .ok (.invokevirtual 137, 3) := by decide +kernel
theorem dX9_readsHinge_6 : decode cX9_readsHinge 6 = .ok (.aload_n 0, 1) := by decide +kernel
theorem dX9_readsHinge_7 : decode cX9_readsHinge 7 = .ok (.iconst 1, 1) := by decide +kernel
theorem dX9_readsHinge_8 : decode cX9_readsHinge 8 = .ok (.aload_n 0, 1) := by decide +kernel
theorem dX9_readsHinge_9 : decode cX9_readsHinge 9 = .ok (.getfield 7, 3) := by decide +kernel
theorem dX9_readsHinge_12 : decode cX9_readsHinge 12 = .ok (.iconst 0, 1) := by decide +kernel
theorem dX9_readsHinge_13 : decode cX9_readsHinge 13 = .ok (.iaload, 1) := by decide +kernel
theorem dX9_readsHinge_14 : decode cX9_readsHinge 14 = .ok (.iconst 1, 1) := by decide +kernel
theorem dX9_readsHinge_15 : decode cX9_readsHinge 15 = .ok (.isub, 1) := by decide +kernel
theorem dX9_readsHinge_16 : decode cX9_readsHinge 16 = .ok (.invokevirtual 141, 3) := by decide +kernel
theorem dX9_readsHinge_19 : decode cX9_readsHinge 19 = .ok (.istore_n 1, 1) := by decide +kernel
theorem dX9_readsHinge_20 : decode cX9_readsHinge 20 = .ok (.aload_n 0, 1) := by decide +kernel
theorem dX9_readsHinge_21 : decode cX9_readsHinge 21 = .ok (.invokevirtual 154, 3) := by decide +kernel
theorem dX9_readsHinge_24 : decode cX9_readsHinge 24 = .ok (.aload_n 0, 1) := by decide +kernel
theorem dX9_readsHinge_25 : decode cX9_readsHinge 25 = .ok (.getfield 101, 3) := by decide +kernel
theorem dX9_readsHinge_28 : decode cX9_readsHinge 28 = .ok (.ifCond .ne 8, 3) := by decide +kernel
theorem dX9_readsHinge_31 : decode cX9_readsHinge 31 = .ok (.aload_n 0, 1) := by decide +kernel
theorem dX9_readsHinge_32 : decode cX9_readsHinge 32 = .ok (.iload_n 1, 1) := by decide +kernel
theorem dX9_readsHinge_33 : decode cX9_readsHinge 33 = .ok (.invokevirtual 160, 3) := by decide +kernel
theorem dX9_readsHinge_36 : decode cX9_readsHinge 36 = .ok (.return_, 1) := by decide +kernel
set_option maxRecDepth 20000 in
theorem ggX9_readsPair_X9_begins : GoodIn wsX9_readsPair wsX9_begins := goodIn_r _ [7, 2, 8, 9, 10, 6, 11, 1, 12, 13, 14, 15, 16, 17, 18, 19, 20, 21, 22, 23, 24, 25, 26, 27, 28, 29, 30, 31, 32, 33, 34, 35, 36, 37, 38, 39, 40, 41, 42, 43, 44, 45, 46, 112, 113, 114, 115, 116, 117, 118, 119, 120, 121, 122, 123, 124, 125, 126, 127, 128, 129, 130, 131, 132, 133] (by decide +kernel) (by decide +kernel)
set_option maxRecDepth 20000 in
theorem gX9_readsPair_X9_begins : GoodIn wsX9_readsPair (wsV RX9 137 RX9 yX9_begins wsX9_begins) := goodIn_app (goodIn_of _ (by decide +kernel)) ggX9_readsPair_X9_begins
set_option maxRecDepth 20000 in
theorem ggX9_readsPair_X9_takes : GoodIn wsX9_readsPair wsX9_takes := goodIn_r _ [50, 1, 51, 52, 53, 6, 54, 25, 23, 8, 9, 10, 11, 12, 13, 40, 41, 42, 18, 19, 20, 21, 22, 24, 26, 27, 28, 29, 30, 31, 32, 33, 34, 35, 36, 37, 38, 39, 43, 44, 45, 46, 112, 113, 114, 115, 116, 117, 118, 119, 120, 121, 122, 123, 124, 125, 126, 127, 128, 129, 130, 131, 132, 133] (by decide +kernel) (by decide +kernel)
set_option maxRecDepth 20000 in
theorem gX9_readsPair_X9_takes : GoodIn wsX9_readsPair (wsV RX9 151 RX9 yX9_takes wsX9_takes) := goodIn_app (goodIn_of _ (by decide +kernel)) ggX9_readsPair_X9_takes
set_option maxRecDepth 20000 in
theorem ggX9_readsPair_X9_isWord : GoodIn wsX9_readsPair wsX9_isWord := goodIn_r _ [58, 1, 25, 22, 12, 35, 59, 60, 61, 62, 63, 64, 65, 66, 67, 68, 69, 70, 71, 72, 73, 74, 75, 76, 77, 78, 79, 80, 81, 82, 83, 84, 85, 86, 87, 88, 89, 90, 91, 92, 93, 94, 95, 96, 97, 98, 99, 100, 101, 102, 103, 104, 105, 106, 107, 112, 113, 114, 115, 116, 117, 118, 119, 120, 121, 122, 123, 124, 125, 126, 127, 128, 129, 130, 131, 132, 133] (by decide +kernel) (by decide +kernel)
set_option maxRecDepth 20000 in
theorem gX9_readsPair_X9_isWord : GoodIn wsX9_readsPair (wsV RX9 146 RX9 yX9_isWord wsX9_isWord) := goodIn_app (goodIn_of _ (by decide +kernel)) ggX9_readsPair_X9_isWord
set_option maxRecDepth 20000 in
theorem ggX9_readsPair_X9_must : GoodIn wsX9_readsPair wsX9_must := goodIn_r _ [17, 1, 8, 9, 10, 6, 11, 12, 13, 18, 19, 20, 21, 22, 23, 24, 25, 26, 27, 28, 29, 30, 31, 32, 33, 34, 35, 36, 37, 38, 39, 40, 41, 42, 43, 44, 45, 46, 112, 113, 114, 115, 116, 117, 118, 119, 120, 121, 122, 123, 124, 125, 126, 127, 128, 129, 130, 131, 132, 133] (by decide +kernel) (by decide +kernel)
set_option maxRecDepth 20000 in
theorem gX9_readsPair_X9_must : GoodIn wsX9_readsPair (wsV RX9 124 RX9 yX9_must wsX9_must) := goodIn_app (goodIn_of _ (by decide +kernel)) ggX9_readsPair_X9_must
set_option maxRecDepth 20000 in
theorem ggX9_readsPair_X9_mustEnd : GoodIn wsX9_readsPair wsX9_mustEnd := goodIn_r _ [111, 25, 12, 31, 32, 33, 6, 34, 24, 35, 14, 15, 16, 17, 1, 8, 9, 10, 11, 13, 18, 19, 20, 21, 22, 23, 26, 27, 28, 29, 30, 36, 37, 38, 39, 40, 41, 42, 43, 44, 45, 46, 112, 113, 114, 115, 116, 117, 118, 119, 120, 121, 122, 123, 124, 125, 126, 127, 128, 129, 130, 131, 132, 133] (by decide +kernel) (by decide +kernel)
set_option maxRecDepth 20000 in
theorem gX9_readsPair_X9_mustEnd : GoodIn wsX9_readsPair (wsV RX9 154 RX9 yX9_mustEnd wsX9_mustEnd) := goodIn_app (goodIn_of _ (by decide +kernel)) ggX9_readsPair_X9_mustEnd
theorem dX9_readsPair_0 : decode cX9_readsPair 0 = .ok (.aload_n 0, 1) := by decide +kernel
theorem dX9_readsPair_1 : decode cX9_readsPair 1 = .ok (.iload_n 1, 1) := by decide +kernel
theorem dX9_readsPair_2 : decode cX9_readsPair 2 = .ok (.iload_n 2, 1) := by decide +kernel
theorem dX9_readsPair_3 : decode cX9_readsPair 3 = .ok (.invokevirtual 137, 3) := by decide +kernel
theorem dX9_readsPair_6 : decode cX9_readsPair 6 = .ok (.aload_n 0, 1) := by decide +kernel
theorem dX9_readsPair_7 : decode cX9_readsPair 7 = .ok (.iconst 1, 1) := by decide +kernel
theorem dX9_readsPair_8 : decode cX9_readsPair 8 = .ok (.sipush 999, 3) := by decide +kernel
theorem dX9_readsPair_11 : decode cX9_readsPair 11 = .ok (.invokevirtual 151, 3) := by decide +kernel
theorem dX9_readsPair_14 : decode cX9_readsPair 14 = .ok (.istore 6, 2) := by decide +kernel
theorem dX9_readsPair_16 : decode cX9_readsPair 16 = .ok (.aload_n 0, 1) := by decide +kernel
theorem dX9_readsPair_17 : decode cX9_readsPair 17 = .ok (.aload_n 0, 1) := by decide +kernel
theorem dX9_readsPair_18 : decode cX9_readsPair 18 = .ok (.aload 4, 2) := by decide +kernel
theorem dX9_readsPair_20 : decode cX9_readsPair 20 = .ok (.invokevirtual 146, 3) := by decide +kernel
theorem dX9_readsPair_23 : decode cX9_readsPair 23 = .ok (.invokevirtual 124, 3) := by decide +kernel
theorem dX9_readsPair_26 : decode cX9_readsPair 26 = .ok (.aload_n 0, 1) := by decide +kernel
theorem dX9_readsPair_27 : decode cX9_readsPair 27 = .ok (.iconst 0, 1) := by decide +kernel
theorem dX9_readsPair_28 : decode cX9_readsPair 28 = .ok (.iload 5, 2) := by decide +kernel
theorem dX9_readsPair_30 : decode cX9_readsPair 30 = .ok (.invokevirtual 151, 3) := by decide +kernel
theorem dX9_readsPair_33 : decode cX9_readsPair 33 = .ok (.istore 7, 2) := by decide +kernel
theorem dX9_readsPair_35 : decode cX9_readsPair 35 = .ok (.aload_n 0, 1) := by decide +kernel
theorem dX9_readsPair_36 : decode cX9_readsPair 36 = .ok (.invokevirtual 154, 3) := by decide +kernel
theorem dX9_readsPair_39 : decode cX9_readsPair 39 = .ok (.aload_n 0, 1) := by decide +kernel
theorem dX9_readsPair_40 : decode cX9_readsPair 40 = .ok (.getfield 101, 3) := by decide +kernel
theorem dX9_readsPair_43 : decode cX9_readsPair 43 = .ok (.ifCond .eq 4, 3) := by decide +kernel
theorem dX9_readsPair_46 : decode cX9_readsPair 46 = .ok (.return_, 1) := by decide +kernel
theorem dX9_readsPair_47 : decode cX9_readsPair 47 = .ok (.aload_n 0, 1) := by decide +kernel
theorem dX9_readsPair_48 : decode cX9_readsPair 48 = .ok (.getfield 7, 3) := by decide +kernel
theorem dX9_readsPair_51 : decode cX9_readsPair 51 = .ok (.iload_n 3, 1) := by decide +kernel
theorem dX9_readsPair_52 : decode cX9_readsPair 52 = .ok (.iconst 2, 1) := by decide +kernel
theorem dX9_readsPair_53 : decode cX9_readsPair 53 = .ok (.aload_n 0, 1) := by decide +kernel
theorem dX9_readsPair_54 : decode cX9_readsPair 54 = .ok (.getfield 7, 3) := by decide +kernel
theorem dX9_readsPair_57 : decode cX9_readsPair 57 = .ok (.iload_n 1, 1) := by decide +kernel
theorem dX9_readsPair_58 : decode cX9_readsPair 58 = .ok (.iaload, 1) := by decide +kernel
theorem dX9_readsPair_59 : decode cX9_readsPair 59 = .ok (.imul, 1) := by decide +kernel
theorem dX9_readsPair_60 : decode cX9_readsPair 60 = .ok (.iadd, 1) := by decide +kernel
theorem dX9_readsPair_61 : decode cX9_readsPair 61 = .ok (.iload 6, 2) := by decide +kernel
theorem dX9_readsPair_63 : decode cX9_readsPair 63 = .ok (.iastore, 1) := by decide +kernel
theorem dX9_readsPair_64 : decode cX9_readsPair 64 = .ok (.aload_n 0, 1) := by decide +kernel
theorem dX9_readsPair_65 : decode cX9_readsPair 65 = .ok (.getfield 7, 3) := by decide +kernel
theorem dX9_readsPair_68 : decode cX9_readsPair 68 = .ok (.iload_n 3, 1) := by decide +kernel
theorem dX9_readsPair_69 : decode cX9_readsPair 69 = .ok (.iconst 2, 1) := by decide +kernel
theorem dX9_readsPair_70 : decode cX9_readsPair 70 = .ok (.aload_n 0, 1) := by decide +kernel
theorem dX9_readsPair_71 : decode cX9_readsPair 71 = .ok (.getfield 7, 3) := by decide +kernel
theorem dX9_readsPair_74 : decode cX9_readsPair 74 = .ok (.iload_n 1, 1) := by decide +kernel
theorem dX9_readsPair_75 : decode cX9_readsPair 75 = .ok (.iaload, 1) := by decide +kernel
theorem dX9_readsPair_76 : decode cX9_readsPair 76 = .ok (.imul, 1) := by decide +kernel
theorem dX9_readsPair_77 : decode cX9_readsPair 77 = .ok (.iadd, 1) := by decide +kernel
theorem dX9_readsPair_78 : decode cX9_readsPair 78 = .ok (.iconst 1, 1) := by decide +kernel
theorem dX9_readsPair_79 : decode cX9_readsPair 79 = .ok (.iadd, 1) := by decide +kernel
theorem dX9_readsPair_80 : decode cX9_readsPair 80 = .ok (.iload 7, 2) := by decide +kernel
theorem dX9_readsPair_82 : decode cX9_readsPair 82 = .ok (.iastore, 1) := by decide +kernel
theorem dX9_readsPair_83 : decode cX9_readsPair 83 = .ok (.aload_n 0, 1) := by decide +kernel
theorem dX9_readsPair_84 : decode cX9_readsPair 84 = .ok (.getfield 7, 3) := by decide +kernel
theorem dX9_readsPair_87 : decode cX9_readsPair 87 = .ok (.iload_n 1, 1) := by decide +kernel
theorem dX9_readsPair_88 : decode cX9_readsPair 88 = .ok (.dup2, 1) := by decide +kernel
theorem dX9_readsPair_89 : decode cX9_readsPair 89 = .ok (.iaload, 1) := by decide +kernel
theorem dX9_readsPair_90 : decode cX9_readsPair 90 = .ok (.iconst 1, 1) := by decide +kernel
theorem dX9_readsPair_91 : decode cX9_readsPair 91 = .ok (.iadd, 1) := by decide +kernel
theorem dX9_readsPair_92 : decode cX9_readsPair 92 = .ok (.iastore, 1) := by decide +kernel
theorem dX9_readsPair_93 : decode cX9_readsPair 93 = .ok (.return_, 1) := by decide +kernel
set_option maxRecDepth 20000 in
theorem ggX9_readsStatement_X9_isWord : GoodIn wsX9_readsStatement wsX9_isWord := goodIn_r _ [7, 2, 8, 9, 10, 11, 12, 13, 14, 15, 16, 17, 18, 19, 20, 21, 22, 23, 24, 25, 26, 27, 28, 29, 30, 31, 32, 33, 34, 35, 36, 37, 38, 39, 40, 41, 42, 43, 44, 45, 46, 47, 48, 49, 50, 51, 52, 53, 54, 55, 56, 57, 58, 59, 60, 149, 150, 151, 152, 153, 154, 155, 156, 157, 158, 159, 160, 161, 162, 163, 164, 165, 166, 167, 168, 169, 170] (by decide +kernel) (by decide +kernel)
set_option maxRecDepth 20000 in
theorem gX9_readsStatement_X9_isWord : GoodIn wsX9_readsStatement (wsV RX9 146 RX9 yX9_isWord wsX9_isWord) := goodIn_app (goodIn_of _ (by decide +kernel)) ggX9_readsStatement_X9_isWord
set_option maxRecDepth 20000 in
theorem ggX9_readsStatement_X9_readsSupport : GoodIn wsX9_readsStatement wsX9_readsSupport := goodIn_r _ [64, 1, 65, 2, 66, 67, 68, 6, 69, 70, 71, 72, 73, 10, 74, 75, 76, 77, 78, 79, 80, 81, 82, 9, 83, 84, 8, 85, 86, 87, 88, 89, 90, 91, 92, 93, 11, 94, 95, 96, 97, 98, 99, 100, 101, 102, 103, 104, 105, 106, 107, 108, 109, 110, 111, 112, 113, 114, 115, 116, 117, 118, 119, 120, 121, 122, 123, 124, 3, 4, 5, 7, 12, 13, 14, 15, 16, 17, 18, 19, 20, 21, 22, 23, 24, 25, 26, 27, 28, 29, 30, 31, 32, 33, 34, 35, 36, 37, 38, 39, 40, 41, 42, 43, 44, 45, 46, 47, 48, 49, 50, 51, 52, 53, 54, 55, 56, 57, 58, 59, 60, 125, 126, 127, 128, 129, 130, 131, 132, 133, 134, 135, 136, 149, 150, 151, 152, 153, 154, 155, 156, 157, 158, 159, 160, 161, 162, 163, 164, 165, 166, 167, 168, 169, 170] (by decide +kernel) (by decide +kernel)
set_option maxRecDepth 20000 in
theorem gX9_readsStatement_X9_readsSupport : GoodIn wsX9_readsStatement (wsV RX9 165 RX9 yX9_readsSupport wsX9_readsSupport) := goodIn_app (goodIn_of _ (by decide +kernel)) ggX9_readsStatement_X9_readsSupport
set_option maxRecDepth 20000 in
theorem ggX9_readsStatement_X9_readsHinge : GoodIn wsX9_readsStatement wsX9_readsHinge := goodIn_r _ [140, 1, 2, 66, 67, 68, 6, 69, 70, 71, 72, 73, 10, 74, 75, 76, 77, 78, 79, 80, 81, 82, 9, 83, 84, 8, 85, 86, 87, 88, 89, 90, 91, 92, 93, 11, 94, 95, 96, 97, 98, 99, 100, 101, 102, 103, 104, 105, 106, 107, 108, 109, 110, 111, 112, 113, 114, 115, 116, 117, 118, 119, 120, 121, 122, 123, 124, 129, 130, 131, 132, 141, 142, 143, 144, 149, 150, 151, 152, 153, 154, 155, 156, 157, 158, 159, 160, 161, 162, 163, 164, 165, 166, 167, 168, 169, 170] (by decide +kernel) (by decide +kernel)
set_option maxRecDepth 20000 in
theorem gX9_readsStatement_X9_readsHinge : GoodIn wsX9_readsStatement (wsV RX9 170 RX9 yX9_readsHinge wsX9_readsHinge) := goodIn_app (goodIn_of _ (by decide +kernel)) ggX9_readsStatement_X9_readsHinge
set_option maxRecDepth 20000 in
theorem ggX9_readsStatement_X9_readsPair : GoodIn wsX9_readsStatement wsX9_readsPair := goodIn_r _ [148, 2, 1, 66, 67, 68, 6, 69, 70, 71, 72, 73, 10, 74, 75, 76, 77, 78, 79, 80, 81, 82, 9, 83, 84, 8, 85, 86, 87, 88, 89, 90, 91, 92, 93, 11, 94, 95, 96, 97, 98, 99, 100, 101, 102, 103, 104, 125, 126, 127, 128, 109, 110, 111, 112, 3, 4, 5, 7, 12, 13, 14, 15, 16, 17, 18, 19, 20, 21, 22, 23, 24, 25, 26, 27, 28, 29, 30, 31, 32, 33, 34, 35, 36, 37, 38, 39, 40, 41, 42, 43, 44, 45, 46, 47, 48, 49, 50, 51, 52, 53, 54, 55, 56, 57, 58, 59, 60, 129, 130, 131, 132, 149, 150, 151, 152, 153, 154, 155, 156, 157, 158, 159, 160, 161, 162, 163, 164, 165, 166, 167, 168, 169, 170] (by decide +kernel) (by decide +kernel)
set_option maxRecDepth 20000 in
theorem gX9_readsStatement_X9_readsPair : GoodIn wsX9_readsStatement (wsV RX9 176 RX9 yX9_readsPair wsX9_readsPair) := goodIn_app (goodIn_of _ (by decide +kernel)) ggX9_readsStatement_X9_readsPair
theorem dX9_readsStatement_0 : decode cX9_readsStatement 0 = .ok (.aload_n 0, 1) := by decide +kernel
theorem dX9_readsStatement_1 : decode cX9_readsStatement 1 = .ok (.ldc 163, 2) := by decide +kernel
theorem dX9_readsStatement_3 : decode cX9_readsStatement 3 = .ok (.invokevirtual 146, 3) := by decide +kernel
theorem dX9_readsStatement_6 : decode cX9_readsStatement 6 = .ok (.ifCond .eq 10, 3) := by decide +kernel
theorem dX9_readsStatement_9 : decode cX9_readsStatement 9 = .ok (.aload_n 0, 1) := by decide +kernel
theorem dX9_readsStatement_10 : decode cX9_readsStatement 10 = .ok (.invokevirtual 165, 3) := by decide +kernel
theorem dX9_readsStatement_13 : decode cX9_readsStatement 13 = .ok (.goto 75, 3) := by decide +kernel
theorem dX9_readsStatement_16 : decode cX9_readsStatement 16 = .ok (.aload_n 0, 1) := by decide +kernel
theorem dX9_readsStatement_17 : decode cX9_readsStatement 17 = .ok (.ldc 168, 2) := by decide +kernel
theorem dX9_readsStatement_19 : decode cX9_readsStatement 19 = .ok (.invokevirtual 146, 3) := by decide +kernel
theorem dX9_readsStatement_22 : decode cX9_readsStatement 22 = .ok (.ifCond .eq 10, 3) := by decide +kernel
theorem dX9_readsStatement_25 : decode cX9_readsStatement 25 = .ok (.aload_n 0, 1) := by decide +kernel
theorem dX9_readsStatement_26 : decode cX9_readsStatement 26 = .ok (.invokevirtual 170, 3) := by decide +kernel
theorem dX9_readsStatement_29 : decode cX9_readsStatement 29 = .ok (.goto 59, 3) := by decide +kernel
theorem dX9_readsStatement_32 : decode cX9_readsStatement 32 = .ok (.aload_n 0, 1) := by decide +kernel
theorem dX9_readsStatement_33 : decode cX9_readsStatement 33 = .ok (.ldc 173, 2) := by decide +kernel
theorem dX9_readsStatement_35 : decode cX9_readsStatement 35 = .ok (.invokevirtual 146, 3) := by decide +kernel
theorem dX9_readsStatement_38 : decode cX9_readsStatement 38 = .ok (.ifCond .eq 23, 3) := by decide +kernel
theorem dX9_readsStatement_41 : decode cX9_readsStatement 41 = .ok (.aload_n 0, 1) := by decide +kernel
theorem dX9_readsStatement_42 : decode cX9_readsStatement 42 = .ok (.iconst 4, 1) := by decide +kernel
theorem dX9_readsStatement_43 : decode cX9_readsStatement 43 = .ok (.bipush 8, 2) := by decide +kernel
theorem dX9_readsStatement_45 : decode cX9_readsStatement 45 = .ok (.bipush 19, 2) := by decide +kernel
theorem dX9_readsStatement_47 : decode cX9_readsStatement 47 = .ok (.ldc 175, 2) := by decide +kernel
theorem dX9_readsStatement_49 : decode cX9_readsStatement 49 = .ok (.aload_n 0, 1) := by decide +kernel
theorem dX9_readsStatement_50 : decode cX9_readsStatement 50 = .ok (.getfield 7, 3) := by decide +kernel
theorem dX9_readsStatement_53 : decode cX9_readsStatement 53 = .ok (.iconst 0, 1) := by decide +kernel
theorem dX9_readsStatement_54 : decode cX9_readsStatement 54 = .ok (.iaload, 1) := by decide +kernel
theorem dX9_readsStatement_55 : decode cX9_readsStatement 55 = .ok (.invokevirtual 176, 3) := by decide +kernel
theorem dX9_readsStatement_58 : decode cX9_readsStatement 58 = .ok (.goto 30, 3) := by decide +kernel
theorem dX9_readsStatement_61 : decode cX9_readsStatement 61 = .ok (.aload_n 0, 1) := by decide +kernel
theorem dX9_readsStatement_62 : decode cX9_readsStatement 62 = .ok (.ldc 180, 2) := by decide +kernel
theorem dX9_readsStatement_64 : decode cX9_readsStatement 64 = .ok (.invokevirtual 146, 3) := by decide +kernel
theorem dX9_readsStatement_67 : decode cX9_readsStatement 67 = .ok (.ifCond .eq 19, 3) := by decide +kernel
theorem dX9_readsStatement_70 : decode cX9_readsStatement 70 = .ok (.aload_n 0, 1) := by decide +kernel
theorem dX9_readsStatement_71 : decode cX9_readsStatement 71 = .ok (.iconst 5, 1) := by decide +kernel
theorem dX9_readsStatement_72 : decode cX9_readsStatement 72 = .ok (.bipush 6, 2) := by decide +kernel
theorem dX9_readsStatement_74 : decode cX9_readsStatement 74 = .ok (.bipush 35, 2) := by decide +kernel
theorem dX9_readsStatement_76 : decode cX9_readsStatement 76 = .ok (.ldc 182, 2) := by decide +kernel
theorem dX9_readsStatement_78 : decode cX9_readsStatement 78 = .ok (.bipush 30, 2) := by decide +kernel
theorem dX9_readsStatement_80 : decode cX9_readsStatement 80 = .ok (.invokevirtual 176, 3) := by decide +kernel
theorem dX9_readsStatement_83 : decode cX9_readsStatement 83 = .ok (.goto 5, 3) := by decide +kernel
theorem dX9_readsStatement_86 : decode cX9_readsStatement 86 = .ok (.iconst 0, 1) := by decide +kernel
theorem dX9_readsStatement_87 : decode cX9_readsStatement 87 = .ok (.ireturn, 1) := by decide +kernel
theorem dX9_readsStatement_88 : decode cX9_readsStatement 88 = .ok (.aload_n 0, 1) := by decide +kernel
theorem dX9_readsStatement_89 : decode cX9_readsStatement 89 = .ok (.getfield 101, 3) := by decide +kernel
theorem dX9_readsStatement_92 : decode cX9_readsStatement 92 = .ok (.ifCond .ne 7, 3) := by decide +kernel
theorem dX9_readsStatement_95 : decode cX9_readsStatement 95 = .ok (.iconst 1, 1) := by decide +kernel
theorem dX9_readsStatement_96 : decode cX9_readsStatement 96 = .ok (.goto 4, 3) := by decide +kernel
theorem dX9_readsStatement_99 : decode cX9_readsStatement 99 = .ok (.iconst 0, 1) := by decide +kernel
theorem dX9_readsStatement_100 : decode cX9_readsStatement 100 = .ok (.ireturn, 1) := by decide +kernel
set_option maxRecDepth 20000 in
theorem ggX9_load_X9_copies : GoodIn wsX9_load wsX9_copies := goodIn_r _ [14] (by decide +kernel) (by decide +kernel)
set_option maxRecDepth 20000 in
theorem gX9_load_X9_copies : GoodIn wsX9_load (va_wsS RX9 52 yX9_copies wsX9_copies) := goodIn_app (goodIn_of _ (by decide +kernel)) ggX9_load_X9_copies
set_option maxRecDepth 20000 in
theorem ggX9_load_X9_next : GoodIn wsX9_load wsX9_next := goodIn_r _ [18, 2, 19, 20, 10, 7, 21, 22, 23, 24, 25, 26, 27, 28, 13, 29, 30, 31, 32, 33, 34, 35, 36, 37, 38, 39, 40, 41, 193, 194, 195, 196, 197, 198, 199, 200, 201, 202, 203, 204, 205, 206, 207, 208, 209, 210, 211, 212, 213, 214] (by decide +kernel) (by decide +kernel)
set_option maxRecDepth 20000 in
theorem gX9_load_X9_next : GoodIn wsX9_load (wsV RX9 121 RX9 yX9_next wsX9_next) := goodIn_app (goodIn_of _ (by decide +kernel)) ggX9_load_X9_next
set_option maxRecDepth 20000 in
theorem ggX9_load_X9_isWord : GoodIn wsX9_load wsX9_isWord := goodIn_r _ [45, 3, 7, 2, 19, 30, 46, 47, 48, 49, 50, 51, 52, 53, 54, 55, 56, 57, 58, 59, 60, 61, 62, 63, 64, 65, 66, 67, 68, 69, 70, 71, 72, 73, 74, 75, 76, 77, 78, 79, 80, 81, 82, 83, 84, 85, 86, 87, 88, 89, 90, 91, 92, 93, 94, 193, 194, 195, 196, 197, 198, 199, 200, 201, 202, 203, 204, 205, 206, 207, 208, 209, 210, 211, 212, 213, 214] (by decide +kernel) (by decide +kernel)
set_option maxRecDepth 20000 in
theorem gX9_load_X9_isWord : GoodIn wsX9_load (wsV RX9 146 RX9 yX9_isWord wsX9_isWord) := goodIn_app (goodIn_of _ (by decide +kernel)) ggX9_load_X9_isWord
set_option maxRecDepth 20000 in
theorem ggX9_load_X9_must : GoodIn wsX9_load wsX9_must := goodIn_r _ [98, 3, 99, 100, 101, 13, 102, 19, 8, 15, 16, 17, 18, 2, 20, 10, 7, 21, 22, 23, 24, 25, 26, 27, 28, 29, 30, 31, 32, 33, 34, 35, 36, 37, 38, 39, 40, 41, 193, 194, 195, 196, 197, 198, 199, 200, 201, 202, 203, 204, 205, 206, 207, 208, 209, 210, 211, 212, 213, 214] (by decide +kernel) (by decide +kernel)
set_option maxRecDepth 20000 in
theorem gX9_load_X9_must : GoodIn wsX9_load (wsV RX9 124 RX9 yX9_must wsX9_must) := goodIn_app (goodIn_of _ (by decide +kernel)) ggX9_load_X9_must
set_option maxRecDepth 20000 in
theorem ggX9_load_X9_takes : GoodIn wsX9_load wsX9_takes := goodIn_r _ [106, 3, 107, 108, 109, 13, 110, 7, 20, 99, 100, 101, 102, 19, 8, 35, 36, 37, 15, 16, 17, 18, 2, 10, 21, 22, 23, 24, 25, 26, 27, 28, 29, 30, 31, 32, 33, 34, 38, 39, 40, 41, 193, 194, 195, 196, 197, 198, 199, 200, 201, 202, 203, 204, 205, 206, 207, 208, 209, 210, 211, 212, 213, 214] (by decide +kernel) (by decide +kernel)
set_option maxRecDepth 20000 in
theorem gX9_load_X9_takes : GoodIn wsX9_load (wsV RX9 151 RX9 yX9_takes wsX9_takes) := goodIn_app (goodIn_of _ (by decide +kernel)) ggX9_load_X9_takes
set_option maxRecDepth 20000 in
theorem ggX9_load_X9_mustEnd : GoodIn wsX9_load wsX9_mustEnd := goodIn_r _ [114, 7, 19, 26, 27, 28, 13, 29, 10, 30, 95, 96, 97, 98, 3, 99, 100, 101, 102, 8, 15, 16, 17, 18, 2, 20, 21, 22, 23, 24, 25, 31, 32, 33, 34, 35, 36, 37, 38, 39, 40, 41, 193, 194, 195, 196, 197, 198, 199, 200, 201, 202, 203, 204, 205, 206, 207, 208, 209, 210, 211, 212, 213, 214] (by decide +kernel) (by decide +kernel)
set_option maxRecDepth 20000 in
theorem gX9_load_X9_mustEnd : GoodIn wsX9_load (wsV RX9 154 RX9 yX9_mustEnd wsX9_mustEnd) := goodIn_app (goodIn_of _ (by decide +kernel)) ggX9_load_X9_mustEnd
set_option maxRecDepth 20000 in
theorem ggX9_load_X9_readsStatement : GoodIn wsX9_load wsX9_readsStatement := goodIn_r _ [118, 5, 3, 42, 43, 44, 13, 45, 7, 2, 19, 30, 46, 47, 48, 49, 50, 51, 52, 53, 54, 55, 56, 57, 58, 59, 60, 61, 62, 63, 64, 65, 66, 67, 68, 69, 70, 71, 72, 73, 74, 75, 76, 77, 78, 79, 80, 81, 82, 83, 84, 85, 86, 87, 88, 89, 90, 91, 92, 93, 94, 119, 120, 121, 122, 123, 124, 125, 126, 127, 99, 100, 101, 102, 8, 95, 96, 97, 98, 15, 16, 17, 18, 20, 10, 21, 22, 23, 24, 25, 26, 27, 28, 29, 31, 32, 33, 34, 35, 36, 37, 38, 39, 40, 41, 128, 129, 130, 131, 107, 108, 109, 110, 132, 133, 134, 135, 136, 137, 138, 139, 140, 141, 142, 143, 103, 104, 105, 106, 111, 112, 113, 114, 144, 145, 146, 147, 148, 149, 150, 151, 152, 153, 154, 155, 156, 157, 158, 159, 193, 194, 195, 196, 197, 198, 199, 200, 201, 202, 203, 204, 205, 206, 207, 208, 209, 210, 211, 212, 213, 214] (by decide +kernel) (by decide +kernel)
set_option maxRecDepth 20000 in
theorem gX9_load_X9_readsStatement : GoodIn wsX9_load (wsV RX9 188 RX9 yX9_readsStatement wsX9_readsStatement) := goodIn_app (goodIn_of _ (by decide +kernel)) ggX9_load_X9_readsStatement
set_option maxRecDepth 20000 in
theorem ggX9_load_X9_fails : GoodIn wsX9_load wsX9_fails := goodIn_r _ [102, 3, 19, 8, 193, 194, 195, 196, 197, 198, 199, 200, 201, 202, 203, 204, 205, 206, 207, 208, 209, 210, 211, 212, 213, 214] (by decide +kernel) (by decide +kernel)
set_option maxRecDepth 20000 in
theorem gX9_load_X9_fails : GoodIn wsX9_load (wsV RX9 117 RX9 yX9_fails wsX9_fails) := goodIn_app (goodIn_of _ (by decide +kernel)) ggX9_load_X9_fails
set_option maxRecDepth 20000 in
theorem ggX9_load_X9_isStanding : GoodIn wsX9_load wsX9_isStanding := goodIn_r _ [163, 164, 165, 166, 13, 167, 5, 168, 136, 137, 138, 139, 169, 170, 171, 172, 173, 174, 24, 175, 176, 177, 178, 179, 180, 181, 182, 183, 184, 185, 186, 193, 194, 195, 196, 197, 198, 199, 200, 201, 202, 203, 204, 205, 206, 207, 208, 209, 210, 211, 212, 213, 214] (by decide +kernel) (by decide +kernel)
set_option maxRecDepth 20000 in
theorem gX9_load_X9_isStanding : GoodIn wsX9_load (wsV RX9 192 RX9 yX9_isStanding wsX9_isStanding) := goodIn_app (goodIn_of _ (by decide +kernel)) ggX9_load_X9_isStanding
set_option maxRecDepth 20000 in
theorem ggX9_load_X9_keeps : GoodIn wsX9_load wsX9_keeps := goodIn_r _ [190, 191, 192, 11, 12, 13, 14, 193, 194, 195, 196, 197, 198, 199, 200, 201, 202, 203, 204, 205, 206, 207, 208, 209, 210, 211, 212, 213, 214] (by decide +kernel) (by decide +kernel)
set_option maxRecDepth 20000 in
theorem gX9_load_X9_keeps : GoodIn wsX9_load (wsV RX9 60 RX9 yX9_keeps wsX9_keeps) := goodIn_app (goodIn_of _ (by decide +kernel)) ggX9_load_X9_keeps
theorem dX9_load_0 : decode cX9_load 0 = .ok (.aload_n 0, 1) := by decide +kernel
theorem dX9_load_1 : decode cX9_load 1 = .ok (.iconst 0, 1) := by decide +kernel
theorem dX9_load_2 : decode cX9_load 2 = .ok (.putfield 46, 3) := by decide +kernel
theorem dX9_load_5 : decode cX9_load 5 = .ok (.aload_n 0, 1) := by decide +kernel
theorem dX9_load_6 : decode cX9_load 6 = .ok (.iconst 0, 1) := by decide +kernel
theorem dX9_load_7 : decode cX9_load 7 = .ok (.putfield 75, 3) := by decide +kernel
theorem dX9_load_10 : decode cX9_load 10 = .ok (.aload_n 0, 1) := by decide +kernel
theorem dX9_load_11 : decode cX9_load 11 = .ok (.iconst 0, 1) := by decide +kernel
theorem dX9_load_12 : decode cX9_load 12 = .ok (.putfield 101, 3) := by decide +kernel
theorem dX9_load_15 : decode cX9_load 15 = .ok (.aload_n 0, 1) := by decide +kernel
theorem dX9_load_16 : decode cX9_load 16 = .ok (.getfield 13, 3) := by decide +kernel
theorem dX9_load_19 : decode cX9_load 19 = .ok (.iconst 0, 1) := by decide +kernel
theorem dX9_load_20 : decode cX9_load 20 = .ok (.aload_n 0, 1) := by decide +kernel
theorem dX9_load_21 : decode cX9_load 21 = .ok (.getfield 7, 3) := by decide +kernel
theorem dX9_load_24 : decode cX9_load 24 = .ok (.iconst 0, 1) := by decide +kernel
theorem dX9_load_25 : decode cX9_load 25 = .ok (.invokestatic 52, 3) := by decide +kernel
theorem dX9_load_28 : decode cX9_load 28 = .ok (.iconst 0, 1) := by decide +kernel
theorem dX9_load_29 : decode cX9_load 29 = .ok (.istore_n 1, 1) := by decide +kernel
theorem dX9_load_30 : decode cX9_load 30 = .ok (.iload_n 1, 1) := by decide +kernel
theorem dX9_load_31 : decode cX9_load 31 = .ok (.bipush 47, 2) := by decide +kernel
theorem dX9_load_33 : decode cX9_load 33 = .ok (.if_icmp .ge 16, 3) := by decide +kernel
theorem dX9_load_36 : decode cX9_load 36 = .ok (.aload_n 0, 1) := by decide +kernel
theorem dX9_load_37 : decode cX9_load 37 = .ok (.getfield 7, 3) := by decide +kernel
theorem dX9_load_40 : decode cX9_load 40 = .ok (.iload_n 1, 1) := by decide +kernel
theorem dX9_load_41 : decode cX9_load 41 = .ok (.iconst 0, 1) := by decide +kernel
theorem dX9_load_42 : decode cX9_load 42 = .ok (.iastore, 1) := by decide +kernel
theorem dX9_load_43 : decode cX9_load 43 = .ok (.iinc 1 1, 3) := by decide +kernel
theorem dX9_load_46 : decode cX9_load 46 = .ok (.goto (-16), 3) := by decide +kernel
theorem dX9_load_49 : decode cX9_load 49 = .ok (.aload_n 0, 1) := by decide +kernel
theorem dX9_load_50 : decode cX9_load 50 = .ok (.invokevirtual 121, 3) := by decide +kernel
theorem dX9_load_53 : decode cX9_load 53 = .ok (.aload_n 0, 1) := by decide +kernel
theorem dX9_load_54 : decode cX9_load 54 = .ok (.aload_n 0, 1) := by decide +kernel
theorem dX9_load_55 : decode cX9_load 55 = .ok (.ldc 183, 2) := by decide +kernel
theorem dX9_load_57 : decode cX9_load 57 = .ok (.invokevirtual 146, 3) := by decide +kernel
theorem dX9_load_60 : decode cX9_load 60 = .ok (.invokevirtual 124, 3) := by decide +kernel
theorem dX9_load_63 : decode cX9_load 63 = .ok (.aload_n 0, 1) := by decide +kernel
theorem dX9_load_64 : decode cX9_load 64 = .ok (.getfield 7, 3) := by decide +kernel
theorem dX9_load_67 : decode cX9_load 67 = .ok (.iconst 0, 1) := by decide +kernel
theorem dX9_load_68 : decode cX9_load 68 = .ok (.aload_n 0, 1) := by decide +kernel
theorem dX9_load_69 : decode cX9_load 69 = .ok (.iconst 2, 1) := by decide +kernel
theorem dX9_load_70 : decode cX9_load 70 = .ok (.bipush 30, 2) := by decide +kernel
theorem dX9_load_72 : decode cX9_load 72 = .ok (.invokevirtual 151, 3) := by decide +kernel
theorem dX9_load_75 : decode cX9_load 75 = .ok (.iastore, 1) := by decide +kernel
theorem dX9_load_76 : decode cX9_load 76 = .ok (.aload_n 0, 1) := by decide +kernel
theorem dX9_load_77 : decode cX9_load 77 = .ok (.aload_n 0, 1) := by decide +kernel
theorem dX9_load_78 : decode cX9_load 78 = .ok (.ldc 185, 2) := by decide +kernel
theorem dX9_load_80 : decode cX9_load 80 = .ok (.invokevirtual 146, 3) := by decide +kernel
theorem dX9_load_83 : decode cX9_load 83 = .ok (.invokevirtual 124, 3) := by decide +kernel
theorem dX9_load_86 : decode cX9_load 86 = .ok (.aload_n 0, 1) := by decide +kernel
theorem dX9_load_87 : decode cX9_load 87 = .ok (.getfield 7, 3) := by decide +kernel
theorem dX9_load_90 : decode cX9_load 90 = .ok (.iconst 1, 1) := by decide +kernel
theorem dX9_load_91 : decode cX9_load 91 = .ok (.aload_n 0, 1) := by decide +kernel
theorem dX9_load_92 : decode cX9_load 92 = .ok (.iconst 1, 1) := by decide +kernel
theorem dX9_load_93 : decode cX9_load 93 = .ok (.ldc 187, 2) := by decide +kernel
theorem dX9_load_95 : decode cX9_load 95 = .ok (.invokevirtual 151, 3) := by decide +kernel
theorem dX9_load_98 : decode cX9_load 98 = .ok (.iastore, 1) := by decide +kernel
theorem dX9_load_99 : decode cX9_load 99 = .ok (.aload_n 0, 1) := by decide +kernel
theorem dX9_load_100 : decode cX9_load 100 = .ok (.invokevirtual 154, 3) := by decide +kernel
theorem dX9_load_103 : decode cX9_load 103 = .ok (.aload_n 0, 1) := by decide +kernel
theorem dX9_load_104 : decode cX9_load 104 = .ok (.getfield 101, 3) := by decide +kernel
theorem dX9_load_107 : decode cX9_load 107 = .ok (.ifCond .ne 7, 3) := by decide +kernel
theorem dX9_load_110 : decode cX9_load 110 = .ok (.iconst 1, 1) := by decide +kernel
theorem dX9_load_111 : decode cX9_load 111 = .ok (.goto 4, 3) := by decide +kernel
theorem dX9_load_114 : decode cX9_load 114 = .ok (.iconst 0, 1) := by decide +kernel
theorem dX9_load_115 : decode cX9_load 115 = .ok (.istore_n 1, 1) := by decide +kernel
theorem dX9_load_116 : decode cX9_load 116 = .ok (.iload_n 1, 1) := by decide +kernel
theorem dX9_load_117 : decode cX9_load 117 = .ok (.ifCond .eq 11, 3) := by decide +kernel
theorem dX9_load_120 : decode cX9_load 120 = .ok (.aload_n 0, 1) := by decide +kernel
theorem dX9_load_121 : decode cX9_load 121 = .ok (.invokevirtual 188, 3) := by decide +kernel
theorem dX9_load_124 : decode cX9_load 124 = .ok (.istore_n 1, 1) := by decide +kernel
theorem dX9_load_125 : decode cX9_load 125 = .ok (.goto (-9), 3) := by decide +kernel
theorem dX9_load_128 : decode cX9_load 128 = .ok (.aload_n 0, 1) := by decide +kernel
theorem dX9_load_129 : decode cX9_load 129 = .ok (.getfield 101, 3) := by decide +kernel
theorem dX9_load_132 : decode cX9_load 132 = .ok (.ifCond .ne 17, 3) := by decide +kernel
theorem dX9_load_135 : decode cX9_load 135 = .ok (.aload_n 0, 1) := by decide +kernel
theorem dX9_load_136 : decode cX9_load 136 = .ok (.getfield 84, 3) := by decide +kernel
theorem dX9_load_139 : decode cX9_load 139 = .ok (.iconst 3, 1) := by decide +kernel
theorem dX9_load_140 : decode cX9_load 140 = .ok (.if_icmp .eq 9, 3) := by decide +kernel
theorem dX9_load_143 : decode cX9_load 143 = .ok (.aload_n 0, 1) := by decide +kernel
theorem dX9_load_144 : decode cX9_load 144 = .ok (.bipush (-2), 2) := by decide +kernel
theorem dX9_load_146 : decode cX9_load 146 = .ok (.invokevirtual 117, 3) := by decide +kernel
theorem dX9_load_149 : decode cX9_load 149 = .ok (.aload_n 0, 1) := by decide +kernel
theorem dX9_load_150 : decode cX9_load 150 = .ok (.getfield 101, 3) := by decide +kernel
theorem dX9_load_153 : decode cX9_load 153 = .ok (.ifCond .ne 36, 3) := by decide +kernel
theorem dX9_load_156 : decode cX9_load 156 = .ok (.aload_n 0, 1) := by decide +kernel
theorem dX9_load_157 : decode cX9_load 157 = .ok (.getfield 7, 3) := by decide +kernel
theorem dX9_load_160 : decode cX9_load 160 = .ok (.iconst 2, 1) := by decide +kernel
theorem dX9_load_161 : decode cX9_load 161 = .ok (.iaload, 1) := by decide +kernel
theorem dX9_load_162 : decode cX9_load 162 = .ok (.iconst 2, 1) := by decide +kernel
theorem dX9_load_163 : decode cX9_load 163 = .ok (.if_icmp .lt 20, 3) := by decide +kernel
theorem dX9_load_166 : decode cX9_load 166 = .ok (.aload_n 0, 1) := by decide +kernel
theorem dX9_load_167 : decode cX9_load 167 = .ok (.getfield 7, 3) := by decide +kernel
theorem dX9_load_170 : decode cX9_load 170 = .ok (.iconst 3, 1) := by decide +kernel
theorem dX9_load_171 : decode cX9_load 171 = .ok (.iaload, 1) := by decide +kernel
theorem dX9_load_172 : decode cX9_load 172 = .ok (.aload_n 0, 1) := by decide +kernel
theorem dX9_load_173 : decode cX9_load 173 = .ok (.getfield 7, 3) := by decide +kernel
theorem dX9_load_176 : decode cX9_load 176 = .ok (.iconst 2, 1) := by decide +kernel
theorem dX9_load_177 : decode cX9_load 177 = .ok (.iaload, 1) := by decide +kernel
theorem dX9_load_178 : decode cX9_load 178 = .ok (.iconst 2, 1) := by decide +kernel
theorem dX9_load_179 : decode cX9_load 179 = .ok (.isub, 1) := by decide +kernel
theorem dX9_load_180 : decode cX9_load 180 = .ok (.if_icmp .eq 9, 3) := by decide +kernel
theorem dX9_load_183 : decode cX9_load 183 = .ok (.aload_n 0, 1) := by decide +kernel
theorem dX9_load_184 : decode cX9_load 184 = .ok (.bipush (-6), 2) := by decide +kernel
theorem dX9_load_186 : decode cX9_load 186 = .ok (.invokevirtual 117, 3) := by decide +kernel
theorem dX9_load_189 : decode cX9_load 189 = .ok (.aload_n 0, 1) := by decide +kernel
theorem dX9_load_190 : decode cX9_load 190 = .ok (.getfield 101, 3) := by decide +kernel
theorem dX9_load_193 : decode cX9_load 193 = .ok (.ifCond .ne 16, 3) := by decide +kernel
theorem dX9_load_196 : decode cX9_load 196 = .ok (.aload_n 0, 1) := by decide +kernel
theorem dX9_load_197 : decode cX9_load 197 = .ok (.invokevirtual 192, 3) := by decide +kernel
theorem dX9_load_200 : decode cX9_load 200 = .ok (.ifCond .ne 9, 3) := by decide +kernel
theorem dX9_load_203 : decode cX9_load 203 = .ok (.aload_n 0, 1) := by decide +kernel
theorem dX9_load_204 : decode cX9_load 204 = .ok (.bipush (-7), 2) := by decide +kernel
theorem dX9_load_206 : decode cX9_load 206 = .ok (.invokevirtual 117, 3) := by decide +kernel
theorem dX9_load_209 : decode cX9_load 209 = .ok (.aload_n 0, 1) := by decide +kernel
theorem dX9_load_210 : decode cX9_load 210 = .ok (.aload_n 0, 1) := by decide +kernel
theorem dX9_load_211 : decode cX9_load 211 = .ok (.getfield 101, 3) := by decide +kernel
theorem dX9_load_214 : decode cX9_load 214 = .ok (.ifCond .ne 7, 3) := by decide +kernel
theorem dX9_load_217 : decode cX9_load 217 = .ok (.iconst (-1), 1) := by decide +kernel
theorem dX9_load_218 : decode cX9_load 218 = .ok (.goto 7, 3) := by decide +kernel
theorem dX9_load_221 : decode cX9_load 221 = .ok (.aload_n 0, 1) := by decide +kernel
theorem dX9_load_222 : decode cX9_load 222 = .ok (.getfield 114, 3) := by decide +kernel
theorem dX9_load_225 : decode cX9_load 225 = .ok (.putfield 29, 3) := by decide +kernel
theorem dX9_load_228 : decode cX9_load 228 = .ok (.aload_n 0, 1) := by decide +kernel
theorem dX9_load_229 : decode cX9_load 229 = .ok (.iconst 0, 1) := by decide +kernel
theorem dX9_load_230 : decode cX9_load 230 = .ok (.putfield 68, 3) := by decide +kernel
theorem dX9_load_233 : decode cX9_load 233 = .ok (.aload_n 0, 1) := by decide +kernel
theorem dX9_load_234 : decode cX9_load 234 = .ok (.getfield 101, 3) := by decide +kernel
theorem dX9_load_237 : decode cX9_load 237 = .ok (.ifCond .eq 16, 3) := by decide +kernel
theorem dX9_load_240 : decode cX9_load 240 = .ok (.aload_n 0, 1) := by decide +kernel
theorem dX9_load_241 : decode cX9_load 241 = .ok (.getfield 7, 3) := by decide +kernel
theorem dX9_load_244 : decode cX9_load 244 = .ok (.iconst 0, 1) := by decide +kernel
theorem dX9_load_245 : decode cX9_load 245 = .ok (.aload_n 0, 1) := by decide +kernel
theorem dX9_load_246 : decode cX9_load 246 = .ok (.getfield 13, 3) := by decide +kernel
theorem dX9_load_249 : decode cX9_load 249 = .ok (.iconst 0, 1) := by decide +kernel
theorem dX9_load_250 : decode cX9_load 250 = .ok (.invokestatic 52, 3) := by decide +kernel
theorem dX9_load_253 : decode cX9_load 253 = .ok (.aload_n 0, 1) := by decide +kernel
theorem dX9_load_254 : decode cX9_load 254 = .ok (.getfield 101, 3) := by decide +kernel
theorem dX9_load_257 : decode cX9_load 257 = .ok (.ifCond .eq 8, 3) := by decide +kernel
theorem dX9_load_260 : decode cX9_load 260 = .ok (.aload_n 0, 1) := by decide +kernel
theorem dX9_load_261 : decode cX9_load 261 = .ok (.getfield 101, 3) := by decide +kernel
theorem dX9_load_264 : decode cX9_load 264 = .ok (.ireturn, 1) := by decide +kernel
theorem dX9_load_265 : decode cX9_load 265 = .ok (.aload_n 0, 1) := by decide +kernel
theorem dX9_load_266 : decode cX9_load 266 = .ok (.aload_n 0, 1) := by decide +kernel
theorem dX9_load_267 : decode cX9_load 267 = .ok (.getfield 13, 3) := by decide +kernel
theorem dX9_load_270 : decode cX9_load 270 = .ok (.invokevirtual 60, 3) := by decide +kernel
theorem dX9_load_273 : decode cX9_load 273 = .ok (.aload_n 0, 1) := by decide +kernel
theorem dX9_load_274 : decode cX9_load 274 = .ok (.getfield 7, 3) := by decide +kernel
theorem dX9_load_277 : decode cX9_load 277 = .ok (.iconst 2, 1) := by decide +kernel
theorem dX9_load_278 : decode cX9_load 278 = .ok (.iaload, 1) := by decide +kernel
theorem dX9_load_279 : decode cX9_load 279 = .ok (.ireturn, 1) := by decide +kernel
theorem dX9_errorPosition_0 : decode cX9_errorPosition 0 = .ok (.aload_n 0, 1) := by decide +kernel
theorem dX9_errorPosition_1 : decode cX9_errorPosition 1 = .ok (.iconst 0, 1) := by decide +kernel
theorem dX9_errorPosition_2 : decode cX9_errorPosition 2 = .ok (.putfield 46, 3) := by decide +kernel
theorem dX9_errorPosition_5 : decode cX9_errorPosition 5 = .ok (.aload_n 0, 1) := by decide +kernel
theorem dX9_errorPosition_6 : decode cX9_errorPosition 6 = .ok (.getfield 29, 3) := by decide +kernel
theorem dX9_errorPosition_9 : decode cX9_errorPosition 9 = .ok (.ireturn, 1) := by decide +kernel
theorem dX9_placeOf_0 : decode cX9_placeOf 0 = .ok (.aload_n 0, 1) := by decide +kernel
theorem dX9_placeOf_1 : decode cX9_placeOf 1 = .ok (.getfield 7, 3) := by decide +kernel
theorem dX9_placeOf_4 : decode cX9_placeOf 4 = .ok (.bipush 6, 2) := by decide +kernel
theorem dX9_placeOf_6 : decode cX9_placeOf 6 = .ok (.iconst 2, 1) := by decide +kernel
theorem dX9_placeOf_7 : decode cX9_placeOf 7 = .ok (.iload_n 1, 1) := by decide +kernel
theorem dX9_placeOf_8 : decode cX9_placeOf 8 = .ok (.imul, 1) := by decide +kernel
theorem dX9_placeOf_9 : decode cX9_placeOf 9 = .ok (.iadd, 1) := by decide +kernel
theorem dX9_placeOf_10 : decode cX9_placeOf 10 = .ok (.iaload, 1) := by decide +kernel
theorem dX9_placeOf_11 : decode cX9_placeOf 11 = .ok (.ireturn, 1) := by decide +kernel
theorem dX9_bearsOf_0 : decode cX9_bearsOf 0 = .ok (.aload_n 0, 1) := by decide +kernel
theorem dX9_bearsOf_1 : decode cX9_bearsOf 1 = .ok (.getfield 7, 3) := by decide +kernel
theorem dX9_bearsOf_4 : decode cX9_bearsOf 4 = .ok (.bipush 6, 2) := by decide +kernel
theorem dX9_bearsOf_6 : decode cX9_bearsOf 6 = .ok (.iconst 2, 1) := by decide +kernel
theorem dX9_bearsOf_7 : decode cX9_bearsOf 7 = .ok (.iload_n 1, 1) := by decide +kernel
theorem dX9_bearsOf_8 : decode cX9_bearsOf 8 = .ok (.imul, 1) := by decide +kernel
theorem dX9_bearsOf_9 : decode cX9_bearsOf 9 = .ok (.iadd, 1) := by decide +kernel
theorem dX9_bearsOf_10 : decode cX9_bearsOf 10 = .ok (.iconst 1, 1) := by decide +kernel
theorem dX9_bearsOf_11 : decode cX9_bearsOf 11 = .ok (.iadd, 1) := by decide +kernel
theorem dX9_bearsOf_12 : decode cX9_bearsOf 12 = .ok (.iaload, 1) := by decide +kernel
theorem dX9_bearsOf_13 : decode cX9_bearsOf 13 = .ok (.ireturn, 1) := by decide +kernel
set_option maxRecDepth 20000 in
theorem ggX9_supportAt_X9_placeOf : GoodIn wsX9_supportAt wsX9_placeOf := goodIn_r _ [6, 1, 7, 8, 9, 10, 11, 12, 13, 14, 15, 16, 17, 18, 19, 20, 21, 22, 23, 24, 25, 26, 27, 28] (by decide +kernel) (by decide +kernel)
set_option maxRecDepth 20000 in
theorem gX9_supportAt_X9_placeOf : GoodIn wsX9_supportAt (wsV RX9 195 RX9 yX9_placeOf wsX9_placeOf) := goodIn_app (goodIn_of _ (by decide +kernel)) ggX9_supportAt_X9_placeOf
theorem dX9_supportAt_0 : decode cX9_supportAt 0 = .ok (.iconst 0, 1) := by decide +kernel
theorem dX9_supportAt_1 : decode cX9_supportAt 1 = .ok (.istore_n 2, 1) := by decide +kernel
theorem dX9_supportAt_2 : decode cX9_supportAt 2 = .ok (.iload_n 2, 1) := by decide +kernel
theorem dX9_supportAt_3 : decode cX9_supportAt 3 = .ok (.aload_n 0, 1) := by decide +kernel
theorem dX9_supportAt_4 : decode cX9_supportAt 4 = .ok (.getfield 7, 3) := by decide +kernel
theorem dX9_supportAt_7 : decode cX9_supportAt 7 = .ok (.iconst 2, 1) := by decide +kernel
theorem dX9_supportAt_8 : decode cX9_supportAt 8 = .ok (.iaload, 1) := by decide +kernel
theorem dX9_supportAt_9 : decode cX9_supportAt 9 = .ok (.if_icmp .ge 20, 3) := by decide +kernel
theorem dX9_supportAt_12 : decode cX9_supportAt 12 = .ok (.aload_n 0, 1) := by decide +kernel
theorem dX9_supportAt_13 : decode cX9_supportAt 13 = .ok (.iload_n 2, 1) := by decide +kernel
theorem dX9_supportAt_14 : decode cX9_supportAt 14 = .ok (.invokevirtual 195, 3) := by decide +kernel
theorem dX9_supportAt_17 : decode cX9_supportAt 17 = .ok (.iload_n 1, 1) := by decide +kernel
theorem dX9_supportAt_18 : decode cX9_supportAt 18 = .ok (.if_icmp .ne 5, 3) := by decide +kernel
theorem dX9_supportAt_21 : decode cX9_supportAt 21 = .ok (.iload_n 2, 1) := by decide +kernel
theorem dX9_supportAt_22 : decode cX9_supportAt 22 = .ok (.ireturn, 1) := by decide +kernel
theorem dX9_supportAt_23 : decode cX9_supportAt 23 = .ok (.iinc 2 1, 3) := by decide +kernel
theorem dX9_supportAt_26 : decode cX9_supportAt 26 = .ok (.goto (-24), 3) := by decide +kernel
theorem dX9_supportAt_29 : decode cX9_supportAt 29 = .ok (.iconst (-1), 1) := by decide +kernel
theorem dX9_supportAt_30 : decode cX9_supportAt 30 = .ok (.ireturn, 1) := by decide +kernel
theorem dX9_hingeAt_0 : decode cX9_hingeAt 0 = .ok (.iconst 0, 1) := by decide +kernel
theorem dX9_hingeAt_1 : decode cX9_hingeAt 1 = .ok (.istore_n 2, 1) := by decide +kernel
theorem dX9_hingeAt_2 : decode cX9_hingeAt 2 = .ok (.iload_n 2, 1) := by decide +kernel
theorem dX9_hingeAt_3 : decode cX9_hingeAt 3 = .ok (.aload_n 0, 1) := by decide +kernel
theorem dX9_hingeAt_4 : decode cX9_hingeAt 4 = .ok (.getfield 7, 3) := by decide +kernel
theorem dX9_hingeAt_7 : decode cX9_hingeAt 7 = .ok (.iconst 3, 1) := by decide +kernel
theorem dX9_hingeAt_8 : decode cX9_hingeAt 8 = .ok (.iaload, 1) := by decide +kernel
theorem dX9_hingeAt_9 : decode cX9_hingeAt 9 = .ok (.if_icmp .ge 24, 3) := by decide +kernel
theorem dX9_hingeAt_12 : decode cX9_hingeAt 12 = .ok (.aload_n 0, 1) := by decide +kernel
theorem dX9_hingeAt_13 : decode cX9_hingeAt 13 = .ok (.getfield 7, 3) := by decide +kernel
theorem dX9_hingeAt_16 : decode cX9_hingeAt 16 = .ok (.bipush 16, 2) := by decide +kernel
theorem dX9_hingeAt_18 : decode cX9_hingeAt 18 = .ok (.iload_n 2, 1) := by decide +kernel
theorem dX9_hingeAt_19 : decode cX9_hingeAt 19 = .ok (.iadd, 1) := by decide +kernel
theorem dX9_hingeAt_20 : decode cX9_hingeAt 20 = .ok (.iaload, 1) := by decide +kernel
theorem dX9_hingeAt_21 : decode cX9_hingeAt 21 = .ok (.iload_n 1, 1) := by decide +kernel
theorem dX9_hingeAt_22 : decode cX9_hingeAt 22 = .ok (.if_icmp .ne 5, 3) := by decide +kernel
theorem dX9_hingeAt_25 : decode cX9_hingeAt 25 = .ok (.iload_n 2, 1) := by decide +kernel
theorem dX9_hingeAt_26 : decode cX9_hingeAt 26 = .ok (.ireturn, 1) := by decide +kernel
theorem dX9_hingeAt_27 : decode cX9_hingeAt 27 = .ok (.iinc 2 1, 3) := by decide +kernel
theorem dX9_hingeAt_30 : decode cX9_hingeAt 30 = .ok (.goto (-28), 3) := by decide +kernel
theorem dX9_hingeAt_33 : decode cX9_hingeAt 33 = .ok (.iconst (-1), 1) := by decide +kernel
theorem dX9_hingeAt_34 : decode cX9_hingeAt 34 = .ok (.ireturn, 1) := by decide +kernel
set_option maxRecDepth 20000 in
theorem ggX9_addsSupport_X9_placeOf : GoodIn wsX9_addsSupport wsX9_placeOf := goodIn_r _ [6, 1, 7, 8, 9, 10, 11, 12, 13, 14, 15, 16, 17, 18, 19, 20, 21, 22, 23, 24, 25, 26, 27, 28] (by decide +kernel) (by decide +kernel)
set_option maxRecDepth 20000 in
theorem gX9_addsSupport_X9_placeOf : GoodIn wsX9_addsSupport (wsV RX9 195 RX9 yX9_placeOf wsX9_placeOf) := goodIn_app (goodIn_of _ (by decide +kernel)) ggX9_addsSupport_X9_placeOf
theorem dX9_addsSupport_0 : decode cX9_addsSupport 0 = .ok (.aload_n 0, 1) := by decide +kernel
theorem dX9_addsSupport_1 : decode cX9_addsSupport 1 = .ok (.getfield 7, 3) := by decide +kernel
theorem dX9_addsSupport_4 : decode cX9_addsSupport 4 = .ok (.iconst 2, 1) := by decide +kernel
theorem dX9_addsSupport_5 : decode cX9_addsSupport 5 = .ok (.iaload, 1) := by decide +kernel
theorem dX9_addsSupport_6 : decode cX9_addsSupport 6 = .ok (.istore_n 3, 1) := by decide +kernel
theorem dX9_addsSupport_7 : decode cX9_addsSupport 7 = .ok (.iload_n 3, 1) := by decide +kernel
theorem dX9_addsSupport_8 : decode cX9_addsSupport 8 = .ok (.ifCond .le 70, 3) := by decide +kernel
theorem dX9_addsSupport_11 : decode cX9_addsSupport 11 = .ok (.aload_n 0, 1) := by decide +kernel
theorem dX9_addsSupport_12 : decode cX9_addsSupport 12 = .ok (.iload_n 3, 1) := by decide +kernel
theorem dX9_addsSupport_13 : decode cX9_addsSupport 13 = .ok (.iconst 1, 1) := by decide +kernel
theorem dX9_addsSupport_14 : decode cX9_addsSupport 14 = .ok (.isub, 1) := by decide +kernel
theorem dX9_addsSupport_15 : decode cX9_addsSupport 15 = .ok (.invokevirtual 195, 3) := by decide +kernel
theorem dX9_addsSupport_18 : decode cX9_addsSupport 18 = .ok (.iload_n 1, 1) := by decide +kernel
theorem dX9_addsSupport_19 : decode cX9_addsSupport 19 = .ok (.if_icmp .le 59, 3) := by decide +kernel
theorem dX9_addsSupport_22 : decode cX9_addsSupport 22 = .ok (.aload_n 0, 1) := by decide +kernel
theorem dX9_addsSupport_23 : decode cX9_addsSupport 23 = .ok (.getfield 7, 3) := by decide +kernel
theorem dX9_addsSupport_26 : decode cX9_addsSupport 26 = .ok (.bipush 6, 2) := by decide +kernel
theorem dX9_addsSupport_28 : decode cX9_addsSupport 28 = .ok (.iconst 2, 1) := by decide +kernel
theorem dX9_addsSupport_29 : decode cX9_addsSupport 29 = .ok (.iload_n 3, 1) := by decide +kernel
theorem dX9_addsSupport_30 : decode cX9_addsSupport 30 = .ok (.imul, 1) := by decide +kernel
theorem dX9_addsSupport_31 : decode cX9_addsSupport 31 = .ok (.iadd, 1) := by decide +kernel
theorem dX9_addsSupport_32 : decode cX9_addsSupport 32 = .ok (.aload_n 0, 1) := by decide +kernel
theorem dX9_addsSupport_33 : decode cX9_addsSupport 33 = .ok (.getfield 7, 3) := by decide +kernel
theorem dX9_addsSupport_36 : decode cX9_addsSupport 36 = .ok (.bipush 6, 2) := by decide +kernel
theorem dX9_addsSupport_38 : decode cX9_addsSupport 38 = .ok (.iconst 2, 1) := by decide +kernel
theorem dX9_addsSupport_39 : decode cX9_addsSupport 39 = .ok (.iload_n 3, 1) := by decide +kernel
theorem dX9_addsSupport_40 : decode cX9_addsSupport 40 = .ok (.imul, 1) := by decide +kernel
theorem dX9_addsSupport_41 : decode cX9_addsSupport 41 = .ok (.iadd, 1) := by decide +kernel
theorem dX9_addsSupport_42 : decode cX9_addsSupport 42 = .ok (.iconst 2, 1) := by decide +kernel
theorem dX9_addsSupport_43 : decode cX9_addsSupport 43 = .ok (.isub, 1) := by decide +kernel
theorem dX9_addsSupport_44 : decode cX9_addsSupport 44 = .ok (.iaload, 1) := by decide +kernel
theorem dX9_addsSupport_45 : decode cX9_addsSupport 45 = .ok (.iastore, 1) := by decide +kernel
theorem dX9_addsSupport_46 : decode cX9_addsSupport 46 = .ok (.aload_n 0, 1) := by decide +kernel
theorem dX9_addsSupport_47 : decode cX9_addsSupport 47 = .ok (.getfield 7, 3) := by decide +kernel
theorem dX9_addsSupport_50 : decode cX9_addsSupport 50 = .ok (.bipush 6, 2) := by decide +kernel
theorem dX9_addsSupport_52 : decode cX9_addsSupport 52 = .ok (.iconst 2, 1) := by decide +kernel
theorem dX9_addsSupport_53 : decode cX9_addsSupport 53 = .ok (.iload_n 3, 1) := by decide +kernel
theorem dX9_addsSupport_54 : decode cX9_addsSupport 54 = .ok (.imul, 1) := by decide +kernel
theorem dX9_addsSupport_55 : decode cX9_addsSupport 55 = .ok (.iadd, 1) := by decide +kernel
theorem dX9_addsSupport_56 : decode cX9_addsSupport 56 = .ok (.iconst 1, 1) := by decide +kernel
theorem dX9_addsSupport_57 : decode cX9_addsSupport 57 = .ok (.iadd, 1) := by decide +kernel
theorem dX9_addsSupport_58 : decode cX9_addsSupport 58 = .ok (.aload_n 0, 1) := by decide +kernel
theorem dX9_addsSupport_59 : decode cX9_addsSupport 59 = .ok (.getfield 7, 3) := by decide +kernel
theorem dX9_addsSupport_62 : decode cX9_addsSupport 62 = .ok (.bipush 6, 2) := by decide +kernel
theorem dX9_addsSupport_64 : decode cX9_addsSupport 64 = .ok (.iconst 2, 1) := by decide +kernel
theorem dX9_addsSupport_65 : decode cX9_addsSupport 65 = .ok (.iload_n 3, 1) := by decide +kernel
theorem dX9_addsSupport_66 : decode cX9_addsSupport 66 = .ok (.imul, 1) := by decide +kernel
theorem dX9_addsSupport_67 : decode cX9_addsSupport 67 = .ok (.iadd, 1) := by decide +kernel
theorem dX9_addsSupport_68 : decode cX9_addsSupport 68 = .ok (.iconst 1, 1) := by decide +kernel
theorem dX9_addsSupport_69 : decode cX9_addsSupport 69 = .ok (.isub, 1) := by decide +kernel
theorem dX9_addsSupport_70 : decode cX9_addsSupport 70 = .ok (.iaload, 1) := by decide +kernel
theorem dX9_addsSupport_71 : decode cX9_addsSupport 71 = .ok (.iastore, 1) := by decide +kernel
theorem dX9_addsSupport_72 : decode cX9_addsSupport 72 = .ok (.iinc 3 (-1), 3) := by decide +kernel
theorem dX9_addsSupport_75 : decode cX9_addsSupport 75 = .ok (.goto (-68), 3) := by decide +kernel
theorem dX9_addsSupport_78 : decode cX9_addsSupport 78 = .ok (.aload_n 0, 1) := by decide +kernel
theorem dX9_addsSupport_79 : decode cX9_addsSupport 79 = .ok (.getfield 7, 3) := by decide +kernel
theorem dX9_addsSupport_82 : decode cX9_addsSupport 82 = .ok (.bipush 6, 2) := by decide +kernel
theorem dX9_addsSupport_84 : decode cX9_addsSupport 84 = .ok (.iconst 2, 1) := by decide +kernel
theorem dX9_addsSupport_85 : decode cX9_addsSupport 85 = .ok (.iload_n 3, 1) := by decide +kernel
theorem dX9_addsSupport_86 : decode cX9_addsSupport 86 = .ok (.imul, 1) := by decide +kernel
theorem dX9_addsSupport_87 : decode cX9_addsSupport 87 = .ok (.iadd, 1) := by decide +kernel
theorem dX9_addsSupport_88 : decode cX9_addsSupport 88 = .ok (.iload_n 1, 1) := by decide +kernel
theorem dX9_addsSupport_89 : decode cX9_addsSupport 89 = .ok (.iastore, 1) := by decide +kernel
theorem dX9_addsSupport_90 : decode cX9_addsSupport 90 = .ok (.aload_n 0, 1) := by decide +kernel
theorem dX9_addsSupport_91 : decode cX9_addsSupport 91 = .ok (.getfield 7, 3) := by decide +kernel
theorem dX9_addsSupport_94 : decode cX9_addsSupport 94 = .ok (.bipush 6, 2) := by decide +kernel
theorem dX9_addsSupport_96 : decode cX9_addsSupport 96 = .ok (.iconst 2, 1) := by decide +kernel
theorem dX9_addsSupport_97 : decode cX9_addsSupport 97 = .ok (.iload_n 3, 1) := by decide +kernel
theorem dX9_addsSupport_98 : decode cX9_addsSupport 98 = .ok (.imul, 1) := by decide +kernel
theorem dX9_addsSupport_99 : decode cX9_addsSupport 99 = .ok (.iadd, 1) := by decide +kernel
theorem dX9_addsSupport_100 : decode cX9_addsSupport 100 = .ok (.iconst 1, 1) := by decide +kernel
theorem dX9_addsSupport_101 : decode cX9_addsSupport 101 = .ok (.iadd, 1) := by decide +kernel
theorem dX9_addsSupport_102 : decode cX9_addsSupport 102 = .ok (.iload_n 2, 1) := by decide +kernel
theorem dX9_addsSupport_103 : decode cX9_addsSupport 103 = .ok (.iastore, 1) := by decide +kernel
theorem dX9_addsSupport_104 : decode cX9_addsSupport 104 = .ok (.aload_n 0, 1) := by decide +kernel
theorem dX9_addsSupport_105 : decode cX9_addsSupport 105 = .ok (.getfield 7, 3) := by decide +kernel
theorem dX9_addsSupport_108 : decode cX9_addsSupport 108 = .ok (.iconst 2, 1) := by decide +kernel
theorem dX9_addsSupport_109 : decode cX9_addsSupport 109 = .ok (.dup2, 1) := by decide +kernel
theorem dX9_addsSupport_110 : decode cX9_addsSupport 110 = .ok (.iaload, 1) := by decide +kernel
theorem dX9_addsSupport_111 : decode cX9_addsSupport 111 = .ok (.iconst 1, 1) := by decide +kernel
theorem dX9_addsSupport_112 : decode cX9_addsSupport 112 = .ok (.iadd, 1) := by decide +kernel
theorem dX9_addsSupport_113 : decode cX9_addsSupport 113 = .ok (.iastore, 1) := by decide +kernel
theorem dX9_addsSupport_114 : decode cX9_addsSupport 114 = .ok (.return_, 1) := by decide +kernel
theorem dX9_dropsSupport_0 : decode cX9_dropsSupport 0 = .ok (.aload_n 0, 1) := by decide +kernel
theorem dX9_dropsSupport_1 : decode cX9_dropsSupport 1 = .ok (.getfield 7, 3) := by decide +kernel
theorem dX9_dropsSupport_4 : decode cX9_dropsSupport 4 = .ok (.iconst 2, 1) := by decide +kernel
theorem dX9_dropsSupport_5 : decode cX9_dropsSupport 5 = .ok (.dup2, 1) := by decide +kernel
theorem dX9_dropsSupport_6 : decode cX9_dropsSupport 6 = .ok (.iaload, 1) := by decide +kernel
theorem dX9_dropsSupport_7 : decode cX9_dropsSupport 7 = .ok (.iconst 1, 1) := by decide +kernel
theorem dX9_dropsSupport_8 : decode cX9_dropsSupport 8 = .ok (.isub, 1) := by decide +kernel
theorem dX9_dropsSupport_9 : decode cX9_dropsSupport 9 = .ok (.iastore, 1) := by decide +kernel
theorem dX9_dropsSupport_10 : decode cX9_dropsSupport 10 = .ok (.bipush 6, 2) := by decide +kernel
theorem dX9_dropsSupport_12 : decode cX9_dropsSupport 12 = .ok (.iconst 2, 1) := by decide +kernel
theorem dX9_dropsSupport_13 : decode cX9_dropsSupport 13 = .ok (.iload_n 1, 1) := by decide +kernel
theorem dX9_dropsSupport_14 : decode cX9_dropsSupport 14 = .ok (.imul, 1) := by decide +kernel
theorem dX9_dropsSupport_15 : decode cX9_dropsSupport 15 = .ok (.iadd, 1) := by decide +kernel
theorem dX9_dropsSupport_16 : decode cX9_dropsSupport 16 = .ok (.istore_n 2, 1) := by decide +kernel
theorem dX9_dropsSupport_17 : decode cX9_dropsSupport 17 = .ok (.iload_n 2, 1) := by decide +kernel
theorem dX9_dropsSupport_18 : decode cX9_dropsSupport 18 = .ok (.bipush 6, 2) := by decide +kernel
theorem dX9_dropsSupport_20 : decode cX9_dropsSupport 20 = .ok (.iconst 2, 1) := by decide +kernel
theorem dX9_dropsSupport_21 : decode cX9_dropsSupport 21 = .ok (.aload_n 0, 1) := by decide +kernel
theorem dX9_dropsSupport_22 : decode cX9_dropsSupport 22 = .ok (.getfield 7, 3) := by decide +kernel
theorem dX9_dropsSupport_25 : decode cX9_dropsSupport 25 = .ok (.iconst 2, 1) := by decide +kernel
theorem dX9_dropsSupport_26 : decode cX9_dropsSupport 26 = .ok (.iaload, 1) := by decide +kernel
theorem dX9_dropsSupport_27 : decode cX9_dropsSupport 27 = .ok (.imul, 1) := by decide +kernel
theorem dX9_dropsSupport_28 : decode cX9_dropsSupport 28 = .ok (.iadd, 1) := by decide +kernel
theorem dX9_dropsSupport_29 : decode cX9_dropsSupport 29 = .ok (.if_icmp .ge 23, 3) := by decide +kernel
theorem dX9_dropsSupport_32 : decode cX9_dropsSupport 32 = .ok (.aload_n 0, 1) := by decide +kernel
theorem dX9_dropsSupport_33 : decode cX9_dropsSupport 33 = .ok (.getfield 7, 3) := by decide +kernel
theorem dX9_dropsSupport_36 : decode cX9_dropsSupport 36 = .ok (.iload_n 2, 1) := by decide +kernel
theorem dX9_dropsSupport_37 : decode cX9_dropsSupport 37 = .ok (.aload_n 0, 1) := by decide +kernel
theorem dX9_dropsSupport_38 : decode cX9_dropsSupport 38 = .ok (.getfield 7, 3) := by decide +kernel
theorem dX9_dropsSupport_41 : decode cX9_dropsSupport 41 = .ok (.iload_n 2, 1) := by decide +kernel
theorem dX9_dropsSupport_42 : decode cX9_dropsSupport 42 = .ok (.iconst 2, 1) := by decide +kernel
theorem dX9_dropsSupport_43 : decode cX9_dropsSupport 43 = .ok (.iadd, 1) := by decide +kernel
theorem dX9_dropsSupport_44 : decode cX9_dropsSupport 44 = .ok (.iaload, 1) := by decide +kernel
theorem dX9_dropsSupport_45 : decode cX9_dropsSupport 45 = .ok (.iastore, 1) := by decide +kernel
theorem dX9_dropsSupport_46 : decode cX9_dropsSupport 46 = .ok (.iinc 2 1, 3) := by decide +kernel
theorem dX9_dropsSupport_49 : decode cX9_dropsSupport 49 = .ok (.goto (-32), 3) := by decide +kernel
theorem dX9_dropsSupport_52 : decode cX9_dropsSupport 52 = .ok (.return_, 1) := by decide +kernel
theorem dX9_addsHinge_0 : decode cX9_addsHinge 0 = .ok (.aload_n 0, 1) := by decide +kernel
theorem dX9_addsHinge_1 : decode cX9_addsHinge 1 = .ok (.getfield 7, 3) := by decide +kernel
theorem dX9_addsHinge_4 : decode cX9_addsHinge 4 = .ok (.iconst 3, 1) := by decide +kernel
theorem dX9_addsHinge_5 : decode cX9_addsHinge 5 = .ok (.iaload, 1) := by decide +kernel
theorem dX9_addsHinge_6 : decode cX9_addsHinge 6 = .ok (.istore_n 2, 1) := by decide +kernel
theorem dX9_addsHinge_7 : decode cX9_addsHinge 7 = .ok (.iload_n 2, 1) := by decide +kernel
theorem dX9_addsHinge_8 : decode cX9_addsHinge 8 = .ok (.ifCond .le 44, 3) := by decide +kernel
theorem dX9_addsHinge_11 : decode cX9_addsHinge 11 = .ok (.aload_n 0, 1) := by decide +kernel
theorem dX9_addsHinge_12 : decode cX9_addsHinge 12 = .ok (.getfield 7, 3) := by decide +kernel
theorem dX9_addsHinge_15 : decode cX9_addsHinge 15 = .ok (.bipush 16, 2) := by decide +kernel
theorem dX9_addsHinge_17 : decode cX9_addsHinge 17 = .ok (.iload_n 2, 1) := by decide +kernel
theorem dX9_addsHinge_18 : decode cX9_addsHinge 18 = .ok (.iadd, 1) := by decide +kernel
theorem dX9_addsHinge_19 : decode cX9_addsHinge 19 = .ok (.iconst 1, 1) := by decide +kernel
theorem dX9_addsHinge_20 : decode cX9_addsHinge 20 = .ok (.isub, 1) := by decide +kernel
theorem dX9_addsHinge_21 : decode cX9_addsHinge 21 = .ok (.iaload, 1) := by decide +kernel
theorem dX9_addsHinge_22 : decode cX9_addsHinge 22 = .ok (.iload_n 1, 1) := by decide +kernel
theorem dX9_addsHinge_23 : decode cX9_addsHinge 23 = .ok (.if_icmp .le 29, 3) := by decide +kernel
theorem dX9_addsHinge_26 : decode cX9_addsHinge 26 = .ok (.aload_n 0, 1) := by decide +kernel
theorem dX9_addsHinge_27 : decode cX9_addsHinge 27 = .ok (.getfield 7, 3) := by decide +kernel
theorem dX9_addsHinge_30 : decode cX9_addsHinge 30 = .ok (.bipush 16, 2) := by decide +kernel
theorem dX9_addsHinge_32 : decode cX9_addsHinge 32 = .ok (.iload_n 2, 1) := by decide +kernel
theorem dX9_addsHinge_33 : decode cX9_addsHinge 33 = .ok (.iadd, 1) := by decide +kernel
theorem dX9_addsHinge_34 : decode cX9_addsHinge 34 = .ok (.aload_n 0, 1) := by decide +kernel
theorem dX9_addsHinge_35 : decode cX9_addsHinge 35 = .ok (.getfield 7, 3) := by decide +kernel
theorem dX9_addsHinge_38 : decode cX9_addsHinge 38 = .ok (.bipush 16, 2) := by decide +kernel
theorem dX9_addsHinge_40 : decode cX9_addsHinge 40 = .ok (.iload_n 2, 1) := by decide +kernel
theorem dX9_addsHinge_41 : decode cX9_addsHinge 41 = .ok (.iadd, 1) := by decide +kernel
theorem dX9_addsHinge_42 : decode cX9_addsHinge 42 = .ok (.iconst 1, 1) := by decide +kernel
theorem dX9_addsHinge_43 : decode cX9_addsHinge 43 = .ok (.isub, 1) := by decide +kernel
theorem dX9_addsHinge_44 : decode cX9_addsHinge 44 = .ok (.iaload, 1) := by decide +kernel
theorem dX9_addsHinge_45 : decode cX9_addsHinge 45 = .ok (.iastore, 1) := by decide +kernel
theorem dX9_addsHinge_46 : decode cX9_addsHinge 46 = .ok (.iinc 2 (-1), 3) := by decide +kernel
theorem dX9_addsHinge_49 : decode cX9_addsHinge 49 = .ok (.goto (-42), 3) := by decide +kernel
theorem dX9_addsHinge_52 : decode cX9_addsHinge 52 = .ok (.aload_n 0, 1) := by decide +kernel
theorem dX9_addsHinge_53 : decode cX9_addsHinge 53 = .ok (.getfield 7, 3) := by decide +kernel
theorem dX9_addsHinge_56 : decode cX9_addsHinge 56 = .ok (.bipush 16, 2) := by decide +kernel
theorem dX9_addsHinge_58 : decode cX9_addsHinge 58 = .ok (.iload_n 2, 1) := by decide +kernel
theorem dX9_addsHinge_59 : decode cX9_addsHinge 59 = .ok (.iadd, 1) := by decide +kernel
theorem dX9_addsHinge_60 : decode cX9_addsHinge 60 = .ok (.iload_n 1, 1) := by decide +kernel
theorem dX9_addsHinge_61 : decode cX9_addsHinge 61 = .ok (.iastore, 1) := by decide +kernel
theorem dX9_addsHinge_62 : decode cX9_addsHinge 62 = .ok (.aload_n 0, 1) := by decide +kernel
theorem dX9_addsHinge_63 : decode cX9_addsHinge 63 = .ok (.getfield 7, 3) := by decide +kernel
theorem dX9_addsHinge_66 : decode cX9_addsHinge 66 = .ok (.iconst 3, 1) := by decide +kernel
theorem dX9_addsHinge_67 : decode cX9_addsHinge 67 = .ok (.dup2, 1) := by decide +kernel
theorem dX9_addsHinge_68 : decode cX9_addsHinge 68 = .ok (.iaload, 1) := by decide +kernel
theorem dX9_addsHinge_69 : decode cX9_addsHinge 69 = .ok (.iconst 1, 1) := by decide +kernel
theorem dX9_addsHinge_70 : decode cX9_addsHinge 70 = .ok (.iadd, 1) := by decide +kernel
theorem dX9_addsHinge_71 : decode cX9_addsHinge 71 = .ok (.iastore, 1) := by decide +kernel
theorem dX9_addsHinge_72 : decode cX9_addsHinge 72 = .ok (.return_, 1) := by decide +kernel
theorem dX9_dropsHinge_0 : decode cX9_dropsHinge 0 = .ok (.aload_n 0, 1) := by decide +kernel
theorem dX9_dropsHinge_1 : decode cX9_dropsHinge 1 = .ok (.getfield 7, 3) := by decide +kernel
theorem dX9_dropsHinge_4 : decode cX9_dropsHinge 4 = .ok (.iconst 3, 1) := by decide +kernel
theorem dX9_dropsHinge_5 : decode cX9_dropsHinge 5 = .ok (.dup2, 1) := by decide +kernel
theorem dX9_dropsHinge_6 : decode cX9_dropsHinge 6 = .ok (.iaload, 1) := by decide +kernel
theorem dX9_dropsHinge_7 : decode cX9_dropsHinge 7 = .ok (.iconst 1, 1) := by decide +kernel
theorem dX9_dropsHinge_8 : decode cX9_dropsHinge 8 = .ok (.isub, 1) := by decide +kernel
theorem dX9_dropsHinge_9 : decode cX9_dropsHinge 9 = .ok (.iastore, 1) := by decide +kernel
theorem dX9_dropsHinge_10 : decode cX9_dropsHinge 10 = .ok (.iload_n 1, 1) := by decide +kernel
theorem dX9_dropsHinge_11 : decode cX9_dropsHinge 11 = .ok (.istore_n 2, 1) := by decide +kernel
theorem dX9_dropsHinge_12 : decode cX9_dropsHinge 12 = .ok (.iload_n 2, 1) := by decide +kernel
theorem dX9_dropsHinge_13 : decode cX9_dropsHinge 13 = .ok (.aload_n 0, 1) := by decide +kernel
theorem dX9_dropsHinge_14 : decode cX9_dropsHinge 14 = .ok (.getfield 7, 3) := by decide +kernel
theorem dX9_dropsHinge_17 : decode cX9_dropsHinge 17 = .ok (.iconst 3, 1) := by decide +kernel
theorem dX9_dropsHinge_18 : decode cX9_dropsHinge 18 = .ok (.iaload, 1) := by decide +kernel
theorem dX9_dropsHinge_19 : decode cX9_dropsHinge 19 = .ok (.if_icmp .ge 29, 3) := by decide +kernel
theorem dX9_dropsHinge_22 : decode cX9_dropsHinge 22 = .ok (.aload_n 0, 1) := by decide +kernel
theorem dX9_dropsHinge_23 : decode cX9_dropsHinge 23 = .ok (.getfield 7, 3) := by decide +kernel
theorem dX9_dropsHinge_26 : decode cX9_dropsHinge 26 = .ok (.bipush 16, 2) := by decide +kernel
theorem dX9_dropsHinge_28 : decode cX9_dropsHinge 28 = .ok (.iload_n 2, 1) := by decide +kernel
theorem dX9_dropsHinge_29 : decode cX9_dropsHinge 29 = .ok (.iadd, 1) := by decide +kernel
theorem dX9_dropsHinge_30 : decode cX9_dropsHinge 30 = .ok (.aload_n 0, 1) := by decide +kernel
theorem dX9_dropsHinge_31 : decode cX9_dropsHinge 31 = .ok (.getfield 7, 3) := by decide +kernel
theorem dX9_dropsHinge_34 : decode cX9_dropsHinge 34 = .ok (.bipush 16, 2) := by decide +kernel
theorem dX9_dropsHinge_36 : decode cX9_dropsHinge 36 = .ok (.iload_n 2, 1) := by decide +kernel
theorem dX9_dropsHinge_37 : decode cX9_dropsHinge 37 = .ok (.iadd, 1) := by decide +kernel
theorem dX9_dropsHinge_38 : decode cX9_dropsHinge 38 = .ok (.iconst 1, 1) := by decide +kernel
theorem dX9_dropsHinge_39 : decode cX9_dropsHinge 39 = .ok (.iadd, 1) := by decide +kernel
theorem dX9_dropsHinge_40 : decode cX9_dropsHinge 40 = .ok (.iaload, 1) := by decide +kernel
theorem dX9_dropsHinge_41 : decode cX9_dropsHinge 41 = .ok (.iastore, 1) := by decide +kernel
theorem dX9_dropsHinge_42 : decode cX9_dropsHinge 42 = .ok (.iinc 2 1, 3) := by decide +kernel
theorem dX9_dropsHinge_45 : decode cX9_dropsHinge 45 = .ok (.goto (-33), 3) := by decide +kernel
theorem dX9_dropsHinge_48 : decode cX9_dropsHinge 48 = .ok (.return_, 1) := by decide +kernel
theorem dX9_changes_0 : decode cX9_changes 0 = .ok (.iconst 0, 1) := by decide +kernel
theorem dX9_changes_1 : decode cX9_changes 1 = .ok (.istore 4, 2) := by decide +kernel
theorem dX9_changes_3 : decode cX9_changes 3 = .ok (.iload 4, 2) := by decide +kernel
theorem dX9_changes_5 : decode cX9_changes 5 = .ok (.iload_n 3, 1) := by decide +kernel
theorem dX9_changes_6 : decode cX9_changes 6 = .ok (.if_icmp .ge 57, 3) := by decide +kernel
theorem dX9_changes_9 : decode cX9_changes 9 = .ok (.aload_n 0, 1) := by decide +kernel
theorem dX9_changes_10 : decode cX9_changes 10 = .ok (.getfield 33, 3) := by decide +kernel
theorem dX9_changes_13 : decode cX9_changes 13 = .ok (.iload_n 3, 1) := by decide +kernel
theorem dX9_changes_14 : decode cX9_changes 14 = .ok (.iload_n 1, 1) := by decide +kernel
theorem dX9_changes_15 : decode cX9_changes 15 = .ok (.imul, 1) := by decide +kernel
theorem dX9_changes_16 : decode cX9_changes 16 = .ok (.iload 4, 2) := by decide +kernel
theorem dX9_changes_18 : decode cX9_changes 18 = .ok (.iadd, 1) := by decide +kernel
theorem dX9_changes_19 : decode cX9_changes 19 = .ok (.laload, 1) := by decide +kernel
theorem dX9_changes_20 : decode cX9_changes 20 = .ok (.lstore 5, 2) := by decide +kernel
theorem dX9_changes_22 : decode cX9_changes 22 = .ok (.aload_n 0, 1) := by decide +kernel
theorem dX9_changes_23 : decode cX9_changes 23 = .ok (.getfield 33, 3) := by decide +kernel
theorem dX9_changes_26 : decode cX9_changes 26 = .ok (.iload_n 3, 1) := by decide +kernel
theorem dX9_changes_27 : decode cX9_changes 27 = .ok (.iload_n 1, 1) := by decide +kernel
theorem dX9_changes_28 : decode cX9_changes 28 = .ok (.imul, 1) := by decide +kernel
theorem dX9_changes_29 : decode cX9_changes 29 = .ok (.iload 4, 2) := by decide +kernel
theorem dX9_changes_31 : decode cX9_changes 31 = .ok (.iadd, 1) := by decide +kernel
theorem dX9_changes_32 : decode cX9_changes 32 = .ok (.aload_n 0, 1) := by decide +kernel
theorem dX9_changes_33 : decode cX9_changes 33 = .ok (.getfield 33, 3) := by decide +kernel
theorem dX9_changes_36 : decode cX9_changes 36 = .ok (.iload_n 3, 1) := by decide +kernel
theorem dX9_changes_37 : decode cX9_changes 37 = .ok (.iload_n 2, 1) := by decide +kernel
theorem dX9_changes_38 : decode cX9_changes 38 = .ok (.imul, 1) := by decide +kernel
theorem dX9_changes_39 : decode cX9_changes 39 = .ok (.iload 4, 2) := by decide +kernel
theorem dX9_changes_41 : decode cX9_changes 41 = .ok (.iadd, 1) := by decide +kernel
theorem dX9_changes_42 : decode cX9_changes 42 = .ok (.laload, 1) := by decide +kernel
theorem dX9_changes_43 : decode cX9_changes 43 = .ok (.lastore, 1) := by decide +kernel
theorem dX9_changes_44 : decode cX9_changes 44 = .ok (.aload_n 0, 1) := by decide +kernel
theorem dX9_changes_45 : decode cX9_changes 45 = .ok (.getfield 33, 3) := by decide +kernel
theorem dX9_changes_48 : decode cX9_changes 48 = .ok (.iload_n 3, 1) := by decide +kernel
theorem dX9_changes_49 : decode cX9_changes 49 = .ok (.iload_n 2, 1) := by decide +kernel
theorem dX9_changes_50 : decode cX9_changes 50 = .ok (.imul, 1) := by decide +kernel
theorem dX9_changes_51 : decode cX9_changes 51 = .ok (.iload 4, 2) := by decide +kernel
theorem dX9_changes_53 : decode cX9_changes 53 = .ok (.iadd, 1) := by decide +kernel
theorem dX9_changes_54 : decode cX9_changes 54 = .ok (.lload 5, 2) := by decide +kernel
theorem dX9_changes_56 : decode cX9_changes 56 = .ok (.lastore, 1) := by decide +kernel
theorem dX9_changes_57 : decode cX9_changes 57 = .ok (.iinc 4 1, 3) := by decide +kernel
theorem dX9_changes_60 : decode cX9_changes 60 = .ok (.goto (-57), 3) := by decide +kernel
theorem dX9_changes_63 : decode cX9_changes 63 = .ok (.return_, 1) := by decide +kernel
theorem dX9_pivotOf_0 : decode cX9_pivotOf 0 = .ok (.iload_n 1, 1) := by decide +kernel
theorem dX9_pivotOf_1 : decode cX9_pivotOf 1 = .ok (.istore_n 3, 1) := by decide +kernel
theorem dX9_pivotOf_2 : decode cX9_pivotOf 2 = .ok (.iload_n 3, 1) := by decide +kernel
theorem dX9_pivotOf_3 : decode cX9_pivotOf 3 = .ok (.iload_n 2, 1) := by decide +kernel
theorem dX9_pivotOf_4 : decode cX9_pivotOf 4 = .ok (.if_icmp .ge 21, 3) := by decide +kernel
theorem dX9_pivotOf_7 : decode cX9_pivotOf 7 = .ok (.aload_n 0, 1) := by decide +kernel
theorem dX9_pivotOf_8 : decode cX9_pivotOf 8 = .ok (.iload_n 2, 1) := by decide +kernel
theorem dX9_pivotOf_9 : decode cX9_pivotOf 9 = .ok (.iload_n 3, 1) := by decide +kernel
theorem dX9_pivotOf_10 : decode cX9_pivotOf 10 = .ok (.imul, 1) := by decide +kernel
theorem dX9_pivotOf_11 : decode cX9_pivotOf 11 = .ok (.iload_n 1, 1) := by decide +kernel
theorem dX9_pivotOf_12 : decode cX9_pivotOf 12 = .ok (.iadd, 1) := by decide +kernel
theorem dX9_pivotOf_13 : decode cX9_pivotOf 13 = .ok (.laload, 1) := by decide +kernel
theorem dX9_pivotOf_14 : decode cX9_pivotOf 14 = .ok (.lconst 0, 1) := by decide +kernel
theorem dX9_pivotOf_15 : decode cX9_pivotOf 15 = .ok (.lcmp, 1) := by decide +kernel
theorem dX9_pivotOf_16 : decode cX9_pivotOf 16 = .ok (.ifCond .ne 9, 3) := by decide +kernel
theorem dX9_pivotOf_19 : decode cX9_pivotOf 19 = .ok (.iinc 3 1, 3) := by decide +kernel
theorem dX9_pivotOf_22 : decode cX9_pivotOf 22 = .ok (.goto (-20), 3) := by decide +kernel
theorem dX9_pivotOf_25 : decode cX9_pivotOf 25 = .ok (.iload_n 3, 1) := by decide +kernel
theorem dX9_pivotOf_26 : decode cX9_pivotOf 26 = .ok (.ireturn, 1) := by decide +kernel
set_option maxRecDepth 20000 in
theorem ggX9_determinant_X9_pivotOf : GoodIn wsX9_determinant wsX9_pivotOf := goodIn_r _ [5] (by decide +kernel) (by decide +kernel)
set_option maxRecDepth 20000 in
theorem gX9_determinant_X9_pivotOf : GoodIn wsX9_determinant (va_wsS RX9 198 yX9_pivotOf wsX9_pivotOf) := goodIn_app (goodIn_of _ (by decide +kernel)) ggX9_determinant_X9_pivotOf
set_option maxRecDepth 20000 in
theorem ggX9_determinant_X9_changes : GoodIn wsX9_determinant wsX9_changes := goodIn_r _ [9, 1, 10, 11, 12, 13, 14, 15, 16, 17, 18, 19, 20, 21, 22, 23, 24, 25, 26, 27, 28, 29, 30, 31] (by decide +kernel) (by decide +kernel)
set_option maxRecDepth 20000 in
theorem gX9_determinant_X9_changes : GoodIn wsX9_determinant (wsV RX9 202 RX9 yX9_changes wsX9_changes) := goodIn_app (goodIn_of _ (by decide +kernel)) ggX9_determinant_X9_changes
theorem dX9_determinant_0 : decode cX9_determinant 0 = .ok (.lconst 1, 1) := by decide +kernel
theorem dX9_determinant_1 : decode cX9_determinant 1 = .ok (.lstore_n 2, 1) := by decide +kernel
theorem dX9_determinant_2 : decode cX9_determinant 2 = .ok (.lconst 1, 1) := by decide +kernel
theorem dX9_determinant_3 : decode cX9_determinant 3 = .ok (.lstore 4, 2) := by decide +kernel
theorem dX9_determinant_5 : decode cX9_determinant 5 = .ok (.iconst 0, 1) := by decide +kernel
theorem dX9_determinant_6 : decode cX9_determinant 6 = .ok (.istore 6, 2) := by decide +kernel
theorem dX9_determinant_8 : decode cX9_determinant 8 = .ok (.iload 6, 2) := by decide +kernel
theorem dX9_determinant_10 : decode cX9_determinant 10 = .ok (.iload_n 1, 1) := by decide +kernel
theorem dX9_determinant_11 : decode cX9_determinant 11 = .ok (.iconst 1, 1) := by decide +kernel
theorem dX9_determinant_12 : decode cX9_determinant 12 = .ok (.isub, 1) := by decide +kernel
theorem dX9_determinant_13 : decode cX9_determinant 13 = .ok (.if_icmp .ge 164, 3) := by decide +kernel
theorem dX9_determinant_16 : decode cX9_determinant 16 = .ok (.aload_n 0, 1) := by decide +kernel
theorem dX9_determinant_17 : decode cX9_determinant 17 = .ok (.getfield 33, 3) := by decide +kernel
theorem dX9_determinant_20 : decode cX9_determinant 20 = .ok (.iload 6, 2) := by decide +kernel
theorem dX9_determinant_22 : decode cX9_determinant 22 = .ok (.iload_n 1, 1) := by decide +kernel
theorem dX9_determinant_23 : decode cX9_determinant 23 = .ok (.invokestatic 198, 3) := by decide +kernel
theorem dX9_determinant_26 : decode cX9_determinant 26 = .ok (.istore 7, 2) := by decide +kernel
theorem dX9_determinant_28 : decode cX9_determinant 28 = .ok (.iload 7, 2) := by decide +kernel
theorem dX9_determinant_30 : decode cX9_determinant 30 = .ok (.iload_n 1, 1) := by decide +kernel
theorem dX9_determinant_31 : decode cX9_determinant 31 = .ok (.if_icmp .ne 5, 3) := by decide +kernel
theorem dX9_determinant_34 : decode cX9_determinant 34 = .ok (.lconst 0, 1) := by decide +kernel
theorem dX9_determinant_35 : decode cX9_determinant 35 = .ok (.lreturn, 1) := by decide +kernel
theorem dX9_determinant_36 : decode cX9_determinant 36 = .ok (.iload 7, 2) := by decide +kernel
theorem dX9_determinant_38 : decode cX9_determinant 38 = .ok (.iload 6, 2) := by decide +kernel
theorem dX9_determinant_40 : decode cX9_determinant 40 = .ok (.if_icmp .eq 6, 3) := by decide +kernel
theorem dX9_determinant_43 : decode cX9_determinant 43 = .ok (.lload_n 2, 1) := by decide +kernel
theorem dX9_determinant_44 : decode cX9_determinant 44 = .ok (.lneg, 1) := by decide +kernel
theorem dX9_determinant_45 : decode cX9_determinant 45 = .ok (.lstore_n 2, 1) := by decide +kernel
theorem dX9_determinant_46 : decode cX9_determinant 46 = .ok (.aload_n 0, 1) := by decide +kernel
theorem dX9_determinant_47 : decode cX9_determinant 47 = .ok (.iload 6, 2) := by decide +kernel
theorem dX9_determinant_49 : decode cX9_determinant 49 = .ok (.iload 7, 2) := by decide +kernel
theorem dX9_determinant_51 : decode cX9_determinant 51 = .ok (.iload_n 1, 1) := by decide +kernel
theorem dX9_determinant_52 : decode cX9_determinant 52 = .ok (.invokevirtual 202, 3) := by decide +kernel
theorem dX9_determinant_55 : decode cX9_determinant 55 = .ok (.iload 6, 2) := by decide +kernel
theorem dX9_determinant_57 : decode cX9_determinant 57 = .ok (.iconst 1, 1) := by decide +kernel
theorem dX9_determinant_58 : decode cX9_determinant 58 = .ok (.iadd, 1) := by decide +kernel
theorem dX9_determinant_59 : decode cX9_determinant 59 = .ok (.istore 8, 2) := by decide +kernel
theorem dX9_determinant_61 : decode cX9_determinant 61 = .ok (.iload 8, 2) := by decide +kernel
theorem dX9_determinant_63 : decode cX9_determinant 63 = .ok (.iload_n 1, 1) := by decide +kernel
theorem dX9_determinant_64 : decode cX9_determinant 64 = .ok (.if_icmp .ge 93, 3) := by decide +kernel
theorem dX9_determinant_67 : decode cX9_determinant 67 = .ok (.iload 6, 2) := by decide +kernel
theorem dX9_determinant_69 : decode cX9_determinant 69 = .ok (.iconst 1, 1) := by decide +kernel
theorem dX9_determinant_70 : decode cX9_determinant 70 = .ok (.iadd, 1) := by decide +kernel
theorem dX9_determinant_71 : decode cX9_determinant 71 = .ok (.istore 9, 2) := by decide +kernel
theorem dX9_determinant_73 : decode cX9_determinant 73 = .ok (.iload 9, 2) := by decide +kernel
theorem dX9_determinant_75 : decode cX9_determinant 75 = .ok (.iload_n 1, 1) := by decide +kernel
theorem dX9_determinant_76 : decode cX9_determinant 76 = .ok (.if_icmp .ge 75, 3) := by decide +kernel
theorem dX9_determinant_79 : decode cX9_determinant 79 = .ok (.aload_n 0, 1) := by decide +kernel
theorem dX9_determinant_80 : decode cX9_determinant 80 = .ok (.getfield 33, 3) := by decide +kernel
theorem dX9_determinant_83 : decode cX9_determinant 83 = .ok (.iload_n 1, 1) := by decide +kernel
theorem dX9_determinant_84 : decode cX9_determinant 84 = .ok (.iload 8, 2) := by decide +kernel
theorem dX9_determinant_86 : decode cX9_determinant 86 = .ok (.imul, 1) := by decide +kernel
theorem dX9_determinant_87 : decode cX9_determinant 87 = .ok (.iload 9, 2) := by decide +kernel
theorem dX9_determinant_89 : decode cX9_determinant 89 = .ok (.iadd, 1) := by decide +kernel
theorem dX9_determinant_90 : decode cX9_determinant 90 = .ok (.aload_n 0, 1) := by decide +kernel
theorem dX9_determinant_91 : decode cX9_determinant 91 = .ok (.getfield 33, 3) := by decide +kernel
theorem dX9_determinant_94 : decode cX9_determinant 94 = .ok (.iload_n 1, 1) := by decide +kernel
theorem dX9_determinant_95 : decode cX9_determinant 95 = .ok (.iload 8, 2) := by decide +kernel
theorem dX9_determinant_97 : decode cX9_determinant 97 = .ok (.imul, 1) := by decide +kernel
theorem dX9_determinant_98 : decode cX9_determinant 98 = .ok (.iload 9, 2) := by decide +kernel
theorem dX9_determinant_100 : decode cX9_determinant 100 = .ok (.iadd, 1) := by decide +kernel
theorem dX9_determinant_101 : decode cX9_determinant 101 = .ok (.laload, 1) := by decide +kernel
theorem dX9_determinant_102 : decode cX9_determinant 102 = .ok (.aload_n 0, 1) := by decide +kernel
theorem dX9_determinant_103 : decode cX9_determinant 103 = .ok (.getfield 33, 3) := by decide +kernel
theorem dX9_determinant_106 : decode cX9_determinant 106 = .ok (.iload_n 1, 1) := by decide +kernel
theorem dX9_determinant_107 : decode cX9_determinant 107 = .ok (.iload 6, 2) := by decide +kernel
theorem dX9_determinant_109 : decode cX9_determinant 109 = .ok (.imul, 1) := by decide +kernel
theorem dX9_determinant_110 : decode cX9_determinant 110 = .ok (.iload 6, 2) := by decide +kernel
theorem dX9_determinant_112 : decode cX9_determinant 112 = .ok (.iadd, 1) := by decide +kernel
theorem dX9_determinant_113 : decode cX9_determinant 113 = .ok (.laload, 1) := by decide +kernel
theorem dX9_determinant_114 : decode cX9_determinant 114 = .ok (.lmul, 1) := by decide +kernel
theorem dX9_determinant_115 : decode cX9_determinant 115 = .ok (.aload_n 0, 1) := by decide +kernel
theorem dX9_determinant_116 : decode cX9_determinant 116 = .ok (.getfield 33, 3) := by decide +kernel
theorem dX9_determinant_119 : decode cX9_determinant 119 = .ok (.iload_n 1, 1) := by decide +kernel
theorem dX9_determinant_120 : decode cX9_determinant 120 = .ok (.iload 8, 2) := by decide +kernel
theorem dX9_determinant_122 : decode cX9_determinant 122 = .ok (.imul, 1) := by decide +kernel
theorem dX9_determinant_123 : decode cX9_determinant 123 = .ok (.iload 6, 2) := by decide +kernel
theorem dX9_determinant_125 : decode cX9_determinant 125 = .ok (.iadd, 1) := by decide +kernel
theorem dX9_determinant_126 : decode cX9_determinant 126 = .ok (.laload, 1) := by decide +kernel
theorem dX9_determinant_127 : decode cX9_determinant 127 = .ok (.aload_n 0, 1) := by decide +kernel
theorem dX9_determinant_128 : decode cX9_determinant 128 = .ok (.getfield 33, 3) := by decide +kernel
theorem dX9_determinant_131 : decode cX9_determinant 131 = .ok (.iload_n 1, 1) := by decide +kernel
theorem dX9_determinant_132 : decode cX9_determinant 132 = .ok (.iload 6, 2) := by decide +kernel
theorem dX9_determinant_134 : decode cX9_determinant 134 = .ok (.imul, 1) := by decide +kernel
theorem dX9_determinant_135 : decode cX9_determinant 135 = .ok (.iload 9, 2) := by decide +kernel
theorem dX9_determinant_137 : decode cX9_determinant 137 = .ok (.iadd, 1) := by decide +kernel
theorem dX9_determinant_138 : decode cX9_determinant 138 = .ok (.laload, 1) := by decide +kernel
theorem dX9_determinant_139 : decode cX9_determinant 139 = .ok (.lmul, 1) := by decide +kernel
theorem dX9_determinant_140 : decode cX9_determinant 140 = .ok (.lsub, 1) := by decide +kernel
theorem dX9_determinant_141 : decode cX9_determinant 141 = .ok (.lload 4, 2) := by decide +kernel
theorem dX9_determinant_143 : decode cX9_determinant 143 = .ok (.ldiv, 1) := by decide +kernel
theorem dX9_determinant_144 : decode cX9_determinant 144 = .ok (.lastore, 1) := by decide +kernel
theorem dX9_determinant_145 : decode cX9_determinant 145 = .ok (.iinc 9 1, 3) := by decide +kernel
theorem dX9_determinant_148 : decode cX9_determinant 148 = .ok (.goto (-75), 3) := by decide +kernel
theorem dX9_determinant_151 : decode cX9_determinant 151 = .ok (.iinc 8 1, 3) := by decide +kernel
theorem dX9_determinant_154 : decode cX9_determinant 154 = .ok (.goto (-93), 3) := by decide +kernel
theorem dX9_determinant_157 : decode cX9_determinant 157 = .ok (.aload_n 0, 1) := by decide +kernel
theorem dX9_determinant_158 : decode cX9_determinant 158 = .ok (.getfield 33, 3) := by decide +kernel
theorem dX9_determinant_161 : decode cX9_determinant 161 = .ok (.iload_n 1, 1) := by decide +kernel
theorem dX9_determinant_162 : decode cX9_determinant 162 = .ok (.iload 6, 2) := by decide +kernel
theorem dX9_determinant_164 : decode cX9_determinant 164 = .ok (.imul, 1) := by decide +kernel
theorem dX9_determinant_165 : decode cX9_determinant 165 = .ok (.iload 6, 2) := by decide +kernel
theorem dX9_determinant_167 : decode cX9_determinant 167 = .ok (.iadd, 1) := by decide +kernel
theorem dX9_determinant_168 : decode cX9_determinant 168 = .ok (.laload, 1) := by decide +kernel
theorem dX9_determinant_169 : decode cX9_determinant 169 = .ok (.lstore 4, 2) := by decide +kernel
theorem dX9_determinant_171 : decode cX9_determinant 171 = .ok (.iinc 6 1, 3) := by decide +kernel
theorem dX9_determinant_174 : decode cX9_determinant 174 = .ok (.goto (-166), 3) := by decide +kernel
theorem dX9_determinant_177 : decode cX9_determinant 177 = .ok (.lload_n 2, 1) := by decide +kernel
theorem dX9_determinant_178 : decode cX9_determinant 178 = .ok (.aload_n 0, 1) := by decide +kernel
theorem dX9_determinant_179 : decode cX9_determinant 179 = .ok (.getfield 33, 3) := by decide +kernel
theorem dX9_determinant_182 : decode cX9_determinant 182 = .ok (.iload_n 1, 1) := by decide +kernel
theorem dX9_determinant_183 : decode cX9_determinant 183 = .ok (.iload_n 1, 1) := by decide +kernel
theorem dX9_determinant_184 : decode cX9_determinant 184 = .ok (.imul, 1) := by decide +kernel
theorem dX9_determinant_185 : decode cX9_determinant 185 = .ok (.iconst 1, 1) := by decide +kernel
theorem dX9_determinant_186 : decode cX9_determinant 186 = .ok (.isub, 1) := by decide +kernel
theorem dX9_determinant_187 : decode cX9_determinant 187 = .ok (.laload, 1) := by decide +kernel
theorem dX9_determinant_188 : decode cX9_determinant 188 = .ok (.lmul, 1) := by decide +kernel
theorem dX9_determinant_189 : decode cX9_determinant 189 = .ok (.lreturn, 1) := by decide +kernel
theorem dX9_lever_0 : decode cX9_lever 0 = .ok (.iload_n 1, 1) := by decide +kernel
theorem dX9_lever_1 : decode cX9_lever 1 = .ok (.ifCond .ne 7, 3) := by decide +kernel
theorem dX9_lever_4 : decode cX9_lever 4 = .ok (.lconst 1, 1) := by decide +kernel
theorem dX9_lever_5 : decode cX9_lever 5 = .ok (.goto 31, 3) := by decide +kernel
theorem dX9_lever_8 : decode cX9_lever 8 = .ok (.iload_n 1, 1) := by decide +kernel
theorem dX9_lever_9 : decode cX9_lever 9 = .ok (.iconst 1, 1) := by decide +kernel
theorem dX9_lever_10 : decode cX9_lever 10 = .ok (.if_icmp .ne 8, 3) := by decide +kernel
theorem dX9_lever_13 : decode cX9_lever 13 = .ok (.iload_n 2, 1) := by decide +kernel
theorem dX9_lever_14 : decode cX9_lever 14 = .ok (.i2l, 1) := by decide +kernel
theorem dX9_lever_15 : decode cX9_lever 15 = .ok (.goto 21, 3) := by decide +kernel
theorem dX9_lever_18 : decode cX9_lever 18 = .ok (.iconst 0, 1) := by decide +kernel
theorem dX9_lever_19 : decode cX9_lever 19 = .ok (.aload_n 0, 1) := by decide +kernel
theorem dX9_lever_20 : decode cX9_lever 20 = .ok (.getfield 7, 3) := by decide +kernel
theorem dX9_lever_23 : decode cX9_lever 23 = .ok (.bipush 16, 2) := by decide +kernel
theorem dX9_lever_25 : decode cX9_lever 25 = .ok (.iload_n 1, 1) := by decide +kernel
theorem dX9_lever_26 : decode cX9_lever 26 = .ok (.iadd, 1) := by decide +kernel
theorem dX9_lever_27 : decode cX9_lever 27 = .ok (.iconst 2, 1) := by decide +kernel
theorem dX9_lever_28 : decode cX9_lever 28 = .ok (.isub, 1) := by decide +kernel
theorem dX9_lever_29 : decode cX9_lever 29 = .ok (.iaload, 1) := by decide +kernel
theorem dX9_lever_30 : decode cX9_lever 30 = .ok (.iload_n 2, 1) := by decide +kernel
theorem dX9_lever_31 : decode cX9_lever 31 = .ok (.isub, 1) := by decide +kernel
theorem dX9_lever_32 : decode cX9_lever 32 = .ok (.invokestatic 206, 3) := by decide +kernel
theorem dX9_lever_35 : decode cX9_lever 35 = .ok (.i2l, 1) := by decide +kernel
theorem dX9_lever_36 : decode cX9_lever 36 = .ok (.lreturn, 1) := by decide +kernel
set_option maxRecDepth 20000 in
theorem ggX9_reckons_X9_placeOf : GoodIn wsX9_reckons wsX9_placeOf := goodIn_r _ [7, 1, 27, 28, 29, 30, 31, 32, 33, 34, 35, 36, 37, 38, 39, 40, 41, 42, 43, 44, 45, 46, 47, 48] (by decide +kernel) (by decide +kernel)
set_option maxRecDepth 20000 in
theorem gX9_reckons_X9_placeOf : GoodIn wsX9_reckons (wsV RX9 195 RX9 yX9_placeOf wsX9_placeOf) := goodIn_app (goodIn_of _ (by decide +kernel)) ggX9_reckons_X9_placeOf
set_option maxRecDepth 20000 in
theorem ggX9_reckons_X9_lever : GoodIn wsX9_reckons wsX9_lever := goodIn_r _ [11, 1, 12, 13, 14, 15, 27, 28, 29, 30, 31, 32, 33, 34, 35, 36, 37, 38, 39, 40, 41, 42, 43, 44, 45, 46, 47, 48] (by decide +kernel) (by decide +kernel)
set_option maxRecDepth 20000 in
theorem gX9_reckons_X9_lever : GoodIn wsX9_reckons (wsV RX9 209 RX9 yX9_lever wsX9_lever) := goodIn_app (goodIn_of _ (by decide +kernel)) ggX9_reckons_X9_lever
set_option maxRecDepth 20000 in
theorem ggX9_reckons_X9_determinant : GoodIn wsX9_reckons wsX9_determinant := goodIn_r _ [19, 2, 20, 21, 6, 22, 23, 24, 25, 26, 27, 28, 29, 30, 31, 32, 33, 34, 35, 36, 37, 38, 39, 40, 41, 42, 43, 44, 45, 46, 47, 48] (by decide +kernel) (by decide +kernel)
set_option maxRecDepth 20000 in
theorem gX9_reckons_X9_determinant : GoodIn wsX9_reckons (wsV RX9 213 RX9 yX9_determinant wsX9_determinant) := goodIn_app (goodIn_of _ (by decide +kernel)) ggX9_reckons_X9_determinant
theorem dX9_reckons_0 : decode cX9_reckons 0 = .ok (.aload_n 0, 1) := by decide +kernel
theorem dX9_reckons_1 : decode cX9_reckons 1 = .ok (.getfield 7, 3) := by decide +kernel
theorem dX9_reckons_4 : decode cX9_reckons 4 = .ok (.iconst 2, 1) := by decide +kernel
theorem dX9_reckons_5 : decode cX9_reckons 5 = .ok (.iaload, 1) := by decide +kernel
theorem dX9_reckons_6 : decode cX9_reckons 6 = .ok (.istore_n 3, 1) := by decide +kernel
theorem dX9_reckons_7 : decode cX9_reckons 7 = .ok (.iconst 0, 1) := by decide +kernel
theorem dX9_reckons_8 : decode cX9_reckons 8 = .ok (.istore 4, 2) := by decide +kernel
theorem dX9_reckons_10 : decode cX9_reckons 10 = .ok (.iload 4, 2) := by decide +kernel
theorem dX9_reckons_12 : decode cX9_reckons 12 = .ok (.iload_n 3, 1) := by decide +kernel
theorem dX9_reckons_13 : decode cX9_reckons 13 = .ok (.if_icmp .ge 58, 3) := by decide +kernel
theorem dX9_reckons_16 : decode cX9_reckons 16 = .ok (.iconst 0, 1) := by decide +kernel
theorem dX9_reckons_17 : decode cX9_reckons 17 = .ok (.istore 5, 2) := by decide +kernel
theorem dX9_reckons_19 : decode cX9_reckons 19 = .ok (.iload 5, 2) := by decide +kernel
theorem dX9_reckons_21 : decode cX9_reckons 21 = .ok (.iload_n 3, 1) := by decide +kernel
theorem dX9_reckons_22 : decode cX9_reckons 22 = .ok (.if_icmp .ge 43, 3) := by decide +kernel
theorem dX9_reckons_25 : decode cX9_reckons 25 = .ok (.aload_n 0, 1) := by decide +kernel
theorem dX9_reckons_26 : decode cX9_reckons 26 = .ok (.getfield 33, 3) := by decide +kernel
theorem dX9_reckons_29 : decode cX9_reckons 29 = .ok (.iload_n 3, 1) := by decide +kernel
theorem dX9_reckons_30 : decode cX9_reckons 30 = .ok (.iload 4, 2) := by decide +kernel
theorem dX9_reckons_32 : decode cX9_reckons 32 = .ok (.imul, 1) := by decide +kernel
theorem dX9_reckons_33 : decode cX9_reckons 33 = .ok (.iload 5, 2) := by decide +kernel
theorem dX9_reckons_35 : decode cX9_reckons 35 = .ok (.iadd, 1) := by decide +kernel
theorem dX9_reckons_36 : decode cX9_reckons 36 = .ok (.aload_n 0, 1) := by decide +kernel
theorem dX9_reckons_37 : decode cX9_reckons 37 = .ok (.iload 4, 2) := by decide +kernel
theorem dX9_reckons_39 : decode cX9_reckons 39 = .ok (.iload 5, 2) := by decide +kernel
theorem dX9_reckons_41 : decode cX9_reckons 41 = .ok (.iload_n 1, 1) := by decide +kernel
theorem dX9_reckons_42 : decode cX9_reckons 42 = .ok (.if_icmp .ne 7, 3) := by decide +kernel
theorem dX9_reckons_45 : decode cX9_reckons 45 = .ok (.iload_n 2, 1) := by decide +kernel
theorem dX9_reckons_46 : decode cX9_reckons 46 = .ok (.goto 9, 3) := by decide +kernel
theorem dX9_reckons_49 : decode cX9_reckons 49 = .ok (.aload_n 0, 1) := by decide +kernel
theorem dX9_reckons_50 : decode cX9_reckons 50 = .ok (.iload 5, 2) := by decide +kernel
theorem dX9_reckons_52 : decode cX9_reckons 52 = .ok (.invokevirtual 195, 3) := by decide +kernel
theorem dX9_reckons_55 : decode cX9_reckons 55 = .ok (.invokevirtual 209, 3) := by decide +kernel
theorem dX9_reckons_58 : decode cX9_reckons 58 = .ok (.lastore, 1) := by decide +kernel
theorem dX9_reckons_59 : decode cX9_reckons 59 = .ok (.iinc 5 1, 3) := by decide +kernel
theorem dX9_reckons_62 : decode cX9_reckons 62 = .ok (.goto (-43), 3) := by decide +kernel
theorem dX9_reckons_65 : decode cX9_reckons 65 = .ok (.iinc 4 1, 3) := by decide +kernel
theorem dX9_reckons_68 : decode cX9_reckons 68 = .ok (.goto (-58), 3) := by decide +kernel
theorem dX9_reckons_71 : decode cX9_reckons 71 = .ok (.aload_n 0, 1) := by decide +kernel
theorem dX9_reckons_72 : decode cX9_reckons 72 = .ok (.iload_n 3, 1) := by decide +kernel
theorem dX9_reckons_73 : decode cX9_reckons 73 = .ok (.invokevirtual 213, 3) := by decide +kernel
theorem dX9_reckons_76 : decode cX9_reckons 76 = .ok (.lreturn, 1) := by decide +kernel
set_option maxRecDepth 20000 in
theorem ggX9_isStanding_X9_reckons : GoodIn wsX9_isStanding wsX9_reckons := goodIn_r _ [5, 6, 7, 8, 9, 10, 4, 11, 12, 13, 14, 15, 16, 17, 18, 19, 20, 21, 22, 23, 24, 25, 26, 27, 28, 29, 30, 31, 32, 33, 34, 35, 36, 37, 38, 39, 40, 41, 42, 43, 44, 45, 46, 47, 48, 49, 50, 51, 52] (by decide +kernel) (by decide +kernel)
set_option maxRecDepth 20000 in
theorem gX9_isStanding_X9_reckons : GoodIn wsX9_isStanding (wsV RX9 217 RX9 yX9_reckons wsX9_reckons) := goodIn_app (goodIn_of _ (by decide +kernel)) ggX9_isStanding_X9_reckons
theorem dX9_isStanding_0 : decode cX9_isStanding 0 = .ok (.aload_n 0, 1) := by decide +kernel
theorem dX9_isStanding_1 : decode cX9_isStanding 1 = .ok (.iconst (-1), 1) := by decide +kernel
theorem dX9_isStanding_2 : decode cX9_isStanding 2 = .ok (.iconst 0, 1) := by decide +kernel
theorem dX9_isStanding_3 : decode cX9_isStanding 3 = .ok (.invokevirtual 217, 3) := by decide +kernel
theorem dX9_isStanding_6 : decode cX9_isStanding 6 = .ok (.lconst 0, 1) := by decide +kernel
theorem dX9_isStanding_7 : decode cX9_isStanding 7 = .ok (.lcmp, 1) := by decide +kernel
theorem dX9_isStanding_8 : decode cX9_isStanding 8 = .ok (.ifCond .eq 7, 3) := by decide +kernel
theorem dX9_isStanding_11 : decode cX9_isStanding 11 = .ok (.iconst 1, 1) := by decide +kernel
theorem dX9_isStanding_12 : decode cX9_isStanding 12 = .ok (.goto 4, 3) := by decide +kernel
theorem dX9_isStanding_15 : decode cX9_isStanding 15 = .ok (.iconst 0, 1) := by decide +kernel
theorem dX9_isStanding_16 : decode cX9_isStanding 16 = .ok (.ireturn, 1) := by decide +kernel
theorem dX9_common_0 : decode cX9_common 0 = .ok (.lload_n 0, 1) := by decide +kernel
theorem dX9_common_1 : decode cX9_common 1 = .ok (.lconst 0, 1) := by decide +kernel
theorem dX9_common_2 : decode cX9_common 2 = .ok (.lcmp, 1) := by decide +kernel
theorem dX9_common_3 : decode cX9_common 3 = .ok (.ifCond .ge 8, 3) := by decide +kernel
theorem dX9_common_6 : decode cX9_common 6 = .ok (.lload_n 0, 1) := by decide +kernel
theorem dX9_common_7 : decode cX9_common 7 = .ok (.lneg, 1) := by decide +kernel
theorem dX9_common_8 : decode cX9_common 8 = .ok (.goto 4, 3) := by decide +kernel
theorem dX9_common_11 : decode cX9_common 11 = .ok (.lload_n 0, 1) := by decide +kernel
theorem dX9_common_12 : decode cX9_common 12 = .ok (.lstore 4, 2) := by decide +kernel
theorem dX9_common_14 : decode cX9_common 14 = .ok (.lload_n 2, 1) := by decide +kernel
theorem dX9_common_15 : decode cX9_common 15 = .ok (.lconst 0, 1) := by decide +kernel
theorem dX9_common_16 : decode cX9_common 16 = .ok (.lcmp, 1) := by decide +kernel
theorem dX9_common_17 : decode cX9_common 17 = .ok (.ifCond .ge 8, 3) := by decide +kernel
theorem dX9_common_20 : decode cX9_common 20 = .ok (.lload_n 2, 1) := by decide +kernel
theorem dX9_common_21 : decode cX9_common 21 = .ok (.lneg, 1) := by decide +kernel
theorem dX9_common_22 : decode cX9_common 22 = .ok (.goto 4, 3) := by decide +kernel
theorem dX9_common_25 : decode cX9_common 25 = .ok (.lload_n 2, 1) := by decide +kernel
theorem dX9_common_26 : decode cX9_common 26 = .ok (.lstore 6, 2) := by decide +kernel
theorem dX9_common_28 : decode cX9_common 28 = .ok (.lload 6, 2) := by decide +kernel
theorem dX9_common_30 : decode cX9_common 30 = .ok (.lconst 0, 1) := by decide +kernel
theorem dX9_common_31 : decode cX9_common 31 = .ok (.lcmp, 1) := by decide +kernel
theorem dX9_common_32 : decode cX9_common 32 = .ok (.ifCond .eq 21, 3) := by decide +kernel
theorem dX9_common_35 : decode cX9_common 35 = .ok (.lload 4, 2) := by decide +kernel
theorem dX9_common_37 : decode cX9_common 37 = .ok (.lload 6, 2) := by decide +kernel
theorem dX9_common_39 : decode cX9_common 39 = .ok (.lrem, 1) := by decide +kernel
theorem dX9_common_40 : decode cX9_common 40 = .ok (.lstore 8, 2) := by decide +kernel
theorem dX9_common_42 : decode cX9_common 42 = .ok (.lload 6, 2) := by decide +kernel
theorem dX9_common_44 : decode cX9_common 44 = .ok (.lstore 4, 2) := by decide +kernel
theorem dX9_common_46 : decode cX9_common 46 = .ok (.lload 8, 2) := by decide +kernel
theorem dX9_common_48 : decode cX9_common 48 = .ok (.lstore 6, 2) := by decide +kernel
theorem dX9_common_50 : decode cX9_common 50 = .ok (.goto (-22), 3) := by decide +kernel
theorem dX9_common_53 : decode cX9_common 53 = .ok (.lload 4, 2) := by decide +kernel
theorem dX9_common_55 : decode cX9_common 55 = .ok (.lreturn, 1) := by decide +kernel
theorem dX9_places_0 : decode cX9_places 0 = .ok (.aload_n 0, 1) := by decide +kernel
theorem dX9_places_1 : decode cX9_places 1 = .ok (.getfield 7, 3) := by decide +kernel
theorem dX9_places_4 : decode cX9_places 4 = .ok (.iconst 0, 1) := by decide +kernel
theorem dX9_places_5 : decode cX9_places 5 = .ok (.iaload, 1) := by decide +kernel
theorem dX9_places_6 : decode cX9_places 6 = .ok (.iconst 1, 1) := by decide +kernel
theorem dX9_places_7 : decode cX9_places 7 = .ok (.iadd, 1) := by decide +kernel
theorem dX9_places_8 : decode cX9_places 8 = .ok (.ireturn, 1) := by decide +kernel
set_option maxRecDepth 20000 in
theorem ggX9_lays_X9_reckons : GoodIn wsX9_lays wsX9_reckons := goodIn_r _ [8, 1, 9, 10, 11, 12, 7, 13, 14, 15, 16, 17, 18, 19, 20, 21, 22, 23, 24, 25, 26, 27, 28, 29, 30, 31, 32, 40, 41, 42, 43, 44, 45, 46, 47, 48, 49, 50, 51, 52, 53, 54, 55, 56, 57, 58, 59, 60, 61] (by decide +kernel) (by decide +kernel)
set_option maxRecDepth 20000 in
theorem gX9_lays_X9_reckons : GoodIn wsX9_lays (wsV RX9 217 RX9 yX9_reckons wsX9_reckons) := goodIn_app (goodIn_of _ (by decide +kernel)) ggX9_lays_X9_reckons
set_option maxRecDepth 20000 in
theorem ggX9_lays_X9_places : GoodIn wsX9_lays wsX9_places := goodIn_r _ [36, 1, 40, 41, 42, 43, 44, 45, 46, 47, 48, 49, 50, 51, 52, 53, 54, 55, 56, 57, 58, 59, 60, 61] (by decide +kernel) (by decide +kernel)
set_option maxRecDepth 20000 in
theorem gX9_lays_X9_places : GoodIn wsX9_lays (wsV RX9 220 RX9 yX9_places wsX9_places) := goodIn_app (goodIn_of _ (by decide +kernel)) ggX9_lays_X9_places
set_option maxRecDepth 20000 in
theorem ggX9_lays_X9_common : GoodIn wsX9_lays wsX9_common := goodIn_r _ [39] (by decide +kernel) (by decide +kernel)
set_option maxRecDepth 20000 in
theorem gX9_lays_X9_common : GoodIn wsX9_lays (va_wsS RX9 223 yX9_common wsX9_common) := goodIn_app (goodIn_of _ (by decide +kernel)) ggX9_lays_X9_common
theorem dX9_lays_0 : decode cX9_lays 0 = .ok (.aload_n 0, 1) := by decide +kernel
theorem dX9_lays_1 : decode cX9_lays 1 = .ok (.iconst (-1), 1) := by decide +kernel
theorem dX9_lays_2 : decode cX9_lays 2 = .ok (.iconst 0, 1) := by decide +kernel
theorem dX9_lays_3 : decode cX9_lays 3 = .ok (.invokevirtual 217, 3) := by decide +kernel
theorem dX9_lays_6 : decode cX9_lays 6 = .ok (.lstore_n 1, 1) := by decide +kernel
theorem dX9_lays_7 : decode cX9_lays 7 = .ok (.lload_n 1, 1) := by decide +kernel
theorem dX9_lays_8 : decode cX9_lays 8 = .ok (.lstore_n 3, 1) := by decide +kernel
theorem dX9_lays_9 : decode cX9_lays 9 = .ok (.iconst 0, 1) := by decide +kernel
theorem dX9_lays_10 : decode cX9_lays 10 = .ok (.istore 5, 2) := by decide +kernel
theorem dX9_lays_12 : decode cX9_lays 12 = .ok (.iload 5, 2) := by decide +kernel
theorem dX9_lays_14 : decode cX9_lays 14 = .ok (.aload_n 0, 1) := by decide +kernel
theorem dX9_lays_15 : decode cX9_lays 15 = .ok (.getfield 7, 3) := by decide +kernel
theorem dX9_lays_18 : decode cX9_lays 18 = .ok (.iconst 2, 1) := by decide +kernel
theorem dX9_lays_19 : decode cX9_lays 19 = .ok (.iaload, 1) := by decide +kernel
theorem dX9_lays_20 : decode cX9_lays 20 = .ok (.if_icmp .ge 59, 3) := by decide +kernel
theorem dX9_lays_23 : decode cX9_lays 23 = .ok (.iconst 0, 1) := by decide +kernel
theorem dX9_lays_24 : decode cX9_lays 24 = .ok (.istore 6, 2) := by decide +kernel
theorem dX9_lays_26 : decode cX9_lays 26 = .ok (.iload 6, 2) := by decide +kernel
theorem dX9_lays_28 : decode cX9_lays 28 = .ok (.aload_n 0, 1) := by decide +kernel
theorem dX9_lays_29 : decode cX9_lays 29 = .ok (.invokevirtual 220, 3) := by decide +kernel
theorem dX9_lays_32 : decode cX9_lays 32 = .ok (.if_icmp .ge 41, 3) := by decide +kernel
theorem dX9_lays_35 : decode cX9_lays 35 = .ok (.aload_n 0, 1) := by decide +kernel
theorem dX9_lays_36 : decode cX9_lays 36 = .ok (.iload 5, 2) := by decide +kernel
theorem dX9_lays_38 : decode cX9_lays 38 = .ok (.iload 6, 2) := by decide +kernel
theorem dX9_lays_40 : decode cX9_lays 40 = .ok (.invokevirtual 217, 3) := by decide +kernel
theorem dX9_lays_43 : decode cX9_lays 43 = .ok (.lstore 7, 2) := by decide +kernel
theorem dX9_lays_45 : decode cX9_lays 45 = .ok (.aload_n 0, 1) := by decide +kernel
theorem dX9_lays_46 : decode cX9_lays 46 = .ok (.getfield 37, 3) := by decide +kernel
theorem dX9_lays_49 : decode cX9_lays 49 = .ok (.bipush 31, 2) := by decide +kernel
theorem dX9_lays_51 : decode cX9_lays 51 = .ok (.iload 5, 2) := by decide +kernel
theorem dX9_lays_53 : decode cX9_lays 53 = .ok (.imul, 1) := by decide +kernel
theorem dX9_lays_54 : decode cX9_lays 54 = .ok (.iload 6, 2) := by decide +kernel
theorem dX9_lays_56 : decode cX9_lays 56 = .ok (.iadd, 1) := by decide +kernel
theorem dX9_lays_57 : decode cX9_lays 57 = .ok (.lload 7, 2) := by decide +kernel
theorem dX9_lays_59 : decode cX9_lays 59 = .ok (.lastore, 1) := by decide +kernel
theorem dX9_lays_60 : decode cX9_lays 60 = .ok (.lload_n 3, 1) := by decide +kernel
theorem dX9_lays_61 : decode cX9_lays 61 = .ok (.lload 7, 2) := by decide +kernel
theorem dX9_lays_63 : decode cX9_lays 63 = .ok (.invokestatic 223, 3) := by decide +kernel
theorem dX9_lays_66 : decode cX9_lays 66 = .ok (.lstore_n 3, 1) := by decide +kernel
theorem dX9_lays_67 : decode cX9_lays 67 = .ok (.iinc 6 1, 3) := by decide +kernel
theorem dX9_lays_70 : decode cX9_lays 70 = .ok (.goto (-44), 3) := by decide +kernel
theorem dX9_lays_73 : decode cX9_lays 73 = .ok (.iinc 5 1, 3) := by decide +kernel
theorem dX9_lays_76 : decode cX9_lays 76 = .ok (.goto (-64), 3) := by decide +kernel
theorem dX9_lays_79 : decode cX9_lays 79 = .ok (.lload_n 1, 1) := by decide +kernel
theorem dX9_lays_80 : decode cX9_lays 80 = .ok (.lconst 0, 1) := by decide +kernel
theorem dX9_lays_81 : decode cX9_lays 81 = .ok (.lcmp, 1) := by decide +kernel
theorem dX9_lays_82 : decode cX9_lays 82 = .ok (.ifCond .ge 6, 3) := by decide +kernel
theorem dX9_lays_85 : decode cX9_lays 85 = .ok (.lload_n 3, 1) := by decide +kernel
theorem dX9_lays_86 : decode cX9_lays 86 = .ok (.lneg, 1) := by decide +kernel
theorem dX9_lays_87 : decode cX9_lays 87 = .ok (.lstore_n 3, 1) := by decide +kernel
theorem dX9_lays_88 : decode cX9_lays 88 = .ok (.iconst 0, 1) := by decide +kernel
theorem dX9_lays_89 : decode cX9_lays 89 = .ok (.istore 5, 2) := by decide +kernel
theorem dX9_lays_91 : decode cX9_lays 91 = .ok (.iload 5, 2) := by decide +kernel
theorem dX9_lays_93 : decode cX9_lays 93 = .ok (.bipush 31, 2) := by decide +kernel
theorem dX9_lays_95 : decode cX9_lays 95 = .ok (.aload_n 0, 1) := by decide +kernel
theorem dX9_lays_96 : decode cX9_lays 96 = .ok (.getfield 7, 3) := by decide +kernel
theorem dX9_lays_99 : decode cX9_lays 99 = .ok (.iconst 2, 1) := by decide +kernel
theorem dX9_lays_100 : decode cX9_lays 100 = .ok (.iaload, 1) := by decide +kernel
theorem dX9_lays_101 : decode cX9_lays 101 = .ok (.imul, 1) := by decide +kernel
theorem dX9_lays_102 : decode cX9_lays 102 = .ok (.if_icmp .ge 25, 3) := by decide +kernel
theorem dX9_lays_105 : decode cX9_lays 105 = .ok (.aload_n 0, 1) := by decide +kernel
theorem dX9_lays_106 : decode cX9_lays 106 = .ok (.getfield 37, 3) := by decide +kernel
theorem dX9_lays_109 : decode cX9_lays 109 = .ok (.iload 5, 2) := by decide +kernel
theorem dX9_lays_111 : decode cX9_lays 111 = .ok (.aload_n 0, 1) := by decide +kernel
theorem dX9_lays_112 : decode cX9_lays 112 = .ok (.getfield 37, 3) := by decide +kernel
theorem dX9_lays_115 : decode cX9_lays 115 = .ok (.iload 5, 2) := by decide +kernel
theorem dX9_lays_117 : decode cX9_lays 117 = .ok (.laload, 1) := by decide +kernel
theorem dX9_lays_118 : decode cX9_lays 118 = .ok (.lload_n 3, 1) := by decide +kernel
theorem dX9_lays_119 : decode cX9_lays 119 = .ok (.ldiv, 1) := by decide +kernel
theorem dX9_lays_120 : decode cX9_lays 120 = .ok (.lastore, 1) := by decide +kernel
theorem dX9_lays_121 : decode cX9_lays 121 = .ok (.iinc 5 1, 3) := by decide +kernel
theorem dX9_lays_124 : decode cX9_lays 124 = .ok (.goto (-33), 3) := by decide +kernel
theorem dX9_lays_127 : decode cX9_lays 127 = .ok (.aload_n 0, 1) := by decide +kernel
theorem dX9_lays_128 : decode cX9_lays 128 = .ok (.lload_n 1, 1) := by decide +kernel
theorem dX9_lays_129 : decode cX9_lays 129 = .ok (.lload_n 3, 1) := by decide +kernel
theorem dX9_lays_130 : decode cX9_lays 130 = .ok (.ldiv, 1) := by decide +kernel
theorem dX9_lays_131 : decode cX9_lays 131 = .ok (.putfield 227, 3) := by decide +kernel
theorem dX9_lays_134 : decode cX9_lays 134 = .ok (.return_, 1) := by decide +kernel
theorem dX9_reactionBy_0 : decode cX9_reactionBy 0 = .ok (.aload_n 0, 1) := by decide +kernel
theorem dX9_reactionBy_1 : decode cX9_reactionBy 1 = .ok (.getfield 37, 3) := by decide +kernel
theorem dX9_reactionBy_4 : decode cX9_reactionBy 4 = .ok (.bipush 31, 2) := by decide +kernel
theorem dX9_reactionBy_6 : decode cX9_reactionBy 6 = .ok (.iload_n 1, 1) := by decide +kernel
theorem dX9_reactionBy_7 : decode cX9_reactionBy 7 = .ok (.imul, 1) := by decide +kernel
theorem dX9_reactionBy_8 : decode cX9_reactionBy 8 = .ok (.iload_n 2, 1) := by decide +kernel
theorem dX9_reactionBy_9 : decode cX9_reactionBy 9 = .ok (.iadd, 1) := by decide +kernel
theorem dX9_reactionBy_10 : decode cX9_reactionBy 10 = .ok (.laload, 1) := by decide +kernel
theorem dX9_reactionBy_11 : decode cX9_reactionBy 11 = .ok (.lreturn, 1) := by decide +kernel
set_option maxRecDepth 20000 in
theorem ggX9_shearBy_X9_placeOf : GoodIn wsX9_shearBy wsX9_placeOf := goodIn_r _ [7, 2, 13, 14, 15, 16, 17, 18, 19, 20, 21, 22, 23, 24, 25, 26, 27, 28, 29, 30, 31, 32, 33, 34] (by decide +kernel) (by decide +kernel)
set_option maxRecDepth 20000 in
theorem gX9_shearBy_X9_placeOf : GoodIn wsX9_shearBy (wsV RX9 195 RX9 yX9_placeOf wsX9_placeOf) := goodIn_app (goodIn_of _ (by decide +kernel)) ggX9_shearBy_X9_placeOf
set_option maxRecDepth 20000 in
theorem ggX9_shearBy_X9_reactionBy : GoodIn wsX9_shearBy wsX9_reactionBy := goodIn_r _ [11, 12, 13, 14, 15, 16, 17, 18, 19, 20, 21, 22, 23, 24, 25, 26, 27, 28, 29, 30, 31, 32, 33, 34] (by decide +kernel) (by decide +kernel)
set_option maxRecDepth 20000 in
theorem gX9_shearBy_X9_reactionBy : GoodIn wsX9_shearBy (wsV RX9 231 RX9 yX9_reactionBy wsX9_reactionBy) := goodIn_app (goodIn_of _ (by decide +kernel)) ggX9_shearBy_X9_reactionBy
theorem dX9_shearBy_0 : decode cX9_shearBy 0 = .ok (.iload_n 2, 1) := by decide +kernel
theorem dX9_shearBy_1 : decode cX9_shearBy 1 = .ok (.iload_n 1, 1) := by decide +kernel
theorem dX9_shearBy_2 : decode cX9_shearBy 2 = .ok (.if_icmp .gt 11, 3) := by decide +kernel
theorem dX9_shearBy_5 : decode cX9_shearBy 5 = .ok (.aload_n 0, 1) := by decide +kernel
theorem dX9_shearBy_6 : decode cX9_shearBy 6 = .ok (.getfield 227, 3) := by decide +kernel
theorem dX9_shearBy_9 : decode cX9_shearBy 9 = .ok (.lneg, 1) := by decide +kernel
theorem dX9_shearBy_10 : decode cX9_shearBy 10 = .ok (.goto 4, 3) := by decide +kernel
theorem dX9_shearBy_13 : decode cX9_shearBy 13 = .ok (.lconst 0, 1) := by decide +kernel
theorem dX9_shearBy_14 : decode cX9_shearBy 14 = .ok (.lstore_n 3, 1) := by decide +kernel
theorem dX9_shearBy_15 : decode cX9_shearBy 15 = .ok (.iconst 0, 1) := by decide +kernel
theorem dX9_shearBy_16 : decode cX9_shearBy 16 = .ok (.istore 5, 2) := by decide +kernel
theorem dX9_shearBy_18 : decode cX9_shearBy 18 = .ok (.iload 5, 2) := by decide +kernel
theorem dX9_shearBy_20 : decode cX9_shearBy 20 = .ok (.aload_n 0, 1) := by decide +kernel
theorem dX9_shearBy_21 : decode cX9_shearBy 21 = .ok (.getfield 7, 3) := by decide +kernel
theorem dX9_shearBy_24 : decode cX9_shearBy 24 = .ok (.iconst 2, 1) := by decide +kernel
theorem dX9_shearBy_25 : decode cX9_shearBy 25 = .ok (.iaload, 1) := by decide +kernel
theorem dX9_shearBy_26 : decode cX9_shearBy 26 = .ok (.if_icmp .ge 33, 3) := by decide +kernel
theorem dX9_shearBy_29 : decode cX9_shearBy 29 = .ok (.lload_n 3, 1) := by decide +kernel
theorem dX9_shearBy_30 : decode cX9_shearBy 30 = .ok (.aload_n 0, 1) := by decide +kernel
theorem dX9_shearBy_31 : decode cX9_shearBy 31 = .ok (.iload 5, 2) := by decide +kernel
theorem dX9_shearBy_33 : decode cX9_shearBy 33 = .ok (.invokevirtual 195, 3) := by decide +kernel
theorem dX9_shearBy_36 : decode cX9_shearBy 36 = .ok (.iload_n 1, 1) := by decide +kernel
theorem dX9_shearBy_37 : decode cX9_shearBy 37 = .ok (.if_icmp .gt 13, 3) := by decide +kernel
theorem dX9_shearBy_40 : decode cX9_shearBy 40 = .ok (.aload_n 0, 1) := by decide +kernel
theorem dX9_shearBy_41 : decode cX9_shearBy 41 = .ok (.iload 5, 2) := by decide +kernel
theorem dX9_shearBy_43 : decode cX9_shearBy 43 = .ok (.iload_n 2, 1) := by decide +kernel
theorem dX9_shearBy_44 : decode cX9_shearBy 44 = .ok (.invokevirtual 231, 3) := by decide +kernel
theorem dX9_shearBy_47 : decode cX9_shearBy 47 = .ok (.goto 4, 3) := by decide +kernel
theorem dX9_shearBy_50 : decode cX9_shearBy 50 = .ok (.lconst 0, 1) := by decide +kernel
theorem dX9_shearBy_51 : decode cX9_shearBy 51 = .ok (.ladd, 1) := by decide +kernel
theorem dX9_shearBy_52 : decode cX9_shearBy 52 = .ok (.lstore_n 3, 1) := by decide +kernel
theorem dX9_shearBy_53 : decode cX9_shearBy 53 = .ok (.iinc 5 1, 3) := by decide +kernel
theorem dX9_shearBy_56 : decode cX9_shearBy 56 = .ok (.goto (-38), 3) := by decide +kernel
theorem dX9_shearBy_59 : decode cX9_shearBy 59 = .ok (.lload_n 3, 1) := by decide +kernel
theorem dX9_shearBy_60 : decode cX9_shearBy 60 = .ok (.lreturn, 1) := by decide +kernel
set_option maxRecDepth 20000 in
theorem ggX9_momentBy_X9_placeOf : GoodIn wsX9_momentBy wsX9_placeOf := goodIn_r _ [7, 2, 13, 14, 15, 16, 17, 18, 19, 20, 21, 22, 23, 24, 25, 26, 27, 28, 29, 30, 31, 32, 33, 34] (by decide +kernel) (by decide +kernel)
set_option maxRecDepth 20000 in
theorem gX9_momentBy_X9_placeOf : GoodIn wsX9_momentBy (wsV RX9 195 RX9 yX9_placeOf wsX9_placeOf) := goodIn_app (goodIn_of _ (by decide +kernel)) ggX9_momentBy_X9_placeOf
set_option maxRecDepth 20000 in
theorem ggX9_momentBy_X9_reactionBy : GoodIn wsX9_momentBy wsX9_reactionBy := goodIn_r _ [11, 12, 13, 14, 15, 16, 17, 18, 19, 20, 21, 22, 23, 24, 25, 26, 27, 28, 29, 30, 31, 32, 33, 34] (by decide +kernel) (by decide +kernel)
set_option maxRecDepth 20000 in
theorem gX9_momentBy_X9_reactionBy : GoodIn wsX9_momentBy (wsV RX9 231 RX9 yX9_reactionBy wsX9_reactionBy) := goodIn_app (goodIn_of _ (by decide +kernel)) ggX9_momentBy_X9_reactionBy
theorem dX9_momentBy_0 : decode cX9_momentBy 0 = .ok (.iload_n 2, 1) := by decide +kernel
theorem dX9_momentBy_1 : decode cX9_momentBy 1 = .ok (.iload_n 1, 1) := by decide +kernel
theorem dX9_momentBy_2 : decode cX9_momentBy 2 = .ok (.if_icmp .ge 16, 3) := by decide +kernel
theorem dX9_momentBy_5 : decode cX9_momentBy 5 = .ok (.aload_n 0, 1) := by decide +kernel
theorem dX9_momentBy_6 : decode cX9_momentBy 6 = .ok (.getfield 227, 3) := by decide +kernel
theorem dX9_momentBy_9 : decode cX9_momentBy 9 = .ok (.lneg, 1) := by decide +kernel
theorem dX9_momentBy_10 : decode cX9_momentBy 10 = .ok (.iload_n 1, 1) := by decide +kernel
theorem dX9_momentBy_11 : decode cX9_momentBy 11 = .ok (.iload_n 2, 1) := by decide +kernel
theorem dX9_momentBy_12 : decode cX9_momentBy 12 = .ok (.isub, 1) := by decide +kernel
theorem dX9_momentBy_13 : decode cX9_momentBy 13 = .ok (.i2l, 1) := by decide +kernel
theorem dX9_momentBy_14 : decode cX9_momentBy 14 = .ok (.lmul, 1) := by decide +kernel
theorem dX9_momentBy_15 : decode cX9_momentBy 15 = .ok (.goto 4, 3) := by decide +kernel
theorem dX9_momentBy_18 : decode cX9_momentBy 18 = .ok (.lconst 0, 1) := by decide +kernel
theorem dX9_momentBy_19 : decode cX9_momentBy 19 = .ok (.lstore_n 3, 1) := by decide +kernel
theorem dX9_momentBy_20 : decode cX9_momentBy 20 = .ok (.iconst 0, 1) := by decide +kernel
theorem dX9_momentBy_21 : decode cX9_momentBy 21 = .ok (.istore 5, 2) := by decide +kernel
theorem dX9_momentBy_23 : decode cX9_momentBy 23 = .ok (.iload 5, 2) := by decide +kernel
theorem dX9_momentBy_25 : decode cX9_momentBy 25 = .ok (.aload_n 0, 1) := by decide +kernel
theorem dX9_momentBy_26 : decode cX9_momentBy 26 = .ok (.getfield 7, 3) := by decide +kernel
theorem dX9_momentBy_29 : decode cX9_momentBy 29 = .ok (.iconst 2, 1) := by decide +kernel
theorem dX9_momentBy_30 : decode cX9_momentBy 30 = .ok (.iaload, 1) := by decide +kernel
theorem dX9_momentBy_31 : decode cX9_momentBy 31 = .ok (.if_icmp .ge 43, 3) := by decide +kernel
theorem dX9_momentBy_34 : decode cX9_momentBy 34 = .ok (.lload_n 3, 1) := by decide +kernel
theorem dX9_momentBy_35 : decode cX9_momentBy 35 = .ok (.aload_n 0, 1) := by decide +kernel
theorem dX9_momentBy_36 : decode cX9_momentBy 36 = .ok (.iload 5, 2) := by decide +kernel
theorem dX9_momentBy_38 : decode cX9_momentBy 38 = .ok (.invokevirtual 195, 3) := by decide +kernel
theorem dX9_momentBy_41 : decode cX9_momentBy 41 = .ok (.iload_n 1, 1) := by decide +kernel
theorem dX9_momentBy_42 : decode cX9_momentBy 42 = .ok (.if_icmp .ge 23, 3) := by decide +kernel
theorem dX9_momentBy_45 : decode cX9_momentBy 45 = .ok (.aload_n 0, 1) := by decide +kernel
theorem dX9_momentBy_46 : decode cX9_momentBy 46 = .ok (.iload 5, 2) := by decide +kernel
theorem dX9_momentBy_48 : decode cX9_momentBy 48 = .ok (.iload_n 2, 1) := by decide +kernel
theorem dX9_momentBy_49 : decode cX9_momentBy 49 = .ok (.invokevirtual 231, 3) := by decide +kernel
theorem dX9_momentBy_52 : decode cX9_momentBy 52 = .ok (.iload_n 1, 1) := by decide +kernel
theorem dX9_momentBy_53 : decode cX9_momentBy 53 = .ok (.aload_n 0, 1) := by decide +kernel
theorem dX9_momentBy_54 : decode cX9_momentBy 54 = .ok (.iload 5, 2) := by decide +kernel
theorem dX9_momentBy_56 : decode cX9_momentBy 56 = .ok (.invokevirtual 195, 3) := by decide +kernel
theorem dX9_momentBy_59 : decode cX9_momentBy 59 = .ok (.isub, 1) := by decide +kernel
theorem dX9_momentBy_60 : decode cX9_momentBy 60 = .ok (.i2l, 1) := by decide +kernel
theorem dX9_momentBy_61 : decode cX9_momentBy 61 = .ok (.lmul, 1) := by decide +kernel
theorem dX9_momentBy_62 : decode cX9_momentBy 62 = .ok (.goto 4, 3) := by decide +kernel
theorem dX9_momentBy_65 : decode cX9_momentBy 65 = .ok (.lconst 0, 1) := by decide +kernel
theorem dX9_momentBy_66 : decode cX9_momentBy 66 = .ok (.ladd, 1) := by decide +kernel
theorem dX9_momentBy_67 : decode cX9_momentBy 67 = .ok (.lstore_n 3, 1) := by decide +kernel
theorem dX9_momentBy_68 : decode cX9_momentBy 68 = .ok (.iinc 5 1, 3) := by decide +kernel
theorem dX9_momentBy_71 : decode cX9_momentBy 71 = .ok (.goto (-48), 3) := by decide +kernel
theorem dX9_momentBy_74 : decode cX9_momentBy 74 = .ok (.lload_n 3, 1) := by decide +kernel
theorem dX9_momentBy_75 : decode cX9_momentBy 75 = .ok (.lreturn, 1) := by decide +kernel
set_option maxRecDepth 20000 in
theorem ggX9_rightBy_X9_placeOf : GoodIn wsX9_rightBy wsX9_placeOf := goodIn_r _ [7, 2, 13, 14, 15, 16, 17, 18, 19, 20, 21, 22, 23, 24, 25, 26, 27, 28, 29, 30, 31, 32, 33, 34] (by decide +kernel) (by decide +kernel)
set_option maxRecDepth 20000 in
theorem gX9_rightBy_X9_placeOf : GoodIn wsX9_rightBy (wsV RX9 195 RX9 yX9_placeOf wsX9_placeOf) := goodIn_app (goodIn_of _ (by decide +kernel)) ggX9_rightBy_X9_placeOf
set_option maxRecDepth 20000 in
theorem ggX9_rightBy_X9_reactionBy : GoodIn wsX9_rightBy wsX9_reactionBy := goodIn_r _ [11, 12, 13, 14, 15, 16, 17, 18, 19, 20, 21, 22, 23, 24, 25, 26, 27, 28, 29, 30, 31, 32, 33, 34] (by decide +kernel) (by decide +kernel)
set_option maxRecDepth 20000 in
theorem gX9_rightBy_X9_reactionBy : GoodIn wsX9_rightBy (wsV RX9 231 RX9 yX9_reactionBy wsX9_reactionBy) := goodIn_app (goodIn_of _ (by decide +kernel)) ggX9_rightBy_X9_reactionBy
theorem dX9_rightBy_0 : decode cX9_rightBy 0 = .ok (.iload_n 2, 1) := by decide +kernel
theorem dX9_rightBy_1 : decode cX9_rightBy 1 = .ok (.iload_n 1, 1) := by decide +kernel
theorem dX9_rightBy_2 : decode cX9_rightBy 2 = .ok (.if_icmp .le 16, 3) := by decide +kernel
theorem dX9_rightBy_5 : decode cX9_rightBy 5 = .ok (.aload_n 0, 1) := by decide +kernel
theorem dX9_rightBy_6 : decode cX9_rightBy 6 = .ok (.getfield 227, 3) := by decide +kernel
theorem dX9_rightBy_9 : decode cX9_rightBy 9 = .ok (.lneg, 1) := by decide +kernel
theorem dX9_rightBy_10 : decode cX9_rightBy 10 = .ok (.iload_n 2, 1) := by decide +kernel
theorem dX9_rightBy_11 : decode cX9_rightBy 11 = .ok (.iload_n 1, 1) := by decide +kernel
theorem dX9_rightBy_12 : decode cX9_rightBy 12 = .ok (.isub, 1) := by decide +kernel
theorem dX9_rightBy_13 : decode cX9_rightBy 13 = .ok (.i2l, 1) := by decide +kernel
theorem dX9_rightBy_14 : decode cX9_rightBy 14 = .ok (.lmul, 1) := by decide +kernel
theorem dX9_rightBy_15 : decode cX9_rightBy 15 = .ok (.goto 4, 3) := by decide +kernel
theorem dX9_rightBy_18 : decode cX9_rightBy 18 = .ok (.lconst 0, 1) := by decide +kernel
theorem dX9_rightBy_19 : decode cX9_rightBy 19 = .ok (.lstore_n 3, 1) := by decide +kernel
theorem dX9_rightBy_20 : decode cX9_rightBy 20 = .ok (.iconst 0, 1) := by decide +kernel
theorem dX9_rightBy_21 : decode cX9_rightBy 21 = .ok (.istore 5, 2) := by decide +kernel
theorem dX9_rightBy_23 : decode cX9_rightBy 23 = .ok (.iload 5, 2) := by decide +kernel
theorem dX9_rightBy_25 : decode cX9_rightBy 25 = .ok (.aload_n 0, 1) := by decide +kernel
theorem dX9_rightBy_26 : decode cX9_rightBy 26 = .ok (.getfield 7, 3) := by decide +kernel
theorem dX9_rightBy_29 : decode cX9_rightBy 29 = .ok (.iconst 2, 1) := by decide +kernel
theorem dX9_rightBy_30 : decode cX9_rightBy 30 = .ok (.iaload, 1) := by decide +kernel
theorem dX9_rightBy_31 : decode cX9_rightBy 31 = .ok (.if_icmp .ge 43, 3) := by decide +kernel
theorem dX9_rightBy_34 : decode cX9_rightBy 34 = .ok (.lload_n 3, 1) := by decide +kernel
theorem dX9_rightBy_35 : decode cX9_rightBy 35 = .ok (.aload_n 0, 1) := by decide +kernel
theorem dX9_rightBy_36 : decode cX9_rightBy 36 = .ok (.iload 5, 2) := by decide +kernel
theorem dX9_rightBy_38 : decode cX9_rightBy 38 = .ok (.invokevirtual 195, 3) := by decide +kernel
theorem dX9_rightBy_41 : decode cX9_rightBy 41 = .ok (.iload_n 1, 1) := by decide +kernel
theorem dX9_rightBy_42 : decode cX9_rightBy 42 = .ok (.if_icmp .le 23, 3) := by decide +kernel
theorem dX9_rightBy_45 : decode cX9_rightBy 45 = .ok (.aload_n 0, 1) := by decide +kernel
theorem dX9_rightBy_46 : decode cX9_rightBy 46 = .ok (.iload 5, 2) := by decide +kernel
theorem dX9_rightBy_48 : decode cX9_rightBy 48 = .ok (.iload_n 2, 1) := by decide +kernel
theorem dX9_rightBy_49 : decode cX9_rightBy 49 = .ok (.invokevirtual 231, 3) := by decide +kernel
theorem dX9_rightBy_52 : decode cX9_rightBy 52 = .ok (.aload_n 0, 1) := by decide +kernel
theorem dX9_rightBy_53 : decode cX9_rightBy 53 = .ok (.iload 5, 2) := by decide +kernel
theorem dX9_rightBy_55 : decode cX9_rightBy 55 = .ok (.invokevirtual 195, 3) := by decide +kernel
theorem dX9_rightBy_58 : decode cX9_rightBy 58 = .ok (.iload_n 1, 1) := by decide +kernel
theorem dX9_rightBy_59 : decode cX9_rightBy 59 = .ok (.isub, 1) := by decide +kernel
theorem dX9_rightBy_60 : decode cX9_rightBy 60 = .ok (.i2l, 1) := by decide +kernel
theorem dX9_rightBy_61 : decode cX9_rightBy 61 = .ok (.lmul, 1) := by decide +kernel
theorem dX9_rightBy_62 : decode cX9_rightBy 62 = .ok (.goto 4, 3) := by decide +kernel
theorem dX9_rightBy_65 : decode cX9_rightBy 65 = .ok (.lconst 0, 1) := by decide +kernel
theorem dX9_rightBy_66 : decode cX9_rightBy 66 = .ok (.ladd, 1) := by decide +kernel
theorem dX9_rightBy_67 : decode cX9_rightBy 67 = .ok (.lstore_n 3, 1) := by decide +kernel
theorem dX9_rightBy_68 : decode cX9_rightBy 68 = .ok (.iinc 5 1, 3) := by decide +kernel
theorem dX9_rightBy_71 : decode cX9_rightBy 71 = .ok (.goto (-48), 3) := by decide +kernel
theorem dX9_rightBy_74 : decode cX9_rightBy 74 = .ok (.lload_n 3, 1) := by decide +kernel
theorem dX9_rightBy_75 : decode cX9_rightBy 75 = .ok (.lreturn, 1) := by decide +kernel
theorem dX9_weights_0 : decode cX9_weights 0 = .ok (.iconst 0, 1) := by decide +kernel
theorem dX9_weights_1 : decode cX9_weights 1 = .ok (.istore_n 3, 1) := by decide +kernel
theorem dX9_weights_2 : decode cX9_weights 2 = .ok (.iconst 0, 1) := by decide +kernel
theorem dX9_weights_3 : decode cX9_weights 3 = .ok (.istore 4, 2) := by decide +kernel
theorem dX9_weights_5 : decode cX9_weights 5 = .ok (.iload 4, 2) := by decide +kernel
theorem dX9_weights_7 : decode cX9_weights 7 = .ok (.iload_n 2, 1) := by decide +kernel
theorem dX9_weights_8 : decode cX9_weights 8 = .ok (.if_icmp .ge 23, 3) := by decide +kernel
theorem dX9_weights_11 : decode cX9_weights 11 = .ok (.iload_n 3, 1) := by decide +kernel
theorem dX9_weights_12 : decode cX9_weights 12 = .ok (.aload_n 0, 1) := by decide +kernel
theorem dX9_weights_13 : decode cX9_weights 13 = .ok (.getfield 7, 3) := by decide +kernel
theorem dX9_weights_16 : decode cX9_weights 16 = .ok (.iload_n 1, 1) := by decide +kernel
theorem dX9_weights_17 : decode cX9_weights 17 = .ok (.iconst 2, 1) := by decide +kernel
theorem dX9_weights_18 : decode cX9_weights 18 = .ok (.iload 4, 2) := by decide +kernel
theorem dX9_weights_20 : decode cX9_weights 20 = .ok (.imul, 1) := by decide +kernel
theorem dX9_weights_21 : decode cX9_weights 21 = .ok (.iadd, 1) := by decide +kernel
theorem dX9_weights_22 : decode cX9_weights 22 = .ok (.iaload, 1) := by decide +kernel
theorem dX9_weights_23 : decode cX9_weights 23 = .ok (.iadd, 1) := by decide +kernel
theorem dX9_weights_24 : decode cX9_weights 24 = .ok (.istore_n 3, 1) := by decide +kernel
theorem dX9_weights_25 : decode cX9_weights 25 = .ok (.iinc 4 1, 3) := by decide +kernel
theorem dX9_weights_28 : decode cX9_weights 28 = .ok (.goto (-23), 3) := by decide +kernel
theorem dX9_weights_31 : decode cX9_weights 31 = .ok (.iload_n 3, 1) := by decide +kernel
theorem dX9_weights_32 : decode cX9_weights 32 = .ok (.ireturn, 1) := by decide +kernel
theorem dX9_lastHead_0 : decode cX9_lastHead 0 = .ok (.aload_n 0, 1) := by decide +kernel
theorem dX9_lastHead_1 : decode cX9_lastHead 1 = .ok (.getfield 7, 3) := by decide +kernel
theorem dX9_lastHead_4 : decode cX9_lastHead 4 = .ok (.iconst 5, 1) := by decide +kernel
theorem dX9_lastHead_5 : decode cX9_lastHead 5 = .ok (.iaload, 1) := by decide +kernel
theorem dX9_lastHead_6 : decode cX9_lastHead 6 = .ok (.ifCond .ne 5, 3) := by decide +kernel
theorem dX9_lastHead_9 : decode cX9_lastHead 9 = .ok (.iconst 0, 1) := by decide +kernel
theorem dX9_lastHead_10 : decode cX9_lastHead 10 = .ok (.ireturn, 1) := by decide +kernel
theorem dX9_lastHead_11 : decode cX9_lastHead 11 = .ok (.iconst 0, 1) := by decide +kernel
theorem dX9_lastHead_12 : decode cX9_lastHead 12 = .ok (.istore_n 1, 1) := by decide +kernel
theorem dX9_lastHead_13 : decode cX9_lastHead 13 = .ok (.iconst 0, 1) := by decide +kernel
theorem dX9_lastHead_14 : decode cX9_lastHead 14 = .ok (.istore_n 2, 1) := by decide +kernel
theorem dX9_lastHead_15 : decode cX9_lastHead 15 = .ok (.iload_n 2, 1) := by decide +kernel
theorem dX9_lastHead_16 : decode cX9_lastHead 16 = .ok (.aload_n 0, 1) := by decide +kernel
theorem dX9_lastHead_17 : decode cX9_lastHead 17 = .ok (.getfield 7, 3) := by decide +kernel
theorem dX9_lastHead_20 : decode cX9_lastHead 20 = .ok (.iconst 5, 1) := by decide +kernel
theorem dX9_lastHead_21 : decode cX9_lastHead 21 = .ok (.iaload, 1) := by decide +kernel
theorem dX9_lastHead_22 : decode cX9_lastHead 22 = .ok (.if_icmp .ge 27, 3) := by decide +kernel
theorem dX9_lastHead_25 : decode cX9_lastHead 25 = .ok (.iload_n 1, 1) := by decide +kernel
theorem dX9_lastHead_26 : decode cX9_lastHead 26 = .ok (.aload_n 0, 1) := by decide +kernel
theorem dX9_lastHead_27 : decode cX9_lastHead 27 = .ok (.getfield 7, 3) := by decide +kernel
theorem dX9_lastHead_30 : decode cX9_lastHead 30 = .ok (.bipush 35, 2) := by decide +kernel
theorem dX9_lastHead_32 : decode cX9_lastHead 32 = .ok (.iconst 2, 1) := by decide +kernel
theorem dX9_lastHead_33 : decode cX9_lastHead 33 = .ok (.iload_n 2, 1) := by decide +kernel
theorem dX9_lastHead_34 : decode cX9_lastHead 34 = .ok (.imul, 1) := by decide +kernel
theorem dX9_lastHead_35 : decode cX9_lastHead 35 = .ok (.iadd, 1) := by decide +kernel
theorem dX9_lastHead_36 : decode cX9_lastHead 36 = .ok (.iconst 1, 1) := by decide +kernel
theorem dX9_lastHead_37 : decode cX9_lastHead 37 = .ok (.iadd, 1) := by decide +kernel
theorem dX9_lastHead_38 : decode cX9_lastHead 38 = .ok (.iaload, 1) := by decide +kernel
theorem dX9_lastHead_39 : decode cX9_lastHead 39 = .ok (.invokestatic 206, 3) := by decide +kernel
theorem dX9_lastHead_42 : decode cX9_lastHead 42 = .ok (.istore_n 1, 1) := by decide +kernel
theorem dX9_lastHead_43 : decode cX9_lastHead 43 = .ok (.iinc 2 1, 3) := by decide +kernel
theorem dX9_lastHead_46 : decode cX9_lastHead 46 = .ok (.goto (-31), 3) := by decide +kernel
theorem dX9_lastHead_49 : decode cX9_lastHead 49 = .ok (.aload_n 0, 1) := by decide +kernel
theorem dX9_lastHead_50 : decode cX9_lastHead 50 = .ok (.getfield 7, 3) := by decide +kernel
theorem dX9_lastHead_53 : decode cX9_lastHead 53 = .ok (.iconst 0, 1) := by decide +kernel
theorem dX9_lastHead_54 : decode cX9_lastHead 54 = .ok (.iaload, 1) := by decide +kernel
theorem dX9_lastHead_55 : decode cX9_lastHead 55 = .ok (.iload_n 1, 1) := by decide +kernel
theorem dX9_lastHead_56 : decode cX9_lastHead 56 = .ok (.iadd, 1) := by decide +kernel
theorem dX9_lastHead_57 : decode cX9_lastHead 57 = .ok (.ireturn, 1) := by decide +kernel
set_option maxRecDepth 20000 in
theorem ggX9_count_X9_isIn : GoodIn wsX9_count wsX9_isIn := goodIn_r _ [6] (by decide +kernel) (by decide +kernel)
set_option maxRecDepth 20000 in
theorem gX9_count_X9_isIn : GoodIn wsX9_count (va_wsS RX9 56 yX9_isIn wsX9_isIn) := goodIn_app (goodIn_of _ (by decide +kernel)) ggX9_count_X9_isIn
set_option maxRecDepth 20000 in
theorem ggX9_count_X9_weights : GoodIn wsX9_count wsX9_weights := goodIn_r _ [10, 2, 19, 20, 21, 22, 23, 24, 25, 26, 27, 28, 29, 30, 31, 32, 33, 34, 35, 36, 37, 38, 39, 40] (by decide +kernel) (by decide +kernel)
set_option maxRecDepth 20000 in
theorem gX9_count_X9_weights : GoodIn wsX9_count (wsV RX9 234 RX9 yX9_weights wsX9_weights) := goodIn_app (goodIn_of _ (by decide +kernel)) ggX9_count_X9_weights
set_option maxRecDepth 20000 in
theorem ggX9_count_X9_lastHead : GoodIn wsX9_count wsX9_lastHead := goodIn_r _ [14, 2, 15, 16, 17, 18, 19, 20, 21, 22, 23, 24, 25, 26, 27, 28, 29, 30, 31, 32, 33, 34, 35, 36, 37, 38, 39, 40] (by decide +kernel) (by decide +kernel)
set_option maxRecDepth 20000 in
theorem gX9_count_X9_lastHead : GoodIn wsX9_count (wsV RX9 237 RX9 yX9_lastHead wsX9_lastHead) := goodIn_app (goodIn_of _ (by decide +kernel)) ggX9_count_X9_lastHead
theorem dX9_count_0 : decode cX9_count 0 = .ok (.aload_n 0, 1) := by decide +kernel
theorem dX9_count_1 : decode cX9_count 1 = .ok (.iload_n 1, 1) := by decide +kernel
theorem dX9_count_2 : decode cX9_count 2 = .ok (.iconst 0, 1) := by decide +kernel
theorem dX9_count_3 : decode cX9_count 3 = .ok (.bipush 8, 2) := by decide +kernel
theorem dX9_count_5 : decode cX9_count 5 = .ok (.invokestatic 56, 3) := by decide +kernel
theorem dX9_count_8 : decode cX9_count 8 = .ok (.ifCond .eq 7, 3) := by decide +kernel
theorem dX9_count_11 : decode cX9_count 11 = .ok (.iconst 0, 1) := by decide +kernel
theorem dX9_count_12 : decode cX9_count 12 = .ok (.goto 4, 3) := by decide +kernel
theorem dX9_count_15 : decode cX9_count 15 = .ok (.iconst 1, 1) := by decide +kernel
theorem dX9_count_16 : decode cX9_count 16 = .ok (.putfield 46, 3) := by decide +kernel
theorem dX9_count_19 : decode cX9_count 19 = .ok (.aload_n 0, 1) := by decide +kernel
theorem dX9_count_20 : decode cX9_count 20 = .ok (.getfield 46, 3) := by decide +kernel
theorem dX9_count_23 : decode cX9_count 23 = .ok (.ifCond .le 5, 3) := by decide +kernel
theorem dX9_count_26 : decode cX9_count 26 = .ok (.iconst 0, 1) := by decide +kernel
theorem dX9_count_27 : decode cX9_count 27 = .ok (.ireturn, 1) := by decide +kernel
theorem dX9_count_28 : decode cX9_count 28 = .ok (.iload_n 1, 1) := by decide +kernel
theorem dX9_count_29 : decode cX9_count 29 = .ok (.tableswitch 115 0 7 #[47, 54, 61, 68, 75, 82, 89, 102], 47) := by decide +kernel
theorem dX9_count_76 : decode cX9_count 76 = .ok (.aload_n 0, 1) := by decide +kernel
theorem dX9_count_77 : decode cX9_count 77 = .ok (.getfield 7, 3) := by decide +kernel
theorem dX9_count_80 : decode cX9_count 80 = .ok (.iconst 0, 1) := by decide +kernel
theorem dX9_count_81 : decode cX9_count 81 = .ok (.iaload, 1) := by decide +kernel
theorem dX9_count_82 : decode cX9_count 82 = .ok (.ireturn, 1) := by decide +kernel
theorem dX9_count_83 : decode cX9_count 83 = .ok (.aload_n 0, 1) := by decide +kernel
theorem dX9_count_84 : decode cX9_count 84 = .ok (.getfield 7, 3) := by decide +kernel
theorem dX9_count_87 : decode cX9_count 87 = .ok (.iconst 2, 1) := by decide +kernel
theorem dX9_count_88 : decode cX9_count 88 = .ok (.iaload, 1) := by decide +kernel
theorem dX9_count_89 : decode cX9_count 89 = .ok (.ireturn, 1) := by decide +kernel
theorem dX9_count_90 : decode cX9_count 90 = .ok (.aload_n 0, 1) := by decide +kernel
theorem dX9_count_91 : decode cX9_count 91 = .ok (.getfield 7, 3) := by decide +kernel
theorem dX9_count_94 : decode cX9_count 94 = .ok (.iconst 3, 1) := by decide +kernel
theorem dX9_count_95 : decode cX9_count 95 = .ok (.iaload, 1) := by decide +kernel
theorem dX9_count_96 : decode cX9_count 96 = .ok (.ireturn, 1) := by decide +kernel
theorem dX9_count_97 : decode cX9_count 97 = .ok (.aload_n 0, 1) := by decide +kernel
theorem dX9_count_98 : decode cX9_count 98 = .ok (.getfield 7, 3) := by decide +kernel
theorem dX9_count_101 : decode cX9_count 101 = .ok (.iconst 4, 1) := by decide +kernel
theorem dX9_count_102 : decode cX9_count 102 = .ok (.iaload, 1) := by decide +kernel
theorem dX9_count_103 : decode cX9_count 103 = .ok (.ireturn, 1) := by decide +kernel
theorem dX9_count_104 : decode cX9_count 104 = .ok (.aload_n 0, 1) := by decide +kernel
theorem dX9_count_105 : decode cX9_count 105 = .ok (.getfield 7, 3) := by decide +kernel
theorem dX9_count_108 : decode cX9_count 108 = .ok (.iconst 5, 1) := by decide +kernel
theorem dX9_count_109 : decode cX9_count 109 = .ok (.iaload, 1) := by decide +kernel
theorem dX9_count_110 : decode cX9_count 110 = .ok (.ireturn, 1) := by decide +kernel
theorem dX9_count_111 : decode cX9_count 111 = .ok (.aload_n 0, 1) := by decide +kernel
theorem dX9_count_112 : decode cX9_count 112 = .ok (.getfield 7, 3) := by decide +kernel
theorem dX9_count_115 : decode cX9_count 115 = .ok (.iconst 1, 1) := by decide +kernel
theorem dX9_count_116 : decode cX9_count 116 = .ok (.iaload, 1) := by decide +kernel
theorem dX9_count_117 : decode cX9_count 117 = .ok (.ireturn, 1) := by decide +kernel
theorem dX9_count_118 : decode cX9_count 118 = .ok (.aload_n 0, 1) := by decide +kernel
theorem dX9_count_119 : decode cX9_count 119 = .ok (.bipush 19, 2) := by decide +kernel
theorem dX9_count_121 : decode cX9_count 121 = .ok (.aload_n 0, 1) := by decide +kernel
theorem dX9_count_122 : decode cX9_count 122 = .ok (.getfield 7, 3) := by decide +kernel
theorem dX9_count_125 : decode cX9_count 125 = .ok (.iconst 4, 1) := by decide +kernel
theorem dX9_count_126 : decode cX9_count 126 = .ok (.iaload, 1) := by decide +kernel
theorem dX9_count_127 : decode cX9_count 127 = .ok (.invokevirtual 234, 3) := by decide +kernel
theorem dX9_count_130 : decode cX9_count 130 = .ok (.ireturn, 1) := by decide +kernel
theorem dX9_count_131 : decode cX9_count 131 = .ok (.aload_n 0, 1) := by decide +kernel
theorem dX9_count_132 : decode cX9_count 132 = .ok (.bipush 35, 2) := by decide +kernel
theorem dX9_count_134 : decode cX9_count 134 = .ok (.aload_n 0, 1) := by decide +kernel
theorem dX9_count_135 : decode cX9_count 135 = .ok (.getfield 7, 3) := by decide +kernel
theorem dX9_count_138 : decode cX9_count 138 = .ok (.iconst 5, 1) := by decide +kernel
theorem dX9_count_139 : decode cX9_count 139 = .ok (.iaload, 1) := by decide +kernel
theorem dX9_count_140 : decode cX9_count 140 = .ok (.invokevirtual 234, 3) := by decide +kernel
theorem dX9_count_143 : decode cX9_count 143 = .ok (.ireturn, 1) := by decide +kernel
theorem dX9_count_144 : decode cX9_count 144 = .ok (.aload_n 0, 1) := by decide +kernel
theorem dX9_count_145 : decode cX9_count 145 = .ok (.invokevirtual 237, 3) := by decide +kernel
theorem dX9_count_148 : decode cX9_count 148 = .ok (.ireturn, 1) := by decide +kernel
set_option maxRecDepth 20000 in
theorem ggX9_unit_X9_lays : GoodIn wsX9_unit wsX9_lays := goodIn_r _ [7, 8, 9, 2, 10, 11, 12, 6, 13, 14, 15, 16, 17, 18, 19, 20, 21, 22, 23, 24, 25, 26, 27, 28, 29, 30, 31, 32, 33, 34, 35, 36, 37, 38, 39, 40, 41, 42, 43, 44, 45, 46, 47, 48, 49, 50, 51, 52, 53, 54, 55, 56, 57, 58, 59, 60, 61, 62, 63, 64, 65, 66] (by decide +kernel) (by decide +kernel)
set_option maxRecDepth 20000 in
theorem gX9_unit_X9_lays : GoodIn wsX9_unit (wsV RX9 240 RX9 yX9_lays wsX9_lays) := goodIn_app (goodIn_of _ (by decide +kernel)) ggX9_unit_X9_lays
theorem dX9_unit_0 : decode cX9_unit 0 = .ok (.aload_n 0, 1) := by decide +kernel
theorem dX9_unit_1 : decode cX9_unit 1 = .ok (.iconst 0, 1) := by decide +kernel
theorem dX9_unit_2 : decode cX9_unit 2 = .ok (.putfield 46, 3) := by decide +kernel
theorem dX9_unit_5 : decode cX9_unit 5 = .ok (.aload_n 0, 1) := by decide +kernel
theorem dX9_unit_6 : decode cX9_unit 6 = .ok (.invokevirtual 240, 3) := by decide +kernel
theorem dX9_unit_9 : decode cX9_unit 9 = .ok (.aload_n 0, 1) := by decide +kernel
theorem dX9_unit_10 : decode cX9_unit 10 = .ok (.getfield 227, 3) := by decide +kernel
theorem dX9_unit_13 : decode cX9_unit 13 = .ok (.lreturn, 1) := by decide +kernel
set_option maxRecDepth 20000 in
theorem ggX9_isSupport_X9_isIn : GoodIn wsX9_isSupport wsX9_isIn := goodIn_r _ [5] (by decide +kernel) (by decide +kernel)
set_option maxRecDepth 20000 in
theorem gX9_isSupport_X9_isIn : GoodIn wsX9_isSupport (va_wsS RX9 56 yX9_isIn wsX9_isIn) := goodIn_app (goodIn_of _ (by decide +kernel)) ggX9_isSupport_X9_isIn
theorem dX9_isSupport_0 : decode cX9_isSupport 0 = .ok (.iload_n 1, 1) := by decide +kernel
theorem dX9_isSupport_1 : decode cX9_isSupport 1 = .ok (.iconst 0, 1) := by decide +kernel
theorem dX9_isSupport_2 : decode cX9_isSupport 2 = .ok (.aload_n 0, 1) := by decide +kernel
theorem dX9_isSupport_3 : decode cX9_isSupport 3 = .ok (.getfield 7, 3) := by decide +kernel
theorem dX9_isSupport_6 : decode cX9_isSupport 6 = .ok (.iconst 2, 1) := by decide +kernel
theorem dX9_isSupport_7 : decode cX9_isSupport 7 = .ok (.iaload, 1) := by decide +kernel
theorem dX9_isSupport_8 : decode cX9_isSupport 8 = .ok (.iconst 1, 1) := by decide +kernel
theorem dX9_isSupport_9 : decode cX9_isSupport 9 = .ok (.isub, 1) := by decide +kernel
theorem dX9_isSupport_10 : decode cX9_isSupport 10 = .ok (.invokestatic 56, 3) := by decide +kernel
theorem dX9_isSupport_13 : decode cX9_isSupport 13 = .ok (.ireturn, 1) := by decide +kernel
set_option maxRecDepth 20000 in
theorem ggX9_isHinge_X9_isIn : GoodIn wsX9_isHinge wsX9_isIn := goodIn_r _ [5] (by decide +kernel) (by decide +kernel)
set_option maxRecDepth 20000 in
theorem gX9_isHinge_X9_isIn : GoodIn wsX9_isHinge (va_wsS RX9 56 yX9_isIn wsX9_isIn) := goodIn_app (goodIn_of _ (by decide +kernel)) ggX9_isHinge_X9_isIn
theorem dX9_isHinge_0 : decode cX9_isHinge 0 = .ok (.iload_n 1, 1) := by decide +kernel
theorem dX9_isHinge_1 : decode cX9_isHinge 1 = .ok (.iconst 0, 1) := by decide +kernel
theorem dX9_isHinge_2 : decode cX9_isHinge 2 = .ok (.aload_n 0, 1) := by decide +kernel
theorem dX9_isHinge_3 : decode cX9_isHinge 3 = .ok (.getfield 7, 3) := by decide +kernel
theorem dX9_isHinge_6 : decode cX9_isHinge 6 = .ok (.iconst 3, 1) := by decide +kernel
theorem dX9_isHinge_7 : decode cX9_isHinge 7 = .ok (.iaload, 1) := by decide +kernel
theorem dX9_isHinge_8 : decode cX9_isHinge 8 = .ok (.iconst 1, 1) := by decide +kernel
theorem dX9_isHinge_9 : decode cX9_isHinge 9 = .ok (.isub, 1) := by decide +kernel
theorem dX9_isHinge_10 : decode cX9_isHinge 10 = .ok (.invokestatic 56, 3) := by decide +kernel
theorem dX9_isHinge_13 : decode cX9_isHinge 13 = .ok (.ireturn, 1) := by decide +kernel
set_option maxRecDepth 20000 in
theorem ggX9_isPlace_X9_isIn : GoodIn wsX9_isPlace wsX9_isIn := goodIn_r _ [5] (by decide +kernel) (by decide +kernel)
set_option maxRecDepth 20000 in
theorem gX9_isPlace_X9_isIn : GoodIn wsX9_isPlace (va_wsS RX9 56 yX9_isIn wsX9_isIn) := goodIn_app (goodIn_of _ (by decide +kernel)) ggX9_isPlace_X9_isIn
theorem dX9_isPlace_0 : decode cX9_isPlace 0 = .ok (.iload_n 1, 1) := by decide +kernel
theorem dX9_isPlace_1 : decode cX9_isPlace 1 = .ok (.iconst 0, 1) := by decide +kernel
theorem dX9_isPlace_2 : decode cX9_isPlace 2 = .ok (.aload_n 0, 1) := by decide +kernel
theorem dX9_isPlace_3 : decode cX9_isPlace 3 = .ok (.getfield 7, 3) := by decide +kernel
theorem dX9_isPlace_6 : decode cX9_isPlace 6 = .ok (.iconst 0, 1) := by decide +kernel
theorem dX9_isPlace_7 : decode cX9_isPlace 7 = .ok (.iaload, 1) := by decide +kernel
theorem dX9_isPlace_8 : decode cX9_isPlace 8 = .ok (.invokestatic 56, 3) := by decide +kernel
theorem dX9_isPlace_11 : decode cX9_isPlace 11 = .ok (.ireturn, 1) := by decide +kernel
set_option maxRecDepth 20000 in
theorem ggX9_isField_X9_isIn : GoodIn wsX9_isField wsX9_isIn := goodIn_r _ [5] (by decide +kernel) (by decide +kernel)
set_option maxRecDepth 20000 in
theorem gX9_isField_X9_isIn : GoodIn wsX9_isField (va_wsS RX9 56 yX9_isIn wsX9_isIn) := goodIn_app (goodIn_of _ (by decide +kernel)) ggX9_isField_X9_isIn
theorem dX9_isField_0 : decode cX9_isField 0 = .ok (.iload_n 1, 1) := by decide +kernel
theorem dX9_isField_1 : decode cX9_isField 1 = .ok (.iconst 0, 1) := by decide +kernel
theorem dX9_isField_2 : decode cX9_isField 2 = .ok (.aload_n 0, 1) := by decide +kernel
theorem dX9_isField_3 : decode cX9_isField 3 = .ok (.getfield 7, 3) := by decide +kernel
theorem dX9_isField_6 : decode cX9_isField 6 = .ok (.iconst 0, 1) := by decide +kernel
theorem dX9_isField_7 : decode cX9_isField 7 = .ok (.iaload, 1) := by decide +kernel
theorem dX9_isField_8 : decode cX9_isField 8 = .ok (.iconst 1, 1) := by decide +kernel
theorem dX9_isField_9 : decode cX9_isField 9 = .ok (.isub, 1) := by decide +kernel
theorem dX9_isField_10 : decode cX9_isField 10 = .ok (.invokestatic 56, 3) := by decide +kernel
theorem dX9_isField_13 : decode cX9_isField 13 = .ok (.ireturn, 1) := by decide +kernel
set_option maxRecDepth 20000 in
theorem ggX9_support_X9_isSupport : GoodIn wsX9_support wsX9_isSupport := goodIn_r _ [7, 2, 8, 9, 6, 10, 11, 12, 13, 14, 15, 16, 17, 18, 19, 20, 21, 22, 23, 24, 25, 26, 27, 28, 29, 30, 31, 32] (by decide +kernel) (by decide +kernel)
set_option maxRecDepth 20000 in
theorem gX9_support_X9_isSupport : GoodIn wsX9_support (wsV RX9 243 RX9 yX9_isSupport wsX9_isSupport) := goodIn_app (goodIn_of _ (by decide +kernel)) ggX9_support_X9_isSupport
set_option maxRecDepth 20000 in
theorem ggX9_support_X9_isIn : GoodIn wsX9_support wsX9_isIn := goodIn_r _ [10] (by decide +kernel) (by decide +kernel)
set_option maxRecDepth 20000 in
theorem gX9_support_X9_isIn : GoodIn wsX9_support (va_wsS RX9 56 yX9_isIn wsX9_isIn) := goodIn_app (goodIn_of _ (by decide +kernel)) ggX9_support_X9_isIn
theorem dX9_support_0 : decode cX9_support 0 = .ok (.aload_n 0, 1) := by decide +kernel
theorem dX9_support_1 : decode cX9_support 1 = .ok (.aload_n 0, 1) := by decide +kernel
theorem dX9_support_2 : decode cX9_support 2 = .ok (.iload_n 1, 1) := by decide +kernel
theorem dX9_support_3 : decode cX9_support 3 = .ok (.invokevirtual 243, 3) := by decide +kernel
theorem dX9_support_6 : decode cX9_support 6 = .ok (.ifCond .ne 7, 3) := by decide +kernel
theorem dX9_support_9 : decode cX9_support 9 = .ok (.iconst 1, 1) := by decide +kernel
theorem dX9_support_10 : decode cX9_support 10 = .ok (.goto 17, 3) := by decide +kernel
theorem dX9_support_13 : decode cX9_support 13 = .ok (.iload_n 2, 1) := by decide +kernel
theorem dX9_support_14 : decode cX9_support 14 = .ok (.iconst 0, 1) := by decide +kernel
theorem dX9_support_15 : decode cX9_support 15 = .ok (.iconst 1, 1) := by decide +kernel
theorem dX9_support_16 : decode cX9_support 16 = .ok (.invokestatic 56, 3) := by decide +kernel
theorem dX9_support_19 : decode cX9_support 19 = .ok (.ifCond .eq 7, 3) := by decide +kernel
theorem dX9_support_22 : decode cX9_support 22 = .ok (.iconst 0, 1) := by decide +kernel
theorem dX9_support_23 : decode cX9_support 23 = .ok (.goto 4, 3) := by decide +kernel
theorem dX9_support_26 : decode cX9_support 26 = .ok (.iconst 2, 1) := by decide +kernel
theorem dX9_support_27 : decode cX9_support 27 = .ok (.putfield 46, 3) := by decide +kernel
theorem dX9_support_30 : decode cX9_support 30 = .ok (.aload_n 0, 1) := by decide +kernel
theorem dX9_support_31 : decode cX9_support 31 = .ok (.getfield 46, 3) := by decide +kernel
theorem dX9_support_34 : decode cX9_support 34 = .ok (.ifCond .le 7, 3) := by decide +kernel
theorem dX9_support_37 : decode cX9_support 37 = .ok (.iconst 0, 1) := by decide +kernel
theorem dX9_support_38 : decode cX9_support 38 = .ok (.goto 16, 3) := by decide +kernel
theorem dX9_support_41 : decode cX9_support 41 = .ok (.aload_n 0, 1) := by decide +kernel
theorem dX9_support_42 : decode cX9_support 42 = .ok (.getfield 7, 3) := by decide +kernel
theorem dX9_support_45 : decode cX9_support 45 = .ok (.bipush 6, 2) := by decide +kernel
theorem dX9_support_47 : decode cX9_support 47 = .ok (.iconst 2, 1) := by decide +kernel
theorem dX9_support_48 : decode cX9_support 48 = .ok (.iload_n 1, 1) := by decide +kernel
theorem dX9_support_49 : decode cX9_support 49 = .ok (.imul, 1) := by decide +kernel
theorem dX9_support_50 : decode cX9_support 50 = .ok (.iadd, 1) := by decide +kernel
theorem dX9_support_51 : decode cX9_support 51 = .ok (.iload_n 2, 1) := by decide +kernel
theorem dX9_support_52 : decode cX9_support 52 = .ok (.iadd, 1) := by decide +kernel
theorem dX9_support_53 : decode cX9_support 53 = .ok (.iaload, 1) := by decide +kernel
theorem dX9_support_54 : decode cX9_support 54 = .ok (.ireturn, 1) := by decide +kernel
set_option maxRecDepth 20000 in
theorem ggX9_hinge_X9_isHinge : GoodIn wsX9_hinge wsX9_isHinge := goodIn_r _ [7, 2, 8, 9, 6, 10, 11, 12, 13, 14, 15, 16, 17, 18, 19, 20, 21, 22, 23, 24, 25, 26, 27, 28, 29, 30, 31, 32] (by decide +kernel) (by decide +kernel)
set_option maxRecDepth 20000 in
theorem gX9_hinge_X9_isHinge : GoodIn wsX9_hinge (wsV RX9 246 RX9 yX9_isHinge wsX9_isHinge) := goodIn_app (goodIn_of _ (by decide +kernel)) ggX9_hinge_X9_isHinge
theorem dX9_hinge_0 : decode cX9_hinge 0 = .ok (.aload_n 0, 1) := by decide +kernel
theorem dX9_hinge_1 : decode cX9_hinge 1 = .ok (.aload_n 0, 1) := by decide +kernel
theorem dX9_hinge_2 : decode cX9_hinge 2 = .ok (.iload_n 1, 1) := by decide +kernel
theorem dX9_hinge_3 : decode cX9_hinge 3 = .ok (.invokevirtual 246, 3) := by decide +kernel
theorem dX9_hinge_6 : decode cX9_hinge 6 = .ok (.ifCond .eq 7, 3) := by decide +kernel
theorem dX9_hinge_9 : decode cX9_hinge 9 = .ok (.iconst 0, 1) := by decide +kernel
theorem dX9_hinge_10 : decode cX9_hinge 10 = .ok (.goto 4, 3) := by decide +kernel
theorem dX9_hinge_13 : decode cX9_hinge 13 = .ok (.iconst 1, 1) := by decide +kernel
theorem dX9_hinge_14 : decode cX9_hinge 14 = .ok (.putfield 46, 3) := by decide +kernel
theorem dX9_hinge_17 : decode cX9_hinge 17 = .ok (.aload_n 0, 1) := by decide +kernel
theorem dX9_hinge_18 : decode cX9_hinge 18 = .ok (.getfield 46, 3) := by decide +kernel
theorem dX9_hinge_21 : decode cX9_hinge 21 = .ok (.ifCond .le 7, 3) := by decide +kernel
theorem dX9_hinge_24 : decode cX9_hinge 24 = .ok (.iconst 0, 1) := by decide +kernel
theorem dX9_hinge_25 : decode cX9_hinge 25 = .ok (.goto 12, 3) := by decide +kernel
theorem dX9_hinge_28 : decode cX9_hinge 28 = .ok (.aload_n 0, 1) := by decide +kernel
theorem dX9_hinge_29 : decode cX9_hinge 29 = .ok (.getfield 7, 3) := by decide +kernel
theorem dX9_hinge_32 : decode cX9_hinge 32 = .ok (.bipush 16, 2) := by decide +kernel
theorem dX9_hinge_34 : decode cX9_hinge 34 = .ok (.iload_n 1, 1) := by decide +kernel
theorem dX9_hinge_35 : decode cX9_hinge 35 = .ok (.iadd, 1) := by decide +kernel
theorem dX9_hinge_36 : decode cX9_hinge 36 = .ok (.iaload, 1) := by decide +kernel
theorem dX9_hinge_37 : decode cX9_hinge 37 = .ok (.ireturn, 1) := by decide +kernel
set_option maxRecDepth 20000 in
theorem ggX9_weight_X9_isIn : GoodIn wsX9_weight wsX9_isIn := goodIn_r _ [6] (by decide +kernel) (by decide +kernel)
set_option maxRecDepth 20000 in
theorem gX9_weight_X9_isIn : GoodIn wsX9_weight (va_wsS RX9 56 yX9_isIn wsX9_isIn) := goodIn_app (goodIn_of _ (by decide +kernel)) ggX9_weight_X9_isIn
theorem dX9_weight_0 : decode cX9_weight 0 = .ok (.aload_n 0, 1) := by decide +kernel
theorem dX9_weight_1 : decode cX9_weight 1 = .ok (.iload_n 1, 1) := by decide +kernel
theorem dX9_weight_2 : decode cX9_weight 2 = .ok (.iconst 0, 1) := by decide +kernel
theorem dX9_weight_3 : decode cX9_weight 3 = .ok (.aload_n 0, 1) := by decide +kernel
theorem dX9_weight_4 : decode cX9_weight 4 = .ok (.getfield 7, 3) := by decide +kernel
theorem dX9_weight_7 : decode cX9_weight 7 = .ok (.iconst 4, 1) := by decide +kernel
theorem dX9_weight_8 : decode cX9_weight 8 = .ok (.iaload, 1) := by decide +kernel
theorem dX9_weight_9 : decode cX9_weight 9 = .ok (.iconst 1, 1) := by decide +kernel
theorem dX9_weight_10 : decode cX9_weight 10 = .ok (.isub, 1) := by decide +kernel
theorem dX9_weight_11 : decode cX9_weight 11 = .ok (.invokestatic 56, 3) := by decide +kernel
theorem dX9_weight_14 : decode cX9_weight 14 = .ok (.ifCond .ne 7, 3) := by decide +kernel
theorem dX9_weight_17 : decode cX9_weight 17 = .ok (.iconst 1, 1) := by decide +kernel
theorem dX9_weight_18 : decode cX9_weight 18 = .ok (.goto 17, 3) := by decide +kernel
theorem dX9_weight_21 : decode cX9_weight 21 = .ok (.iload_n 2, 1) := by decide +kernel
theorem dX9_weight_22 : decode cX9_weight 22 = .ok (.iconst 0, 1) := by decide +kernel
theorem dX9_weight_23 : decode cX9_weight 23 = .ok (.iconst 1, 1) := by decide +kernel
theorem dX9_weight_24 : decode cX9_weight 24 = .ok (.invokestatic 56, 3) := by decide +kernel
theorem dX9_weight_27 : decode cX9_weight 27 = .ok (.ifCond .eq 7, 3) := by decide +kernel
theorem dX9_weight_30 : decode cX9_weight 30 = .ok (.iconst 0, 1) := by decide +kernel
theorem dX9_weight_31 : decode cX9_weight 31 = .ok (.goto 4, 3) := by decide +kernel
theorem dX9_weight_34 : decode cX9_weight 34 = .ok (.iconst 2, 1) := by decide +kernel
theorem dX9_weight_35 : decode cX9_weight 35 = .ok (.putfield 46, 3) := by decide +kernel
theorem dX9_weight_38 : decode cX9_weight 38 = .ok (.aload_n 0, 1) := by decide +kernel
theorem dX9_weight_39 : decode cX9_weight 39 = .ok (.getfield 46, 3) := by decide +kernel
theorem dX9_weight_42 : decode cX9_weight 42 = .ok (.ifCond .le 7, 3) := by decide +kernel
theorem dX9_weight_45 : decode cX9_weight 45 = .ok (.iconst 0, 1) := by decide +kernel
theorem dX9_weight_46 : decode cX9_weight 46 = .ok (.goto 16, 3) := by decide +kernel
theorem dX9_weight_49 : decode cX9_weight 49 = .ok (.aload_n 0, 1) := by decide +kernel
theorem dX9_weight_50 : decode cX9_weight 50 = .ok (.getfield 7, 3) := by decide +kernel
theorem dX9_weight_53 : decode cX9_weight 53 = .ok (.bipush 19, 2) := by decide +kernel
theorem dX9_weight_55 : decode cX9_weight 55 = .ok (.iconst 2, 1) := by decide +kernel
theorem dX9_weight_56 : decode cX9_weight 56 = .ok (.iload_n 1, 1) := by decide +kernel
theorem dX9_weight_57 : decode cX9_weight 57 = .ok (.imul, 1) := by decide +kernel
theorem dX9_weight_58 : decode cX9_weight 58 = .ok (.iadd, 1) := by decide +kernel
theorem dX9_weight_59 : decode cX9_weight 59 = .ok (.iload_n 2, 1) := by decide +kernel
theorem dX9_weight_60 : decode cX9_weight 60 = .ok (.iadd, 1) := by decide +kernel
theorem dX9_weight_61 : decode cX9_weight 61 = .ok (.iaload, 1) := by decide +kernel
theorem dX9_weight_62 : decode cX9_weight 62 = .ok (.ireturn, 1) := by decide +kernel
set_option maxRecDepth 20000 in
theorem ggX9_axle_X9_isIn : GoodIn wsX9_axle wsX9_isIn := goodIn_r _ [6] (by decide +kernel) (by decide +kernel)
set_option maxRecDepth 20000 in
theorem gX9_axle_X9_isIn : GoodIn wsX9_axle (va_wsS RX9 56 yX9_isIn wsX9_isIn) := goodIn_app (goodIn_of _ (by decide +kernel)) ggX9_axle_X9_isIn
theorem dX9_axle_0 : decode cX9_axle 0 = .ok (.aload_n 0, 1) := by decide +kernel
theorem dX9_axle_1 : decode cX9_axle 1 = .ok (.iload_n 1, 1) := by decide +kernel
theorem dX9_axle_2 : decode cX9_axle 2 = .ok (.iconst 0, 1) := by decide +kernel
theorem dX9_axle_3 : decode cX9_axle 3 = .ok (.aload_n 0, 1) := by decide +kernel
theorem dX9_axle_4 : decode cX9_axle 4 = .ok (.getfield 7, 3) := by decide +kernel
theorem dX9_axle_7 : decode cX9_axle 7 = .ok (.iconst 5, 1) := by decide +kernel
theorem dX9_axle_8 : decode cX9_axle 8 = .ok (.iaload, 1) := by decide +kernel
theorem dX9_axle_9 : decode cX9_axle 9 = .ok (.iconst 1, 1) := by decide +kernel
theorem dX9_axle_10 : decode cX9_axle 10 = .ok (.isub, 1) := by decide +kernel
theorem dX9_axle_11 : decode cX9_axle 11 = .ok (.invokestatic 56, 3) := by decide +kernel
theorem dX9_axle_14 : decode cX9_axle 14 = .ok (.ifCond .ne 7, 3) := by decide +kernel
theorem dX9_axle_17 : decode cX9_axle 17 = .ok (.iconst 1, 1) := by decide +kernel
theorem dX9_axle_18 : decode cX9_axle 18 = .ok (.goto 17, 3) := by decide +kernel
theorem dX9_axle_21 : decode cX9_axle 21 = .ok (.iload_n 2, 1) := by decide +kernel
theorem dX9_axle_22 : decode cX9_axle 22 = .ok (.iconst 0, 1) := by decide +kernel
theorem dX9_axle_23 : decode cX9_axle 23 = .ok (.iconst 1, 1) := by decide +kernel
theorem dX9_axle_24 : decode cX9_axle 24 = .ok (.invokestatic 56, 3) := by decide +kernel
theorem dX9_axle_27 : decode cX9_axle 27 = .ok (.ifCond .eq 7, 3) := by decide +kernel
theorem dX9_axle_30 : decode cX9_axle 30 = .ok (.iconst 0, 1) := by decide +kernel
theorem dX9_axle_31 : decode cX9_axle 31 = .ok (.goto 4, 3) := by decide +kernel
theorem dX9_axle_34 : decode cX9_axle 34 = .ok (.iconst 2, 1) := by decide +kernel
theorem dX9_axle_35 : decode cX9_axle 35 = .ok (.putfield 46, 3) := by decide +kernel
theorem dX9_axle_38 : decode cX9_axle 38 = .ok (.aload_n 0, 1) := by decide +kernel
theorem dX9_axle_39 : decode cX9_axle 39 = .ok (.getfield 46, 3) := by decide +kernel
theorem dX9_axle_42 : decode cX9_axle 42 = .ok (.ifCond .le 7, 3) := by decide +kernel
theorem dX9_axle_45 : decode cX9_axle 45 = .ok (.iconst 0, 1) := by decide +kernel
theorem dX9_axle_46 : decode cX9_axle 46 = .ok (.goto 16, 3) := by decide +kernel
theorem dX9_axle_49 : decode cX9_axle 49 = .ok (.aload_n 0, 1) := by decide +kernel
theorem dX9_axle_50 : decode cX9_axle 50 = .ok (.getfield 7, 3) := by decide +kernel
theorem dX9_axle_53 : decode cX9_axle 53 = .ok (.bipush 35, 2) := by decide +kernel
theorem dX9_axle_55 : decode cX9_axle 55 = .ok (.iconst 2, 1) := by decide +kernel
theorem dX9_axle_56 : decode cX9_axle 56 = .ok (.iload_n 1, 1) := by decide +kernel
theorem dX9_axle_57 : decode cX9_axle 57 = .ok (.imul, 1) := by decide +kernel
theorem dX9_axle_58 : decode cX9_axle 58 = .ok (.iadd, 1) := by decide +kernel
theorem dX9_axle_59 : decode cX9_axle 59 = .ok (.iload_n 2, 1) := by decide +kernel
theorem dX9_axle_60 : decode cX9_axle 60 = .ok (.iadd, 1) := by decide +kernel
theorem dX9_axle_61 : decode cX9_axle 61 = .ok (.iaload, 1) := by decide +kernel
theorem dX9_axle_62 : decode cX9_axle 62 = .ok (.ireturn, 1) := by decide +kernel
set_option maxRecDepth 20000 in
theorem ggX9_part_X9_isPlace : GoodIn wsX9_part wsX9_isPlace := goodIn_r _ [7, 2, 8, 9, 6, 10, 11, 12, 13, 14, 15, 16, 17, 18, 19, 20, 21, 22, 23, 24, 25, 26, 27, 28, 29, 30, 31, 32] (by decide +kernel) (by decide +kernel)
set_option maxRecDepth 20000 in
theorem gX9_part_X9_isPlace : GoodIn wsX9_part (wsV RX9 249 RX9 yX9_isPlace wsX9_isPlace) := goodIn_app (goodIn_of _ (by decide +kernel)) ggX9_part_X9_isPlace
theorem dX9_part_0 : decode cX9_part 0 = .ok (.aload_n 0, 1) := by decide +kernel
theorem dX9_part_1 : decode cX9_part 1 = .ok (.aload_n 0, 1) := by decide +kernel
theorem dX9_part_2 : decode cX9_part 2 = .ok (.iload_n 1, 1) := by decide +kernel
theorem dX9_part_3 : decode cX9_part 3 = .ok (.invokevirtual 249, 3) := by decide +kernel
theorem dX9_part_6 : decode cX9_part 6 = .ok (.ifCond .eq 7, 3) := by decide +kernel
theorem dX9_part_9 : decode cX9_part 9 = .ok (.iconst 0, 1) := by decide +kernel
theorem dX9_part_10 : decode cX9_part 10 = .ok (.goto 4, 3) := by decide +kernel
theorem dX9_part_13 : decode cX9_part 13 = .ok (.iconst 1, 1) := by decide +kernel
theorem dX9_part_14 : decode cX9_part 14 = .ok (.putfield 46, 3) := by decide +kernel
theorem dX9_part_17 : decode cX9_part 17 = .ok (.aload_n 0, 1) := by decide +kernel
theorem dX9_part_18 : decode cX9_part 18 = .ok (.getfield 46, 3) := by decide +kernel
theorem dX9_part_21 : decode cX9_part 21 = .ok (.ifCond .le 5, 3) := by decide +kernel
theorem dX9_part_24 : decode cX9_part 24 = .ok (.iconst 0, 1) := by decide +kernel
theorem dX9_part_25 : decode cX9_part 25 = .ok (.ireturn, 1) := by decide +kernel
theorem dX9_part_26 : decode cX9_part 26 = .ok (.iconst 0, 1) := by decide +kernel
theorem dX9_part_27 : decode cX9_part 27 = .ok (.istore_n 2, 1) := by decide +kernel
theorem dX9_part_28 : decode cX9_part 28 = .ok (.iconst 0, 1) := by decide +kernel
theorem dX9_part_29 : decode cX9_part 29 = .ok (.istore_n 3, 1) := by decide +kernel
theorem dX9_part_30 : decode cX9_part 30 = .ok (.iload_n 3, 1) := by decide +kernel
theorem dX9_part_31 : decode cX9_part 31 = .ok (.aload_n 0, 1) := by decide +kernel
theorem dX9_part_32 : decode cX9_part 32 = .ok (.getfield 7, 3) := by decide +kernel
theorem dX9_part_35 : decode cX9_part 35 = .ok (.iconst 3, 1) := by decide +kernel
theorem dX9_part_36 : decode cX9_part 36 = .ok (.iaload, 1) := by decide +kernel
theorem dX9_part_37 : decode cX9_part 37 = .ok (.if_icmp .ge 30, 3) := by decide +kernel
theorem dX9_part_40 : decode cX9_part 40 = .ok (.iload_n 2, 1) := by decide +kernel
theorem dX9_part_41 : decode cX9_part 41 = .ok (.aload_n 0, 1) := by decide +kernel
theorem dX9_part_42 : decode cX9_part 42 = .ok (.getfield 7, 3) := by decide +kernel
theorem dX9_part_45 : decode cX9_part 45 = .ok (.bipush 16, 2) := by decide +kernel
theorem dX9_part_47 : decode cX9_part 47 = .ok (.iload_n 3, 1) := by decide +kernel
theorem dX9_part_48 : decode cX9_part 48 = .ok (.iadd, 1) := by decide +kernel
theorem dX9_part_49 : decode cX9_part 49 = .ok (.iaload, 1) := by decide +kernel
theorem dX9_part_50 : decode cX9_part 50 = .ok (.iload_n 1, 1) := by decide +kernel
theorem dX9_part_51 : decode cX9_part 51 = .ok (.if_icmp .gt 7, 3) := by decide +kernel
theorem dX9_part_54 : decode cX9_part 54 = .ok (.iconst 1, 1) := by decide +kernel
theorem dX9_part_55 : decode cX9_part 55 = .ok (.goto 4, 3) := by decide +kernel
theorem dX9_part_58 : decode cX9_part 58 = .ok (.iconst 0, 1) := by decide +kernel
theorem dX9_part_59 : decode cX9_part 59 = .ok (.iadd, 1) := by decide +kernel
theorem dX9_part_60 : decode cX9_part 60 = .ok (.istore_n 2, 1) := by decide +kernel
theorem dX9_part_61 : decode cX9_part 61 = .ok (.iinc 3 1, 3) := by decide +kernel
theorem dX9_part_64 : decode cX9_part 64 = .ok (.goto (-34), 3) := by decide +kernel
theorem dX9_part_67 : decode cX9_part 67 = .ok (.iload_n 2, 1) := by decide +kernel
theorem dX9_part_68 : decode cX9_part 68 = .ok (.ireturn, 1) := by decide +kernel
set_option maxRecDepth 20000 in
theorem ggX9_reactionLine_X9_isSupport : GoodIn wsX9_reactionLine wsX9_isSupport := goodIn_r _ [6, 7, 8, 9, 5, 10, 60, 61, 62, 63, 64, 65, 66, 67, 68, 69, 70, 71, 72, 73, 74, 75, 76, 77, 78, 79, 80, 81] (by decide +kernel) (by decide +kernel)
set_option maxRecDepth 20000 in
theorem gX9_reactionLine_X9_isSupport : GoodIn wsX9_reactionLine (wsV RX9 243 RX9 yX9_isSupport wsX9_isSupport) := goodIn_app (goodIn_of _ (by decide +kernel)) ggX9_reactionLine_X9_isSupport
set_option maxRecDepth 20000 in
theorem ggX9_reactionLine_X9_isPlace : GoodIn wsX9_reactionLine wsX9_isPlace := goodIn_r _ [14, 7, 8, 9, 5, 10, 60, 61, 62, 63, 64, 65, 66, 67, 68, 69, 70, 71, 72, 73, 74, 75, 76, 77, 78, 79, 80, 81] (by decide +kernel) (by decide +kernel)
set_option maxRecDepth 20000 in
theorem gX9_reactionLine_X9_isPlace : GoodIn wsX9_reactionLine (wsV RX9 249 RX9 yX9_isPlace wsX9_isPlace) := goodIn_app (goodIn_of _ (by decide +kernel)) ggX9_reactionLine_X9_isPlace
set_option maxRecDepth 20000 in
theorem ggX9_reactionLine_X9_lays : GoodIn wsX9_reactionLine wsX9_lays := goodIn_r _ [18, 7, 19, 20, 21, 22, 23, 5, 24, 25, 26, 27, 28, 29, 30, 31, 32, 33, 34, 35, 36, 37, 38, 39, 40, 41, 42, 43, 44, 45, 46, 47, 48, 49, 50, 51, 52, 53, 54, 55, 60, 61, 62, 63, 64, 65, 66, 67, 68, 69, 70, 71, 72, 73, 74, 75, 76, 77, 78, 79, 80, 81] (by decide +kernel) (by decide +kernel)
set_option maxRecDepth 20000 in
theorem gX9_reactionLine_X9_lays : GoodIn wsX9_reactionLine (wsV RX9 240 RX9 yX9_lays wsX9_lays) := goodIn_app (goodIn_of _ (by decide +kernel)) ggX9_reactionLine_X9_lays
set_option maxRecDepth 20000 in
theorem ggX9_reactionLine_X9_reactionBy : GoodIn wsX9_reactionLine wsX9_reactionBy := goodIn_r _ [59, 19, 60, 61, 62, 63, 64, 65, 66, 67, 68, 69, 70, 71, 72, 73, 74, 75, 76, 77, 78, 79, 80, 81] (by decide +kernel) (by decide +kernel)
set_option maxRecDepth 20000 in
theorem gX9_reactionLine_X9_reactionBy : GoodIn wsX9_reactionLine (wsV RX9 231 RX9 yX9_reactionBy wsX9_reactionBy) := goodIn_app (goodIn_of _ (by decide +kernel)) ggX9_reactionLine_X9_reactionBy
theorem dX9_reactionLine_0 : decode cX9_reactionLine 0 = .ok (.aload_n 0, 1) := by decide +kernel
theorem dX9_reactionLine_1 : decode cX9_reactionLine 1 = .ok (.aload_n 0, 1) := by decide +kernel
theorem dX9_reactionLine_2 : decode cX9_reactionLine 2 = .ok (.iload_n 1, 1) := by decide +kernel
theorem dX9_reactionLine_3 : decode cX9_reactionLine 3 = .ok (.invokevirtual 243, 3) := by decide +kernel
theorem dX9_reactionLine_6 : decode cX9_reactionLine 6 = .ok (.ifCond .eq 15, 3) := by decide +kernel
theorem dX9_reactionLine_9 : decode cX9_reactionLine 9 = .ok (.aload_n 0, 1) := by decide +kernel
theorem dX9_reactionLine_10 : decode cX9_reactionLine 10 = .ok (.iload_n 2, 1) := by decide +kernel
theorem dX9_reactionLine_11 : decode cX9_reactionLine 11 = .ok (.invokevirtual 249, 3) := by decide +kernel
theorem dX9_reactionLine_14 : decode cX9_reactionLine 14 = .ok (.ifCond .eq 7, 3) := by decide +kernel
theorem dX9_reactionLine_17 : decode cX9_reactionLine 17 = .ok (.iconst 0, 1) := by decide +kernel
theorem dX9_reactionLine_18 : decode cX9_reactionLine 18 = .ok (.goto 4, 3) := by decide +kernel
theorem dX9_reactionLine_21 : decode cX9_reactionLine 21 = .ok (.iconst 1, 1) := by decide +kernel
theorem dX9_reactionLine_22 : decode cX9_reactionLine 22 = .ok (.putfield 46, 3) := by decide +kernel
theorem dX9_reactionLine_25 : decode cX9_reactionLine 25 = .ok (.aload_n 0, 1) := by decide +kernel
theorem dX9_reactionLine_26 : decode cX9_reactionLine 26 = .ok (.getfield 46, 3) := by decide +kernel
theorem dX9_reactionLine_29 : decode cX9_reactionLine 29 = .ok (.ifCond .le 5, 3) := by decide +kernel
theorem dX9_reactionLine_32 : decode cX9_reactionLine 32 = .ok (.lconst 0, 1) := by decide +kernel
theorem dX9_reactionLine_33 : decode cX9_reactionLine 33 = .ok (.lreturn, 1) := by decide +kernel
theorem dX9_reactionLine_34 : decode cX9_reactionLine 34 = .ok (.aload_n 0, 1) := by decide +kernel
theorem dX9_reactionLine_35 : decode cX9_reactionLine 35 = .ok (.invokevirtual 240, 3) := by decide +kernel
theorem dX9_reactionLine_38 : decode cX9_reactionLine 38 = .ok (.aload_n 0, 1) := by decide +kernel
theorem dX9_reactionLine_39 : decode cX9_reactionLine 39 = .ok (.iload_n 1, 1) := by decide +kernel
theorem dX9_reactionLine_40 : decode cX9_reactionLine 40 = .ok (.iload_n 2, 1) := by decide +kernel
theorem dX9_reactionLine_41 : decode cX9_reactionLine 41 = .ok (.invokevirtual 231, 3) := by decide +kernel
theorem dX9_reactionLine_44 : decode cX9_reactionLine 44 = .ok (.lreturn, 1) := by decide +kernel
set_option maxRecDepth 20000 in
theorem ggX9_shearLine_X9_isField : GoodIn wsX9_shearLine wsX9_isField := goodIn_r _ [6, 7, 8, 9, 5, 10, 64, 65, 66, 67, 68, 69, 70, 71, 72, 73, 74, 75, 76, 77, 78, 79, 80, 81, 82, 83, 84, 85] (by decide +kernel) (by decide +kernel)
set_option maxRecDepth 20000 in
theorem gX9_shearLine_X9_isField : GoodIn wsX9_shearLine (wsV RX9 252 RX9 yX9_isField wsX9_isField) := goodIn_app (goodIn_of _ (by decide +kernel)) ggX9_shearLine_X9_isField
set_option maxRecDepth 20000 in
theorem ggX9_shearLine_X9_isPlace : GoodIn wsX9_shearLine wsX9_isPlace := goodIn_r _ [14, 7, 8, 9, 5, 10, 64, 65, 66, 67, 68, 69, 70, 71, 72, 73, 74, 75, 76, 77, 78, 79, 80, 81, 82, 83, 84, 85] (by decide +kernel) (by decide +kernel)
set_option maxRecDepth 20000 in
theorem gX9_shearLine_X9_isPlace : GoodIn wsX9_shearLine (wsV RX9 249 RX9 yX9_isPlace wsX9_isPlace) := goodIn_app (goodIn_of _ (by decide +kernel)) ggX9_shearLine_X9_isPlace
set_option maxRecDepth 20000 in
theorem ggX9_shearLine_X9_lays : GoodIn wsX9_shearLine wsX9_lays := goodIn_r _ [18, 7, 19, 20, 21, 22, 23, 5, 24, 25, 26, 27, 28, 29, 30, 31, 32, 33, 34, 35, 36, 37, 38, 39, 40, 41, 42, 43, 44, 45, 46, 47, 48, 49, 50, 51, 52, 53, 54, 55, 64, 65, 66, 67, 68, 69, 70, 71, 72, 73, 74, 75, 76, 77, 78, 79, 80, 81, 82, 83, 84, 85] (by decide +kernel) (by decide +kernel)
set_option maxRecDepth 20000 in
theorem gX9_shearLine_X9_lays : GoodIn wsX9_shearLine (wsV RX9 240 RX9 yX9_lays wsX9_lays) := goodIn_app (goodIn_of _ (by decide +kernel)) ggX9_shearLine_X9_lays
set_option maxRecDepth 20000 in
theorem ggX9_shearLine_X9_shearBy : GoodIn wsX9_shearLine wsX9_shearBy := goodIn_r _ [59, 20, 7, 26, 27, 28, 5, 29, 60, 61, 62, 63, 19, 64, 65, 66, 67, 68, 69, 70, 71, 72, 73, 74, 75, 76, 77, 78, 79, 80, 81, 82, 83, 84, 85] (by decide +kernel) (by decide +kernel)
set_option maxRecDepth 20000 in
theorem gX9_shearLine_X9_shearBy : GoodIn wsX9_shearLine (wsV RX9 255 RX9 yX9_shearBy wsX9_shearBy) := goodIn_app (goodIn_of _ (by decide +kernel)) ggX9_shearLine_X9_shearBy
theorem dX9_shearLine_0 : decode cX9_shearLine 0 = .ok (.aload_n 0, 1) := by decide +kernel
theorem dX9_shearLine_1 : decode cX9_shearLine 1 = .ok (.aload_n 0, 1) := by decide +kernel
theorem dX9_shearLine_2 : decode cX9_shearLine 2 = .ok (.iload_n 1, 1) := by decide +kernel
theorem dX9_shearLine_3 : decode cX9_shearLine 3 = .ok (.invokevirtual 252, 3) := by decide +kernel
theorem dX9_shearLine_6 : decode cX9_shearLine 6 = .ok (.ifCond .eq 15, 3) := by decide +kernel
theorem dX9_shearLine_9 : decode cX9_shearLine 9 = .ok (.aload_n 0, 1) := by decide +kernel
theorem dX9_shearLine_10 : decode cX9_shearLine 10 = .ok (.iload_n 2, 1) := by decide +kernel
theorem dX9_shearLine_11 : decode cX9_shearLine 11 = .ok (.invokevirtual 249, 3) := by decide +kernel
theorem dX9_shearLine_14 : decode cX9_shearLine 14 = .ok (.ifCond .eq 7, 3) := by decide +kernel
theorem dX9_shearLine_17 : decode cX9_shearLine 17 = .ok (.iconst 0, 1) := by decide +kernel
theorem dX9_shearLine_18 : decode cX9_shearLine 18 = .ok (.goto 4, 3) := by decide +kernel
theorem dX9_shearLine_21 : decode cX9_shearLine 21 = .ok (.iconst 1, 1) := by decide +kernel
theorem dX9_shearLine_22 : decode cX9_shearLine 22 = .ok (.putfield 46, 3) := by decide +kernel
theorem dX9_shearLine_25 : decode cX9_shearLine 25 = .ok (.aload_n 0, 1) := by decide +kernel
theorem dX9_shearLine_26 : decode cX9_shearLine 26 = .ok (.getfield 46, 3) := by decide +kernel
theorem dX9_shearLine_29 : decode cX9_shearLine 29 = .ok (.ifCond .le 5, 3) := by decide +kernel
theorem dX9_shearLine_32 : decode cX9_shearLine 32 = .ok (.lconst 0, 1) := by decide +kernel
theorem dX9_shearLine_33 : decode cX9_shearLine 33 = .ok (.lreturn, 1) := by decide +kernel
theorem dX9_shearLine_34 : decode cX9_shearLine 34 = .ok (.aload_n 0, 1) := by decide +kernel
theorem dX9_shearLine_35 : decode cX9_shearLine 35 = .ok (.invokevirtual 240, 3) := by decide +kernel
theorem dX9_shearLine_38 : decode cX9_shearLine 38 = .ok (.aload_n 0, 1) := by decide +kernel
theorem dX9_shearLine_39 : decode cX9_shearLine 39 = .ok (.iload_n 1, 1) := by decide +kernel
theorem dX9_shearLine_40 : decode cX9_shearLine 40 = .ok (.iload_n 2, 1) := by decide +kernel
theorem dX9_shearLine_41 : decode cX9_shearLine 41 = .ok (.invokevirtual 255, 3) := by decide +kernel
theorem dX9_shearLine_44 : decode cX9_shearLine 44 = .ok (.lreturn, 1) := by decide +kernel
set_option maxRecDepth 20000 in
theorem ggX9_momentLine_X9_isPlace : GoodIn wsX9_momentLine wsX9_isPlace := goodIn_r _ [6, 7, 8, 9, 5, 10, 60, 61, 62, 63, 64, 65, 66, 67, 68, 69, 70, 71, 72, 73, 74, 75, 76, 77, 78, 79, 80, 81] (by decide +kernel) (by decide +kernel)
set_option maxRecDepth 20000 in
theorem gX9_momentLine_X9_isPlace : GoodIn wsX9_momentLine (wsV RX9 249 RX9 yX9_isPlace wsX9_isPlace) := goodIn_app (goodIn_of _ (by decide +kernel)) ggX9_momentLine_X9_isPlace
set_option maxRecDepth 20000 in
theorem ggX9_momentLine_X9_lays : GoodIn wsX9_momentLine wsX9_lays := goodIn_r _ [14, 7, 15, 16, 17, 18, 19, 5, 20, 21, 22, 23, 24, 25, 26, 27, 28, 29, 30, 31, 32, 33, 34, 35, 36, 37, 38, 39, 40, 41, 42, 43, 44, 45, 46, 47, 48, 49, 50, 51, 60, 61, 62, 63, 64, 65, 66, 67, 68, 69, 70, 71, 72, 73, 74, 75, 76, 77, 78, 79, 80, 81] (by decide +kernel) (by decide +kernel)
set_option maxRecDepth 20000 in
theorem gX9_momentLine_X9_lays : GoodIn wsX9_momentLine (wsV RX9 240 RX9 yX9_lays wsX9_lays) := goodIn_app (goodIn_of _ (by decide +kernel)) ggX9_momentLine_X9_lays
set_option maxRecDepth 20000 in
theorem ggX9_momentLine_X9_momentBy : GoodIn wsX9_momentLine wsX9_momentBy := goodIn_r _ [55, 16, 7, 22, 23, 24, 5, 25, 56, 57, 58, 59, 15, 60, 61, 62, 63, 64, 65, 66, 67, 68, 69, 70, 71, 72, 73, 74, 75, 76, 77, 78, 79, 80, 81] (by decide +kernel) (by decide +kernel)
set_option maxRecDepth 20000 in
theorem gX9_momentLine_X9_momentBy : GoodIn wsX9_momentLine (wsV RX9 258 RX9 yX9_momentBy wsX9_momentBy) := goodIn_app (goodIn_of _ (by decide +kernel)) ggX9_momentLine_X9_momentBy
theorem dX9_momentLine_0 : decode cX9_momentLine 0 = .ok (.aload_n 0, 1) := by decide +kernel
theorem dX9_momentLine_1 : decode cX9_momentLine 1 = .ok (.aload_n 0, 1) := by decide +kernel
theorem dX9_momentLine_2 : decode cX9_momentLine 2 = .ok (.iload_n 1, 1) := by decide +kernel
theorem dX9_momentLine_3 : decode cX9_momentLine 3 = .ok (.invokevirtual 249, 3) := by decide +kernel
theorem dX9_momentLine_6 : decode cX9_momentLine 6 = .ok (.ifCond .eq 15, 3) := by decide +kernel
theorem dX9_momentLine_9 : decode cX9_momentLine 9 = .ok (.aload_n 0, 1) := by decide +kernel
theorem dX9_momentLine_10 : decode cX9_momentLine 10 = .ok (.iload_n 2, 1) := by decide +kernel
theorem dX9_momentLine_11 : decode cX9_momentLine 11 = .ok (.invokevirtual 249, 3) := by decide +kernel
theorem dX9_momentLine_14 : decode cX9_momentLine 14 = .ok (.ifCond .eq 7, 3) := by decide +kernel
theorem dX9_momentLine_17 : decode cX9_momentLine 17 = .ok (.iconst 0, 1) := by decide +kernel
theorem dX9_momentLine_18 : decode cX9_momentLine 18 = .ok (.goto 4, 3) := by decide +kernel
theorem dX9_momentLine_21 : decode cX9_momentLine 21 = .ok (.iconst 1, 1) := by decide +kernel
theorem dX9_momentLine_22 : decode cX9_momentLine 22 = .ok (.putfield 46, 3) := by decide +kernel
theorem dX9_momentLine_25 : decode cX9_momentLine 25 = .ok (.aload_n 0, 1) := by decide +kernel
theorem dX9_momentLine_26 : decode cX9_momentLine 26 = .ok (.getfield 46, 3) := by decide +kernel
theorem dX9_momentLine_29 : decode cX9_momentLine 29 = .ok (.ifCond .le 5, 3) := by decide +kernel
theorem dX9_momentLine_32 : decode cX9_momentLine 32 = .ok (.lconst 0, 1) := by decide +kernel
theorem dX9_momentLine_33 : decode cX9_momentLine 33 = .ok (.lreturn, 1) := by decide +kernel
theorem dX9_momentLine_34 : decode cX9_momentLine 34 = .ok (.aload_n 0, 1) := by decide +kernel
theorem dX9_momentLine_35 : decode cX9_momentLine 35 = .ok (.invokevirtual 240, 3) := by decide +kernel
theorem dX9_momentLine_38 : decode cX9_momentLine 38 = .ok (.aload_n 0, 1) := by decide +kernel
theorem dX9_momentLine_39 : decode cX9_momentLine 39 = .ok (.iload_n 1, 1) := by decide +kernel
theorem dX9_momentLine_40 : decode cX9_momentLine 40 = .ok (.iload_n 2, 1) := by decide +kernel
theorem dX9_momentLine_41 : decode cX9_momentLine 41 = .ok (.invokevirtual 258, 3) := by decide +kernel
theorem dX9_momentLine_44 : decode cX9_momentLine 44 = .ok (.lreturn, 1) := by decide +kernel
set_option maxRecDepth 20000 in
theorem ggX9_area_X9_isPlace : GoodIn wsX9_area wsX9_isPlace := goodIn_r _ [6, 7, 8, 9, 5, 10, 60, 61, 62, 63, 64, 65, 66, 67, 68, 69, 70, 71, 72, 73, 74, 75, 76, 77, 78, 79, 80, 81] (by decide +kernel) (by decide +kernel)
set_option maxRecDepth 20000 in
theorem gX9_area_X9_isPlace : GoodIn wsX9_area (wsV RX9 249 RX9 yX9_isPlace wsX9_isPlace) := goodIn_app (goodIn_of _ (by decide +kernel)) ggX9_area_X9_isPlace
set_option maxRecDepth 20000 in
theorem ggX9_area_X9_lays : GoodIn wsX9_area wsX9_lays := goodIn_r _ [14, 7, 15, 16, 17, 18, 19, 5, 20, 21, 22, 23, 24, 25, 26, 27, 28, 29, 30, 31, 32, 33, 34, 35, 36, 37, 38, 39, 40, 41, 42, 43, 44, 45, 46, 47, 48, 49, 50, 51, 60, 61, 62, 63, 64, 65, 66, 67, 68, 69, 70, 71, 72, 73, 74, 75, 76, 77, 78, 79, 80, 81] (by decide +kernel) (by decide +kernel)
set_option maxRecDepth 20000 in
theorem gX9_area_X9_lays : GoodIn wsX9_area (wsV RX9 240 RX9 yX9_lays wsX9_lays) := goodIn_app (goodIn_of _ (by decide +kernel)) ggX9_area_X9_lays
set_option maxRecDepth 20000 in
theorem ggX9_area_X9_places : GoodIn wsX9_area wsX9_places := goodIn_r _ [48, 7, 60, 61, 62, 63, 64, 65, 66, 67, 68, 69, 70, 71, 72, 73, 74, 75, 76, 77, 78, 79, 80, 81] (by decide +kernel) (by decide +kernel)
set_option maxRecDepth 20000 in
theorem gX9_area_X9_places : GoodIn wsX9_area (wsV RX9 220 RX9 yX9_places wsX9_places) := goodIn_app (goodIn_of _ (by decide +kernel)) ggX9_area_X9_places
set_option maxRecDepth 20000 in
theorem ggX9_area_X9_momentBy : GoodIn wsX9_area wsX9_momentBy := goodIn_r _ [55, 16, 7, 22, 23, 24, 5, 25, 56, 57, 58, 59, 15, 60, 61, 62, 63, 64, 65, 66, 67, 68, 69, 70, 71, 72, 73, 74, 75, 76, 77, 78, 79, 80, 81] (by decide +kernel) (by decide +kernel)
set_option maxRecDepth 20000 in
theorem gX9_area_X9_momentBy : GoodIn wsX9_area (wsV RX9 258 RX9 yX9_momentBy wsX9_momentBy) := goodIn_app (goodIn_of _ (by decide +kernel)) ggX9_area_X9_momentBy
theorem dX9_area_0 : decode cX9_area 0 = .ok (.aload_n 0, 1) := by decide +kernel
theorem dX9_area_1 : decode cX9_area 1 = .ok (.aload_n 0, 1) := by decide +kernel
theorem dX9_area_2 : decode cX9_area 2 = .ok (.iload_n 1, 1) := by decide +kernel
theorem dX9_area_3 : decode cX9_area 3 = .ok (.invokevirtual 249, 3) := by decide +kernel
theorem dX9_area_6 : decode cX9_area 6 = .ok (.ifCond .eq 7, 3) := by decide +kernel
theorem dX9_area_9 : decode cX9_area 9 = .ok (.iconst 0, 1) := by decide +kernel
theorem dX9_area_10 : decode cX9_area 10 = .ok (.goto 4, 3) := by decide +kernel
theorem dX9_area_13 : decode cX9_area 13 = .ok (.iconst 1, 1) := by decide +kernel
theorem dX9_area_14 : decode cX9_area 14 = .ok (.putfield 46, 3) := by decide +kernel
theorem dX9_area_17 : decode cX9_area 17 = .ok (.aload_n 0, 1) := by decide +kernel
theorem dX9_area_18 : decode cX9_area 18 = .ok (.getfield 46, 3) := by decide +kernel
theorem dX9_area_21 : decode cX9_area 21 = .ok (.ifCond .le 5, 3) := by decide +kernel
theorem dX9_area_24 : decode cX9_area 24 = .ok (.lconst 0, 1) := by decide +kernel
theorem dX9_area_25 : decode cX9_area 25 = .ok (.lreturn, 1) := by decide +kernel
theorem dX9_area_26 : decode cX9_area 26 = .ok (.aload_n 0, 1) := by decide +kernel
theorem dX9_area_27 : decode cX9_area 27 = .ok (.invokevirtual 240, 3) := by decide +kernel
theorem dX9_area_30 : decode cX9_area 30 = .ok (.lconst 0, 1) := by decide +kernel
theorem dX9_area_31 : decode cX9_area 31 = .ok (.lstore_n 2, 1) := by decide +kernel
theorem dX9_area_32 : decode cX9_area 32 = .ok (.iconst 0, 1) := by decide +kernel
theorem dX9_area_33 : decode cX9_area 33 = .ok (.istore 4, 2) := by decide +kernel
theorem dX9_area_35 : decode cX9_area 35 = .ok (.iload 4, 2) := by decide +kernel
theorem dX9_area_37 : decode cX9_area 37 = .ok (.aload_n 0, 1) := by decide +kernel
theorem dX9_area_38 : decode cX9_area 38 = .ok (.invokevirtual 220, 3) := by decide +kernel
theorem dX9_area_41 : decode cX9_area 41 = .ok (.if_icmp .ge 19, 3) := by decide +kernel
theorem dX9_area_44 : decode cX9_area 44 = .ok (.lload_n 2, 1) := by decide +kernel
theorem dX9_area_45 : decode cX9_area 45 = .ok (.aload_n 0, 1) := by decide +kernel
theorem dX9_area_46 : decode cX9_area 46 = .ok (.iload_n 1, 1) := by decide +kernel
theorem dX9_area_47 : decode cX9_area 47 = .ok (.iload 4, 2) := by decide +kernel
theorem dX9_area_49 : decode cX9_area 49 = .ok (.invokevirtual 258, 3) := by decide +kernel
theorem dX9_area_52 : decode cX9_area 52 = .ok (.ladd, 1) := by decide +kernel
theorem dX9_area_53 : decode cX9_area 53 = .ok (.lstore_n 2, 1) := by decide +kernel
theorem dX9_area_54 : decode cX9_area 54 = .ok (.iinc 4 1, 3) := by decide +kernel
theorem dX9_area_57 : decode cX9_area 57 = .ok (.goto (-22), 3) := by decide +kernel
theorem dX9_area_60 : decode cX9_area 60 = .ok (.lload_n 2, 1) := by decide +kernel
theorem dX9_area_61 : decode cX9_area 61 = .ok (.lreturn, 1) := by decide +kernel
set_option maxRecDepth 20000 in
theorem ggX9_still_X9_isPlace : GoodIn wsX9_still wsX9_isPlace := goodIn_r _ [6, 7, 8, 9, 5, 10, 60, 61, 62, 63, 64, 65, 66, 67, 68, 69, 70, 71, 72, 73, 74, 75, 76, 77, 78, 79, 80, 81] (by decide +kernel) (by decide +kernel)
set_option maxRecDepth 20000 in
theorem gX9_still_X9_isPlace : GoodIn wsX9_still (wsV RX9 249 RX9 yX9_isPlace wsX9_isPlace) := goodIn_app (goodIn_of _ (by decide +kernel)) ggX9_still_X9_isPlace
set_option maxRecDepth 20000 in
theorem ggX9_still_X9_lays : GoodIn wsX9_still wsX9_lays := goodIn_r _ [14, 7, 15, 16, 17, 18, 19, 5, 20, 21, 22, 23, 24, 25, 26, 27, 28, 29, 30, 31, 32, 33, 34, 35, 36, 37, 38, 39, 40, 41, 42, 43, 44, 45, 46, 47, 48, 49, 50, 51, 60, 61, 62, 63, 64, 65, 66, 67, 68, 69, 70, 71, 72, 73, 74, 75, 76, 77, 78, 79, 80, 81] (by decide +kernel) (by decide +kernel)
set_option maxRecDepth 20000 in
theorem gX9_still_X9_lays : GoodIn wsX9_still (wsV RX9 240 RX9 yX9_lays wsX9_lays) := goodIn_app (goodIn_of _ (by decide +kernel)) ggX9_still_X9_lays
set_option maxRecDepth 20000 in
theorem ggX9_still_X9_places : GoodIn wsX9_still wsX9_places := goodIn_r _ [48, 7, 60, 61, 62, 63, 64, 65, 66, 67, 68, 69, 70, 71, 72, 73, 74, 75, 76, 77, 78, 79, 80, 81] (by decide +kernel) (by decide +kernel)
set_option maxRecDepth 20000 in
theorem gX9_still_X9_places : GoodIn wsX9_still (wsV RX9 220 RX9 yX9_places wsX9_places) := goodIn_app (goodIn_of _ (by decide +kernel)) ggX9_still_X9_places
set_option maxRecDepth 20000 in
theorem ggX9_still_X9_momentBy : GoodIn wsX9_still wsX9_momentBy := goodIn_r _ [55, 16, 7, 22, 23, 24, 5, 25, 56, 57, 58, 59, 15, 60, 61, 62, 63, 64, 65, 66, 67, 68, 69, 70, 71, 72, 73, 74, 75, 76, 77, 78, 79, 80, 81] (by decide +kernel) (by decide +kernel)
set_option maxRecDepth 20000 in
theorem gX9_still_X9_momentBy : GoodIn wsX9_still (wsV RX9 258 RX9 yX9_momentBy wsX9_momentBy) := goodIn_app (goodIn_of _ (by decide +kernel)) ggX9_still_X9_momentBy
theorem dX9_still_0 : decode cX9_still 0 = .ok (.aload_n 0, 1) := by decide +kernel
theorem dX9_still_1 : decode cX9_still 1 = .ok (.aload_n 0, 1) := by decide +kernel
theorem dX9_still_2 : decode cX9_still 2 = .ok (.iload_n 1, 1) := by decide +kernel
theorem dX9_still_3 : decode cX9_still 3 = .ok (.invokevirtual 249, 3) := by decide +kernel
theorem dX9_still_6 : decode cX9_still 6 = .ok (.ifCond .eq 7, 3) := by decide +kernel
theorem dX9_still_9 : decode cX9_still 9 = .ok (.iconst 0, 1) := by decide +kernel
theorem dX9_still_10 : decode cX9_still 10 = .ok (.goto 4, 3) := by decide +kernel
theorem dX9_still_13 : decode cX9_still 13 = .ok (.iconst 1, 1) := by decide +kernel
theorem dX9_still_14 : decode cX9_still 14 = .ok (.putfield 46, 3) := by decide +kernel
theorem dX9_still_17 : decode cX9_still 17 = .ok (.aload_n 0, 1) := by decide +kernel
theorem dX9_still_18 : decode cX9_still 18 = .ok (.getfield 46, 3) := by decide +kernel
theorem dX9_still_21 : decode cX9_still 21 = .ok (.ifCond .le 5, 3) := by decide +kernel
theorem dX9_still_24 : decode cX9_still 24 = .ok (.iconst 0, 1) := by decide +kernel
theorem dX9_still_25 : decode cX9_still 25 = .ok (.ireturn, 1) := by decide +kernel
theorem dX9_still_26 : decode cX9_still 26 = .ok (.aload_n 0, 1) := by decide +kernel
theorem dX9_still_27 : decode cX9_still 27 = .ok (.invokevirtual 240, 3) := by decide +kernel
theorem dX9_still_30 : decode cX9_still 30 = .ok (.iconst 0, 1) := by decide +kernel
theorem dX9_still_31 : decode cX9_still 31 = .ok (.istore_n 2, 1) := by decide +kernel
theorem dX9_still_32 : decode cX9_still 32 = .ok (.iconst 0, 1) := by decide +kernel
theorem dX9_still_33 : decode cX9_still 33 = .ok (.istore_n 3, 1) := by decide +kernel
theorem dX9_still_34 : decode cX9_still 34 = .ok (.iload_n 3, 1) := by decide +kernel
theorem dX9_still_35 : decode cX9_still 35 = .ok (.aload_n 0, 1) := by decide +kernel
theorem dX9_still_36 : decode cX9_still 36 = .ok (.invokevirtual 220, 3) := by decide +kernel
theorem dX9_still_39 : decode cX9_still 39 = .ok (.if_icmp .ge 30, 3) := by decide +kernel
theorem dX9_still_42 : decode cX9_still 42 = .ok (.iload_n 2, 1) := by decide +kernel
theorem dX9_still_43 : decode cX9_still 43 = .ok (.aload_n 0, 1) := by decide +kernel
theorem dX9_still_44 : decode cX9_still 44 = .ok (.iload_n 1, 1) := by decide +kernel
theorem dX9_still_45 : decode cX9_still 45 = .ok (.iload_n 3, 1) := by decide +kernel
theorem dX9_still_46 : decode cX9_still 46 = .ok (.invokevirtual 258, 3) := by decide +kernel
theorem dX9_still_49 : decode cX9_still 49 = .ok (.lconst 0, 1) := by decide +kernel
theorem dX9_still_50 : decode cX9_still 50 = .ok (.lcmp, 1) := by decide +kernel
theorem dX9_still_51 : decode cX9_still 51 = .ok (.ifCond .ne 9, 3) := by decide +kernel
theorem dX9_still_54 : decode cX9_still 54 = .ok (.iconst 1, 1) := by decide +kernel
theorem dX9_still_55 : decode cX9_still 55 = .ok (.iload_n 3, 1) := by decide +kernel
theorem dX9_still_56 : decode cX9_still 56 = .ok (.ishl, 1) := by decide +kernel
theorem dX9_still_57 : decode cX9_still 57 = .ok (.goto 4, 3) := by decide +kernel
theorem dX9_still_60 : decode cX9_still 60 = .ok (.iconst 0, 1) := by decide +kernel
theorem dX9_still_61 : decode cX9_still 61 = .ok (.ior, 1) := by decide +kernel
theorem dX9_still_62 : decode cX9_still 62 = .ok (.istore_n 2, 1) := by decide +kernel
theorem dX9_still_63 : decode cX9_still 63 = .ok (.iinc 3 1, 3) := by decide +kernel
theorem dX9_still_66 : decode cX9_still 66 = .ok (.goto (-32), 3) := by decide +kernel
theorem dX9_still_69 : decode cX9_still 69 = .ok (.iload_n 2, 1) := by decide +kernel
theorem dX9_still_70 : decode cX9_still 70 = .ok (.ireturn, 1) := by decide +kernel
set_option maxRecDepth 20000 in
theorem ggX9_gap_X9_isPlace : GoodIn wsX9_gap wsX9_isPlace := goodIn_r _ [6, 7, 8, 9, 5, 10, 64, 65, 66, 67, 68, 69, 70, 71, 72, 73, 74, 75, 76, 77, 78, 79, 80, 81, 82, 83, 84, 85] (by decide +kernel) (by decide +kernel)
set_option maxRecDepth 20000 in
theorem gX9_gap_X9_isPlace : GoodIn wsX9_gap (wsV RX9 249 RX9 yX9_isPlace wsX9_isPlace) := goodIn_app (goodIn_of _ (by decide +kernel)) ggX9_gap_X9_isPlace
set_option maxRecDepth 20000 in
theorem ggX9_gap_X9_lays : GoodIn wsX9_gap wsX9_lays := goodIn_r _ [14, 7, 15, 16, 17, 18, 19, 5, 20, 21, 22, 23, 24, 25, 26, 27, 28, 29, 30, 31, 32, 33, 34, 35, 36, 37, 38, 39, 40, 41, 42, 43, 44, 45, 46, 47, 48, 49, 50, 51, 64, 65, 66, 67, 68, 69, 70, 71, 72, 73, 74, 75, 76, 77, 78, 79, 80, 81, 82, 83, 84, 85] (by decide +kernel) (by decide +kernel)
set_option maxRecDepth 20000 in
theorem gX9_gap_X9_lays : GoodIn wsX9_gap (wsV RX9 240 RX9 yX9_lays wsX9_lays) := goodIn_app (goodIn_of _ (by decide +kernel)) ggX9_gap_X9_lays
set_option maxRecDepth 20000 in
theorem ggX9_gap_X9_momentBy : GoodIn wsX9_gap wsX9_momentBy := goodIn_r _ [55, 16, 7, 22, 23, 24, 5, 25, 56, 57, 58, 59, 15, 64, 65, 66, 67, 68, 69, 70, 71, 72, 73, 74, 75, 76, 77, 78, 79, 80, 81, 82, 83, 84, 85] (by decide +kernel) (by decide +kernel)
set_option maxRecDepth 20000 in
theorem gX9_gap_X9_momentBy : GoodIn wsX9_gap (wsV RX9 258 RX9 yX9_momentBy wsX9_momentBy) := goodIn_app (goodIn_of _ (by decide +kernel)) ggX9_gap_X9_momentBy
set_option maxRecDepth 20000 in
theorem ggX9_gap_X9_rightBy : GoodIn wsX9_gap wsX9_rightBy := goodIn_r _ [63, 16, 7, 22, 23, 24, 5, 25, 56, 57, 58, 59, 15, 64, 65, 66, 67, 68, 69, 70, 71, 72, 73, 74, 75, 76, 77, 78, 79, 80, 81, 82, 83, 84, 85] (by decide +kernel) (by decide +kernel)
set_option maxRecDepth 20000 in
theorem gX9_gap_X9_rightBy : GoodIn wsX9_gap (wsV RX9 261 RX9 yX9_rightBy wsX9_rightBy) := goodIn_app (goodIn_of _ (by decide +kernel)) ggX9_gap_X9_rightBy
theorem dX9_gap_0 : decode cX9_gap 0 = .ok (.aload_n 0, 1) := by decide +kernel
theorem dX9_gap_1 : decode cX9_gap 1 = .ok (.aload_n 0, 1) := by decide +kernel
theorem dX9_gap_2 : decode cX9_gap 2 = .ok (.iload_n 1, 1) := by decide +kernel
theorem dX9_gap_3 : decode cX9_gap 3 = .ok (.invokevirtual 249, 3) := by decide +kernel
theorem dX9_gap_6 : decode cX9_gap 6 = .ok (.ifCond .eq 15, 3) := by decide +kernel
theorem dX9_gap_9 : decode cX9_gap 9 = .ok (.aload_n 0, 1) := by decide +kernel
theorem dX9_gap_10 : decode cX9_gap 10 = .ok (.iload_n 2, 1) := by decide +kernel
theorem dX9_gap_11 : decode cX9_gap 11 = .ok (.invokevirtual 249, 3) := by decide +kernel
theorem dX9_gap_14 : decode cX9_gap 14 = .ok (.ifCond .eq 7, 3) := by decide +kernel
theorem dX9_gap_17 : decode cX9_gap 17 = .ok (.iconst 0, 1) := by decide +kernel
theorem dX9_gap_18 : decode cX9_gap 18 = .ok (.goto 4, 3) := by decide +kernel
theorem dX9_gap_21 : decode cX9_gap 21 = .ok (.iconst 1, 1) := by decide +kernel
theorem dX9_gap_22 : decode cX9_gap 22 = .ok (.putfield 46, 3) := by decide +kernel
theorem dX9_gap_25 : decode cX9_gap 25 = .ok (.aload_n 0, 1) := by decide +kernel
theorem dX9_gap_26 : decode cX9_gap 26 = .ok (.getfield 46, 3) := by decide +kernel
theorem dX9_gap_29 : decode cX9_gap 29 = .ok (.ifCond .le 5, 3) := by decide +kernel
theorem dX9_gap_32 : decode cX9_gap 32 = .ok (.lconst 0, 1) := by decide +kernel
theorem dX9_gap_33 : decode cX9_gap 33 = .ok (.lreturn, 1) := by decide +kernel
theorem dX9_gap_34 : decode cX9_gap 34 = .ok (.aload_n 0, 1) := by decide +kernel
theorem dX9_gap_35 : decode cX9_gap 35 = .ok (.invokevirtual 240, 3) := by decide +kernel
theorem dX9_gap_38 : decode cX9_gap 38 = .ok (.aload_n 0, 1) := by decide +kernel
theorem dX9_gap_39 : decode cX9_gap 39 = .ok (.iload_n 1, 1) := by decide +kernel
theorem dX9_gap_40 : decode cX9_gap 40 = .ok (.iload_n 2, 1) := by decide +kernel
theorem dX9_gap_41 : decode cX9_gap 41 = .ok (.invokevirtual 258, 3) := by decide +kernel
theorem dX9_gap_44 : decode cX9_gap 44 = .ok (.aload_n 0, 1) := by decide +kernel
theorem dX9_gap_45 : decode cX9_gap 45 = .ok (.iload_n 1, 1) := by decide +kernel
theorem dX9_gap_46 : decode cX9_gap 46 = .ok (.iload_n 2, 1) := by decide +kernel
theorem dX9_gap_47 : decode cX9_gap 47 = .ok (.invokevirtual 261, 3) := by decide +kernel
theorem dX9_gap_50 : decode cX9_gap 50 = .ok (.lsub, 1) := by decide +kernel
theorem dX9_gap_51 : decode cX9_gap 51 = .ok (.lreturn, 1) := by decide +kernel
set_option maxRecDepth 20000 in
theorem ggX9_by_X9_reactionBy : GoodIn wsX9_by wsX9_reactionBy := goodIn_r _ [5, 6, 21, 22, 23, 24, 25, 26, 27, 28, 29, 30, 31, 32, 33, 34, 35, 36, 37, 38, 39, 40, 41, 42] (by decide +kernel) (by decide +kernel)
set_option maxRecDepth 20000 in
theorem gX9_by_X9_reactionBy : GoodIn wsX9_by (wsV RX9 231 RX9 yX9_reactionBy wsX9_reactionBy) := goodIn_app (goodIn_of _ (by decide +kernel)) ggX9_by_X9_reactionBy
set_option maxRecDepth 20000 in
theorem ggX9_by_X9_shearBy : GoodIn wsX9_by wsX9_shearBy := goodIn_r _ [10, 11, 12, 13, 14, 15, 4, 16, 1, 2, 3, 5, 6, 21, 22, 23, 24, 25, 26, 27, 28, 29, 30, 31, 32, 33, 34, 35, 36, 37, 38, 39, 40, 41, 42] (by decide +kernel) (by decide +kernel)
set_option maxRecDepth 20000 in
theorem gX9_by_X9_shearBy : GoodIn wsX9_by (wsV RX9 255 RX9 yX9_shearBy wsX9_shearBy) := goodIn_app (goodIn_of _ (by decide +kernel)) ggX9_by_X9_shearBy
set_option maxRecDepth 20000 in
theorem ggX9_by_X9_momentBy : GoodIn wsX9_by wsX9_momentBy := goodIn_r _ [20, 11, 12, 13, 14, 15, 4, 16, 1, 2, 3, 5, 6, 21, 22, 23, 24, 25, 26, 27, 28, 29, 30, 31, 32, 33, 34, 35, 36, 37, 38, 39, 40, 41, 42] (by decide +kernel) (by decide +kernel)
set_option maxRecDepth 20000 in
theorem gX9_by_X9_momentBy : GoodIn wsX9_by (wsV RX9 258 RX9 yX9_momentBy wsX9_momentBy) := goodIn_app (goodIn_of _ (by decide +kernel)) ggX9_by_X9_momentBy
theorem dX9_by_0 : decode cX9_by 0 = .ok (.iload_n 1, 1) := by decide +kernel
theorem dX9_by_1 : decode cX9_by 1 = .ok (.ifCond .ne 12, 3) := by decide +kernel
theorem dX9_by_4 : decode cX9_by 4 = .ok (.aload_n 0, 1) := by decide +kernel
theorem dX9_by_5 : decode cX9_by 5 = .ok (.iload_n 2, 1) := by decide +kernel
theorem dX9_by_6 : decode cX9_by 6 = .ok (.iload_n 3, 1) := by decide +kernel
theorem dX9_by_7 : decode cX9_by 7 = .ok (.invokevirtual 231, 3) := by decide +kernel
theorem dX9_by_10 : decode cX9_by 10 = .ok (.goto 23, 3) := by decide +kernel
theorem dX9_by_13 : decode cX9_by 13 = .ok (.iload_n 1, 1) := by decide +kernel
theorem dX9_by_14 : decode cX9_by 14 = .ok (.iconst 1, 1) := by decide +kernel
theorem dX9_by_15 : decode cX9_by 15 = .ok (.if_icmp .ne 12, 3) := by decide +kernel
theorem dX9_by_18 : decode cX9_by 18 = .ok (.aload_n 0, 1) := by decide +kernel
theorem dX9_by_19 : decode cX9_by 19 = .ok (.iload_n 2, 1) := by decide +kernel
theorem dX9_by_20 : decode cX9_by 20 = .ok (.iload_n 3, 1) := by decide +kernel
theorem dX9_by_21 : decode cX9_by 21 = .ok (.invokevirtual 255, 3) := by decide +kernel
theorem dX9_by_24 : decode cX9_by 24 = .ok (.goto 9, 3) := by decide +kernel
theorem dX9_by_27 : decode cX9_by 27 = .ok (.aload_n 0, 1) := by decide +kernel
theorem dX9_by_28 : decode cX9_by 28 = .ok (.iload_n 2, 1) := by decide +kernel
theorem dX9_by_29 : decode cX9_by 29 = .ok (.iload_n 3, 1) := by decide +kernel
theorem dX9_by_30 : decode cX9_by 30 = .ok (.invokevirtual 258, 3) := by decide +kernel
theorem dX9_by_33 : decode cX9_by 33 = .ok (.lreturn, 1) := by decide +kernel
set_option maxRecDepth 20000 in
theorem ggX9_isOn_X9_isPlace : GoodIn wsX9_isOn wsX9_isPlace := goodIn_r _ [6, 1, 7, 8, 5, 9, 10, 11, 12, 13, 14, 15, 16, 17, 18, 19, 20, 21, 22, 23, 24, 25, 26, 27, 28, 29, 30, 31] (by decide +kernel) (by decide +kernel)
set_option maxRecDepth 20000 in
theorem gX9_isOn_X9_isPlace : GoodIn wsX9_isOn (wsV RX9 249 RX9 yX9_isPlace wsX9_isPlace) := goodIn_app (goodIn_of _ (by decide +kernel)) ggX9_isOn_X9_isPlace
theorem dX9_isOn_0 : decode cX9_isOn 0 = .ok (.iload_n 2, 1) := by decide +kernel
theorem dX9_isOn_1 : decode cX9_isOn 1 = .ok (.iconst (-1), 1) := by decide +kernel
theorem dX9_isOn_2 : decode cX9_isOn 2 = .ok (.if_icmp .eq 29, 3) := by decide +kernel
theorem dX9_isOn_5 : decode cX9_isOn 5 = .ok (.aload_n 0, 1) := by decide +kernel
theorem dX9_isOn_6 : decode cX9_isOn 6 = .ok (.iload_n 2, 1) := by decide +kernel
theorem dX9_isOn_7 : decode cX9_isOn 7 = .ok (.aload_n 0, 1) := by decide +kernel
theorem dX9_isOn_8 : decode cX9_isOn 8 = .ok (.getfield 7, 3) := by decide +kernel
theorem dX9_isOn_11 : decode cX9_isOn 11 = .ok (.bipush 35, 2) := by decide +kernel
theorem dX9_isOn_13 : decode cX9_isOn 13 = .ok (.iconst 2, 1) := by decide +kernel
theorem dX9_isOn_14 : decode cX9_isOn 14 = .ok (.iload_n 1, 1) := by decide +kernel
theorem dX9_isOn_15 : decode cX9_isOn 15 = .ok (.imul, 1) := by decide +kernel
theorem dX9_isOn_16 : decode cX9_isOn 16 = .ok (.iadd, 1) := by decide +kernel
theorem dX9_isOn_17 : decode cX9_isOn 17 = .ok (.iconst 1, 1) := by decide +kernel
theorem dX9_isOn_18 : decode cX9_isOn 18 = .ok (.iadd, 1) := by decide +kernel
theorem dX9_isOn_19 : decode cX9_isOn 19 = .ok (.iaload, 1) := by decide +kernel
theorem dX9_isOn_20 : decode cX9_isOn 20 = .ok (.isub, 1) := by decide +kernel
theorem dX9_isOn_21 : decode cX9_isOn 21 = .ok (.invokevirtual 249, 3) := by decide +kernel
theorem dX9_isOn_24 : decode cX9_isOn 24 = .ok (.ifCond .eq 7, 3) := by decide +kernel
theorem dX9_isOn_27 : decode cX9_isOn 27 = .ok (.iconst 1, 1) := by decide +kernel
theorem dX9_isOn_28 : decode cX9_isOn 28 = .ok (.goto 4, 3) := by decide +kernel
theorem dX9_isOn_31 : decode cX9_isOn 31 = .ok (.iconst 0, 1) := by decide +kernel
theorem dX9_isOn_32 : decode cX9_isOn 32 = .ok (.ireturn, 1) := by decide +kernel
set_option maxRecDepth 20000 in
theorem ggX9_all_X9_by : GoodIn wsX9_all wsX9_by := goodIn_r _ [6, 7, 8, 9, 5, 10, 11, 12, 13, 14, 15, 16, 1, 17, 18, 19, 20, 21, 22, 23, 24, 36, 37, 38, 39, 40, 41, 42, 43, 44, 45, 46, 47, 48, 49, 50, 51, 52, 53, 54, 55, 56, 57] (by decide +kernel) (by decide +kernel)
set_option maxRecDepth 20000 in
theorem gX9_all_X9_by : GoodIn wsX9_all (wsV RX9 264 RX9 yX9_by wsX9_by) := goodIn_app (goodIn_of _ (by decide +kernel)) ggX9_all_X9_by
set_option maxRecDepth 20000 in
theorem ggX9_all_X9_isOn : GoodIn wsX9_all wsX9_isOn := goodIn_r _ [28, 1, 29, 30, 31, 5, 32, 33, 34, 35, 36, 37, 38, 39, 40, 41, 42, 43, 44, 45, 46, 47, 48, 49, 50, 51, 52, 53, 54, 55, 56, 57] (by decide +kernel) (by decide +kernel)
set_option maxRecDepth 20000 in
theorem gX9_all_X9_isOn : GoodIn wsX9_all (wsV RX9 268 RX9 yX9_isOn wsX9_isOn) := goodIn_app (goodIn_of _ (by decide +kernel)) ggX9_all_X9_isOn
theorem dX9_all_0 : decode cX9_all 0 = .ok (.lconst 0, 1) := by decide +kernel
theorem dX9_all_1 : decode cX9_all 1 = .ok (.lstore 4, 2) := by decide +kernel
theorem dX9_all_3 : decode cX9_all 3 = .ok (.iconst 0, 1) := by decide +kernel
theorem dX9_all_4 : decode cX9_all 4 = .ok (.istore 6, 2) := by decide +kernel
theorem dX9_all_6 : decode cX9_all 6 = .ok (.iload 6, 2) := by decide +kernel
theorem dX9_all_8 : decode cX9_all 8 = .ok (.aload_n 0, 1) := by decide +kernel
theorem dX9_all_9 : decode cX9_all 9 = .ok (.getfield 7, 3) := by decide +kernel
theorem dX9_all_12 : decode cX9_all 12 = .ok (.iconst 4, 1) := by decide +kernel
theorem dX9_all_13 : decode cX9_all 13 = .ok (.iaload, 1) := by decide +kernel
theorem dX9_all_14 : decode cX9_all 14 = .ok (.if_icmp .ge 48, 3) := by decide +kernel
theorem dX9_all_17 : decode cX9_all 17 = .ok (.lload 4, 2) := by decide +kernel
theorem dX9_all_19 : decode cX9_all 19 = .ok (.aload_n 0, 1) := by decide +kernel
theorem dX9_all_20 : decode cX9_all 20 = .ok (.getfield 7, 3) := by decide +kernel
theorem dX9_all_23 : decode cX9_all 23 = .ok (.bipush 19, 2) := by decide +kernel
theorem dX9_all_25 : decode cX9_all 25 = .ok (.iconst 2, 1) := by decide +kernel
theorem dX9_all_26 : decode cX9_all 26 = .ok (.iload 6, 2) := by decide +kernel
theorem dX9_all_28 : decode cX9_all 28 = .ok (.imul, 1) := by decide +kernel
theorem dX9_all_29 : decode cX9_all 29 = .ok (.iadd, 1) := by decide +kernel
theorem dX9_all_30 : decode cX9_all 30 = .ok (.iaload, 1) := by decide +kernel
theorem dX9_all_31 : decode cX9_all 31 = .ok (.i2l, 1) := by decide +kernel
theorem dX9_all_32 : decode cX9_all 32 = .ok (.aload_n 0, 1) := by decide +kernel
theorem dX9_all_33 : decode cX9_all 33 = .ok (.iload_n 1, 1) := by decide +kernel
theorem dX9_all_34 : decode cX9_all 34 = .ok (.iload_n 2, 1) := by decide +kernel
theorem dX9_all_35 : decode cX9_all 35 = .ok (.aload_n 0, 1) := by decide +kernel
theorem dX9_all_36 : decode cX9_all 36 = .ok (.getfield 7, 3) := by decide +kernel
theorem dX9_all_39 : decode cX9_all 39 = .ok (.bipush 19, 2) := by decide +kernel
theorem dX9_all_41 : decode cX9_all 41 = .ok (.iconst 2, 1) := by decide +kernel
theorem dX9_all_42 : decode cX9_all 42 = .ok (.iload 6, 2) := by decide +kernel
theorem dX9_all_44 : decode cX9_all 44 = .ok (.imul, 1) := by decide +kernel
theorem dX9_all_45 : decode cX9_all 45 = .ok (.iadd, 1) := by decide +kernel
theorem dX9_all_46 : decode cX9_all 46 = .ok (.iconst 1, 1) := by decide +kernel
theorem dX9_all_47 : decode cX9_all 47 = .ok (.iadd, 1) := by decide +kernel
theorem dX9_all_48 : decode cX9_all 48 = .ok (.iaload, 1) := by decide +kernel
theorem dX9_all_49 : decode cX9_all 49 = .ok (.invokevirtual 264, 3) := by decide +kernel
theorem dX9_all_52 : decode cX9_all 52 = .ok (.lmul, 1) := by decide +kernel
theorem dX9_all_53 : decode cX9_all 53 = .ok (.ladd, 1) := by decide +kernel
theorem dX9_all_54 : decode cX9_all 54 = .ok (.lstore 4, 2) := by decide +kernel
theorem dX9_all_56 : decode cX9_all 56 = .ok (.iinc 6 1, 3) := by decide +kernel
theorem dX9_all_59 : decode cX9_all 59 = .ok (.goto (-53), 3) := by decide +kernel
theorem dX9_all_62 : decode cX9_all 62 = .ok (.iconst 0, 1) := by decide +kernel
theorem dX9_all_63 : decode cX9_all 63 = .ok (.istore 6, 2) := by decide +kernel
theorem dX9_all_65 : decode cX9_all 65 = .ok (.iload 6, 2) := by decide +kernel
theorem dX9_all_67 : decode cX9_all 67 = .ok (.aload_n 0, 1) := by decide +kernel
theorem dX9_all_68 : decode cX9_all 68 = .ok (.getfield 7, 3) := by decide +kernel
theorem dX9_all_71 : decode cX9_all 71 = .ok (.iconst 5, 1) := by decide +kernel
theorem dX9_all_72 : decode cX9_all 72 = .ok (.iaload, 1) := by decide +kernel
theorem dX9_all_73 : decode cX9_all 73 = .ok (.if_icmp .ge 60, 3) := by decide +kernel
theorem dX9_all_76 : decode cX9_all 76 = .ok (.aload_n 0, 1) := by decide +kernel
theorem dX9_all_77 : decode cX9_all 77 = .ok (.iload 6, 2) := by decide +kernel
theorem dX9_all_79 : decode cX9_all 79 = .ok (.iload_n 3, 1) := by decide +kernel
theorem dX9_all_80 : decode cX9_all 80 = .ok (.invokevirtual 268, 3) := by decide +kernel
theorem dX9_all_83 : decode cX9_all 83 = .ok (.ifCond .eq 44, 3) := by decide +kernel
theorem dX9_all_86 : decode cX9_all 86 = .ok (.lload 4, 2) := by decide +kernel
theorem dX9_all_88 : decode cX9_all 88 = .ok (.aload_n 0, 1) := by decide +kernel
theorem dX9_all_89 : decode cX9_all 89 = .ok (.getfield 7, 3) := by decide +kernel
theorem dX9_all_92 : decode cX9_all 92 = .ok (.bipush 35, 2) := by decide +kernel
theorem dX9_all_94 : decode cX9_all 94 = .ok (.iconst 2, 1) := by decide +kernel
theorem dX9_all_95 : decode cX9_all 95 = .ok (.iload 6, 2) := by decide +kernel
theorem dX9_all_97 : decode cX9_all 97 = .ok (.imul, 1) := by decide +kernel
theorem dX9_all_98 : decode cX9_all 98 = .ok (.iadd, 1) := by decide +kernel
theorem dX9_all_99 : decode cX9_all 99 = .ok (.iaload, 1) := by decide +kernel
theorem dX9_all_100 : decode cX9_all 100 = .ok (.i2l, 1) := by decide +kernel
theorem dX9_all_101 : decode cX9_all 101 = .ok (.aload_n 0, 1) := by decide +kernel
theorem dX9_all_102 : decode cX9_all 102 = .ok (.iload_n 1, 1) := by decide +kernel
theorem dX9_all_103 : decode cX9_all 103 = .ok (.iload_n 2, 1) := by decide +kernel
theorem dX9_all_104 : decode cX9_all 104 = .ok (.iload_n 3, 1) := by decide +kernel
theorem dX9_all_105 : decode cX9_all 105 = .ok (.aload_n 0, 1) := by decide +kernel
theorem dX9_all_106 : decode cX9_all 106 = .ok (.getfield 7, 3) := by decide +kernel
theorem dX9_all_109 : decode cX9_all 109 = .ok (.bipush 35, 2) := by decide +kernel
theorem dX9_all_111 : decode cX9_all 111 = .ok (.iconst 2, 1) := by decide +kernel
theorem dX9_all_112 : decode cX9_all 112 = .ok (.iload 6, 2) := by decide +kernel
theorem dX9_all_114 : decode cX9_all 114 = .ok (.imul, 1) := by decide +kernel
theorem dX9_all_115 : decode cX9_all 115 = .ok (.iadd, 1) := by decide +kernel
theorem dX9_all_116 : decode cX9_all 116 = .ok (.iconst 1, 1) := by decide +kernel
theorem dX9_all_117 : decode cX9_all 117 = .ok (.iadd, 1) := by decide +kernel
theorem dX9_all_118 : decode cX9_all 118 = .ok (.iaload, 1) := by decide +kernel
theorem dX9_all_119 : decode cX9_all 119 = .ok (.isub, 1) := by decide +kernel
theorem dX9_all_120 : decode cX9_all 120 = .ok (.invokevirtual 264, 3) := by decide +kernel
theorem dX9_all_123 : decode cX9_all 123 = .ok (.lmul, 1) := by decide +kernel
theorem dX9_all_124 : decode cX9_all 124 = .ok (.ladd, 1) := by decide +kernel
theorem dX9_all_125 : decode cX9_all 125 = .ok (.lstore 4, 2) := by decide +kernel
theorem dX9_all_127 : decode cX9_all 127 = .ok (.iinc 6 1, 3) := by decide +kernel
theorem dX9_all_130 : decode cX9_all 130 = .ok (.goto (-65), 3) := by decide +kernel
theorem dX9_all_133 : decode cX9_all 133 = .ok (.lload 4, 2) := by decide +kernel
theorem dX9_all_135 : decode cX9_all 135 = .ok (.lreturn, 1) := by decide +kernel
set_option maxRecDepth 20000 in
theorem ggX9_isHead_X9_lastHead : GoodIn wsX9_isHead wsX9_lastHead := goodIn_r _ [5, 6, 7, 8, 9, 10, 14, 15, 16, 17, 18, 19, 20, 21, 22, 23, 24, 25, 26, 27, 28, 29, 30, 31, 32, 33, 34, 35] (by decide +kernel) (by decide +kernel)
set_option maxRecDepth 20000 in
theorem gX9_isHead_X9_lastHead : GoodIn wsX9_isHead (wsV RX9 237 RX9 yX9_lastHead wsX9_lastHead) := goodIn_app (goodIn_of _ (by decide +kernel)) ggX9_isHead_X9_lastHead
set_option maxRecDepth 20000 in
theorem ggX9_isHead_X9_isIn : GoodIn wsX9_isHead wsX9_isIn := goodIn_r _ [13] (by decide +kernel) (by decide +kernel)
set_option maxRecDepth 20000 in
theorem gX9_isHead_X9_isIn : GoodIn wsX9_isHead (va_wsS RX9 56 yX9_isIn wsX9_isIn) := goodIn_app (goodIn_of _ (by decide +kernel)) ggX9_isHead_X9_isIn
theorem dX9_isHead_0 : decode cX9_isHead 0 = .ok (.iload_n 1, 1) := by decide +kernel
theorem dX9_isHead_1 : decode cX9_isHead 1 = .ok (.iconst (-1), 1) := by decide +kernel
theorem dX9_isHead_2 : decode cX9_isHead 2 = .ok (.aload_n 0, 1) := by decide +kernel
theorem dX9_isHead_3 : decode cX9_isHead 3 = .ok (.invokevirtual 237, 3) := by decide +kernel
theorem dX9_isHead_6 : decode cX9_isHead 6 = .ok (.invokestatic 56, 3) := by decide +kernel
theorem dX9_isHead_9 : decode cX9_isHead 9 = .ok (.ireturn, 1) := by decide +kernel
set_option maxRecDepth 20000 in
theorem ggX9_reaction_X9_isSupport : GoodIn wsX9_reaction wsX9_isSupport := goodIn_r _ [6, 7, 8, 9, 5, 10, 88, 89, 90, 91, 92, 93, 94, 95, 96, 97, 98, 99, 100, 101, 102, 103, 104, 105, 106, 107, 108, 109] (by decide +kernel) (by decide +kernel)
set_option maxRecDepth 20000 in
theorem gX9_reaction_X9_isSupport : GoodIn wsX9_reaction (wsV RX9 243 RX9 yX9_isSupport wsX9_isSupport) := goodIn_app (goodIn_of _ (by decide +kernel)) ggX9_reaction_X9_isSupport
set_option maxRecDepth 20000 in
theorem ggX9_reaction_X9_isHead : GoodIn wsX9_reaction wsX9_isHead := goodIn_r _ [14, 15, 16, 17, 5, 18, 7, 19, 20, 21, 22, 8, 9, 10, 88, 89, 90, 91, 92, 93, 94, 95, 96, 97, 98, 99, 100, 101, 102, 103, 104, 105, 106, 107, 108, 109] (by decide +kernel) (by decide +kernel)
set_option maxRecDepth 20000 in
theorem gX9_reaction_X9_isHead : GoodIn wsX9_reaction (wsV RX9 272 RX9 yX9_isHead wsX9_isHead) := goodIn_app (goodIn_of _ (by decide +kernel)) ggX9_reaction_X9_isHead
set_option maxRecDepth 20000 in
theorem ggX9_reaction_X9_lays : GoodIn wsX9_reaction wsX9_lays := goodIn_r _ [26, 7, 27, 28, 29, 30, 31, 5, 32, 33, 34, 35, 36, 37, 38, 39, 40, 41, 19, 20, 21, 22, 42, 43, 44, 45, 46, 47, 48, 49, 50, 51, 52, 53, 54, 55, 56, 57, 58, 59, 88, 89, 90, 91, 92, 93, 94, 95, 96, 97, 98, 99, 100, 101, 102, 103, 104, 105, 106, 107, 108, 109] (by decide +kernel) (by decide +kernel)
set_option maxRecDepth 20000 in
theorem gX9_reaction_X9_lays : GoodIn wsX9_reaction (wsV RX9 240 RX9 yX9_lays wsX9_lays) := goodIn_app (goodIn_of _ (by decide +kernel)) ggX9_reaction_X9_lays
set_option maxRecDepth 20000 in
theorem ggX9_reaction_X9_all : GoodIn wsX9_reaction wsX9_all := goodIn_r _ [63, 7, 64, 65, 66, 5, 67, 68, 69, 70, 71, 27, 72, 73, 74, 75, 28, 34, 35, 36, 37, 76, 77, 78, 79, 80, 81, 82, 83, 84, 85, 86, 87, 8, 9, 10, 88, 89, 90, 91, 92, 93, 94, 95, 96, 97, 98, 99, 100, 101, 102, 103, 104, 105, 106, 107, 108, 109] (by decide +kernel) (by decide +kernel)
set_option maxRecDepth 20000 in
theorem gX9_reaction_X9_all : GoodIn wsX9_reaction (wsV RX9 275 RX9 yX9_all wsX9_all) := goodIn_app (goodIn_of _ (by decide +kernel)) ggX9_reaction_X9_all
theorem dX9_reaction_0 : decode cX9_reaction 0 = .ok (.aload_n 0, 1) := by decide +kernel
theorem dX9_reaction_1 : decode cX9_reaction 1 = .ok (.aload_n 0, 1) := by decide +kernel
theorem dX9_reaction_2 : decode cX9_reaction 2 = .ok (.iload_n 1, 1) := by decide +kernel
theorem dX9_reaction_3 : decode cX9_reaction 3 = .ok (.invokevirtual 243, 3) := by decide +kernel
theorem dX9_reaction_6 : decode cX9_reaction 6 = .ok (.ifCond .ne 7, 3) := by decide +kernel
theorem dX9_reaction_9 : decode cX9_reaction 9 = .ok (.iconst 1, 1) := by decide +kernel
theorem dX9_reaction_10 : decode cX9_reaction 10 = .ok (.goto 16, 3) := by decide +kernel
theorem dX9_reaction_13 : decode cX9_reaction 13 = .ok (.aload_n 0, 1) := by decide +kernel
theorem dX9_reaction_14 : decode cX9_reaction 14 = .ok (.iload_n 2, 1) := by decide +kernel
theorem dX9_reaction_15 : decode cX9_reaction 15 = .ok (.invokevirtual 272, 3) := by decide +kernel
theorem dX9_reaction_18 : decode cX9_reaction 18 = .ok (.ifCond .eq 7, 3) := by decide +kernel
theorem dX9_reaction_21 : decode cX9_reaction 21 = .ok (.iconst 0, 1) := by decide +kernel
theorem dX9_reaction_22 : decode cX9_reaction 22 = .ok (.goto 4, 3) := by decide +kernel
theorem dX9_reaction_25 : decode cX9_reaction 25 = .ok (.iconst 2, 1) := by decide +kernel
theorem dX9_reaction_26 : decode cX9_reaction 26 = .ok (.putfield 46, 3) := by decide +kernel
theorem dX9_reaction_29 : decode cX9_reaction 29 = .ok (.aload_n 0, 1) := by decide +kernel
theorem dX9_reaction_30 : decode cX9_reaction 30 = .ok (.getfield 46, 3) := by decide +kernel
theorem dX9_reaction_33 : decode cX9_reaction 33 = .ok (.ifCond .le 5, 3) := by decide +kernel
theorem dX9_reaction_36 : decode cX9_reaction 36 = .ok (.lconst 0, 1) := by decide +kernel
theorem dX9_reaction_37 : decode cX9_reaction 37 = .ok (.lreturn, 1) := by decide +kernel
theorem dX9_reaction_38 : decode cX9_reaction 38 = .ok (.aload_n 0, 1) := by decide +kernel
theorem dX9_reaction_39 : decode cX9_reaction 39 = .ok (.invokevirtual 240, 3) := by decide +kernel
theorem dX9_reaction_42 : decode cX9_reaction 42 = .ok (.aload_n 0, 1) := by decide +kernel
theorem dX9_reaction_43 : decode cX9_reaction 43 = .ok (.iconst 0, 1) := by decide +kernel
theorem dX9_reaction_44 : decode cX9_reaction 44 = .ok (.iload_n 1, 1) := by decide +kernel
theorem dX9_reaction_45 : decode cX9_reaction 45 = .ok (.iload_n 2, 1) := by decide +kernel
theorem dX9_reaction_46 : decode cX9_reaction 46 = .ok (.invokevirtual 275, 3) := by decide +kernel
theorem dX9_reaction_49 : decode cX9_reaction 49 = .ok (.lreturn, 1) := by decide +kernel
set_option maxRecDepth 20000 in
theorem ggX9_shear_X9_isField : GoodIn wsX9_shear wsX9_isField := goodIn_r _ [6, 7, 8, 9, 5, 10, 88, 89, 90, 91, 92, 93, 94, 95, 96, 97, 98, 99, 100, 101, 102, 103, 104, 105, 106, 107, 108, 109] (by decide +kernel) (by decide +kernel)
set_option maxRecDepth 20000 in
theorem gX9_shear_X9_isField : GoodIn wsX9_shear (wsV RX9 252 RX9 yX9_isField wsX9_isField) := goodIn_app (goodIn_of _ (by decide +kernel)) ggX9_shear_X9_isField
set_option maxRecDepth 20000 in
theorem ggX9_shear_X9_isHead : GoodIn wsX9_shear wsX9_isHead := goodIn_r _ [14, 15, 16, 17, 5, 18, 7, 19, 20, 21, 22, 8, 9, 10, 88, 89, 90, 91, 92, 93, 94, 95, 96, 97, 98, 99, 100, 101, 102, 103, 104, 105, 106, 107, 108, 109] (by decide +kernel) (by decide +kernel)
set_option maxRecDepth 20000 in
theorem gX9_shear_X9_isHead : GoodIn wsX9_shear (wsV RX9 272 RX9 yX9_isHead wsX9_isHead) := goodIn_app (goodIn_of _ (by decide +kernel)) ggX9_shear_X9_isHead
set_option maxRecDepth 20000 in
theorem ggX9_shear_X9_lays : GoodIn wsX9_shear wsX9_lays := goodIn_r _ [26, 7, 27, 28, 29, 30, 31, 5, 32, 33, 34, 35, 36, 37, 38, 39, 40, 41, 19, 20, 21, 22, 42, 43, 44, 45, 46, 47, 48, 49, 50, 51, 52, 53, 54, 55, 56, 57, 58, 59, 88, 89, 90, 91, 92, 93, 94, 95, 96, 97, 98, 99, 100, 101, 102, 103, 104, 105, 106, 107, 108, 109] (by decide +kernel) (by decide +kernel)
set_option maxRecDepth 20000 in
theorem gX9_shear_X9_lays : GoodIn wsX9_shear (wsV RX9 240 RX9 yX9_lays wsX9_lays) := goodIn_app (goodIn_of _ (by decide +kernel)) ggX9_shear_X9_lays
set_option maxRecDepth 20000 in
theorem ggX9_shear_X9_all : GoodIn wsX9_shear wsX9_all := goodIn_r _ [63, 7, 64, 65, 66, 5, 67, 68, 69, 70, 71, 27, 72, 73, 74, 75, 28, 34, 35, 36, 37, 76, 77, 78, 79, 80, 81, 82, 83, 84, 85, 86, 87, 8, 9, 10, 88, 89, 90, 91, 92, 93, 94, 95, 96, 97, 98, 99, 100, 101, 102, 103, 104, 105, 106, 107, 108, 109] (by decide +kernel) (by decide +kernel)
set_option maxRecDepth 20000 in
theorem gX9_shear_X9_all : GoodIn wsX9_shear (wsV RX9 275 RX9 yX9_all wsX9_all) := goodIn_app (goodIn_of _ (by decide +kernel)) ggX9_shear_X9_all
theorem dX9_shear_0 : decode cX9_shear 0 = .ok (.aload_n 0, 1) := by decide +kernel
theorem dX9_shear_1 : decode cX9_shear 1 = .ok (.aload_n 0, 1) := by decide +kernel
theorem dX9_shear_2 : decode cX9_shear 2 = .ok (.iload_n 1, 1) := by decide +kernel
theorem dX9_shear_3 : decode cX9_shear 3 = .ok (.invokevirtual 252, 3) := by decide +kernel
theorem dX9_shear_6 : decode cX9_shear 6 = .ok (.ifCond .ne 7, 3) := by decide +kernel
theorem dX9_shear_9 : decode cX9_shear 9 = .ok (.iconst 1, 1) := by decide +kernel
theorem dX9_shear_10 : decode cX9_shear 10 = .ok (.goto 16, 3) := by decide +kernel
theorem dX9_shear_13 : decode cX9_shear 13 = .ok (.aload_n 0, 1) := by decide +kernel
theorem dX9_shear_14 : decode cX9_shear 14 = .ok (.iload_n 2, 1) := by decide +kernel
theorem dX9_shear_15 : decode cX9_shear 15 = .ok (.invokevirtual 272, 3) := by decide +kernel
theorem dX9_shear_18 : decode cX9_shear 18 = .ok (.ifCond .eq 7, 3) := by decide +kernel
theorem dX9_shear_21 : decode cX9_shear 21 = .ok (.iconst 0, 1) := by decide +kernel
theorem dX9_shear_22 : decode cX9_shear 22 = .ok (.goto 4, 3) := by decide +kernel
theorem dX9_shear_25 : decode cX9_shear 25 = .ok (.iconst 2, 1) := by decide +kernel
theorem dX9_shear_26 : decode cX9_shear 26 = .ok (.putfield 46, 3) := by decide +kernel
theorem dX9_shear_29 : decode cX9_shear 29 = .ok (.aload_n 0, 1) := by decide +kernel
theorem dX9_shear_30 : decode cX9_shear 30 = .ok (.getfield 46, 3) := by decide +kernel
theorem dX9_shear_33 : decode cX9_shear 33 = .ok (.ifCond .le 5, 3) := by decide +kernel
theorem dX9_shear_36 : decode cX9_shear 36 = .ok (.lconst 0, 1) := by decide +kernel
theorem dX9_shear_37 : decode cX9_shear 37 = .ok (.lreturn, 1) := by decide +kernel
theorem dX9_shear_38 : decode cX9_shear 38 = .ok (.aload_n 0, 1) := by decide +kernel
theorem dX9_shear_39 : decode cX9_shear 39 = .ok (.invokevirtual 240, 3) := by decide +kernel
theorem dX9_shear_42 : decode cX9_shear 42 = .ok (.aload_n 0, 1) := by decide +kernel
theorem dX9_shear_43 : decode cX9_shear 43 = .ok (.iconst 1, 1) := by decide +kernel
theorem dX9_shear_44 : decode cX9_shear 44 = .ok (.iload_n 1, 1) := by decide +kernel
theorem dX9_shear_45 : decode cX9_shear 45 = .ok (.iload_n 2, 1) := by decide +kernel
theorem dX9_shear_46 : decode cX9_shear 46 = .ok (.invokevirtual 275, 3) := by decide +kernel
theorem dX9_shear_49 : decode cX9_shear 49 = .ok (.lreturn, 1) := by decide +kernel
set_option maxRecDepth 20000 in
theorem ggX9_moment_X9_isPlace : GoodIn wsX9_moment wsX9_isPlace := goodIn_r _ [6, 7, 8, 9, 5, 10, 84, 85, 86, 87, 88, 89, 90, 91, 92, 93, 94, 95, 96, 97, 98, 99, 100, 101, 102, 103, 104, 105] (by decide +kernel) (by decide +kernel)
set_option maxRecDepth 20000 in
theorem gX9_moment_X9_isPlace : GoodIn wsX9_moment (wsV RX9 249 RX9 yX9_isPlace wsX9_isPlace) := goodIn_app (goodIn_of _ (by decide +kernel)) ggX9_moment_X9_isPlace
set_option maxRecDepth 20000 in
theorem ggX9_moment_X9_isHead : GoodIn wsX9_moment wsX9_isHead := goodIn_r _ [14, 15, 16, 17, 5, 18, 7, 19, 20, 21, 22, 8, 9, 10, 84, 85, 86, 87, 88, 89, 90, 91, 92, 93, 94, 95, 96, 97, 98, 99, 100, 101, 102, 103, 104, 105] (by decide +kernel) (by decide +kernel)
set_option maxRecDepth 20000 in
theorem gX9_moment_X9_isHead : GoodIn wsX9_moment (wsV RX9 272 RX9 yX9_isHead wsX9_isHead) := goodIn_app (goodIn_of _ (by decide +kernel)) ggX9_moment_X9_isHead
set_option maxRecDepth 20000 in
theorem ggX9_moment_X9_lays : GoodIn wsX9_moment wsX9_lays := goodIn_r _ [26, 7, 27, 28, 29, 30, 31, 5, 32, 33, 34, 35, 36, 37, 38, 39, 40, 41, 19, 20, 21, 22, 42, 43, 44, 45, 46, 47, 48, 49, 50, 51, 52, 53, 54, 55, 56, 57, 58, 59, 84, 85, 86, 87, 88, 89, 90, 91, 92, 93, 94, 95, 96, 97, 98, 99, 100, 101, 102, 103, 104, 105] (by decide +kernel) (by decide +kernel)
set_option maxRecDepth 20000 in
theorem gX9_moment_X9_lays : GoodIn wsX9_moment (wsV RX9 240 RX9 yX9_lays wsX9_lays) := goodIn_app (goodIn_of _ (by decide +kernel)) ggX9_moment_X9_lays
set_option maxRecDepth 20000 in
theorem ggX9_moment_X9_all : GoodIn wsX9_moment wsX9_all := goodIn_r _ [63, 7, 64, 65, 66, 5, 67, 68, 69, 70, 71, 27, 72, 73, 74, 75, 28, 34, 35, 36, 37, 76, 77, 78, 79, 80, 81, 82, 83, 2, 3, 4, 6, 8, 9, 10, 84, 85, 86, 87, 88, 89, 90, 91, 92, 93, 94, 95, 96, 97, 98, 99, 100, 101, 102, 103, 104, 105] (by decide +kernel) (by decide +kernel)
set_option maxRecDepth 20000 in
theorem gX9_moment_X9_all : GoodIn wsX9_moment (wsV RX9 275 RX9 yX9_all wsX9_all) := goodIn_app (goodIn_of _ (by decide +kernel)) ggX9_moment_X9_all
theorem dX9_moment_0 : decode cX9_moment 0 = .ok (.aload_n 0, 1) := by decide +kernel
theorem dX9_moment_1 : decode cX9_moment 1 = .ok (.aload_n 0, 1) := by decide +kernel
theorem dX9_moment_2 : decode cX9_moment 2 = .ok (.iload_n 1, 1) := by decide +kernel
theorem dX9_moment_3 : decode cX9_moment 3 = .ok (.invokevirtual 249, 3) := by decide +kernel
theorem dX9_moment_6 : decode cX9_moment 6 = .ok (.ifCond .ne 7, 3) := by decide +kernel
theorem dX9_moment_9 : decode cX9_moment 9 = .ok (.iconst 1, 1) := by decide +kernel
theorem dX9_moment_10 : decode cX9_moment 10 = .ok (.goto 16, 3) := by decide +kernel
theorem dX9_moment_13 : decode cX9_moment 13 = .ok (.aload_n 0, 1) := by decide +kernel
theorem dX9_moment_14 : decode cX9_moment 14 = .ok (.iload_n 2, 1) := by decide +kernel
theorem dX9_moment_15 : decode cX9_moment 15 = .ok (.invokevirtual 272, 3) := by decide +kernel
theorem dX9_moment_18 : decode cX9_moment 18 = .ok (.ifCond .eq 7, 3) := by decide +kernel
theorem dX9_moment_21 : decode cX9_moment 21 = .ok (.iconst 0, 1) := by decide +kernel
theorem dX9_moment_22 : decode cX9_moment 22 = .ok (.goto 4, 3) := by decide +kernel
theorem dX9_moment_25 : decode cX9_moment 25 = .ok (.iconst 2, 1) := by decide +kernel
theorem dX9_moment_26 : decode cX9_moment 26 = .ok (.putfield 46, 3) := by decide +kernel
theorem dX9_moment_29 : decode cX9_moment 29 = .ok (.aload_n 0, 1) := by decide +kernel
theorem dX9_moment_30 : decode cX9_moment 30 = .ok (.getfield 46, 3) := by decide +kernel
theorem dX9_moment_33 : decode cX9_moment 33 = .ok (.ifCond .le 5, 3) := by decide +kernel
theorem dX9_moment_36 : decode cX9_moment 36 = .ok (.lconst 0, 1) := by decide +kernel
theorem dX9_moment_37 : decode cX9_moment 37 = .ok (.lreturn, 1) := by decide +kernel
theorem dX9_moment_38 : decode cX9_moment 38 = .ok (.aload_n 0, 1) := by decide +kernel
theorem dX9_moment_39 : decode cX9_moment 39 = .ok (.invokevirtual 240, 3) := by decide +kernel
theorem dX9_moment_42 : decode cX9_moment 42 = .ok (.aload_n 0, 1) := by decide +kernel
theorem dX9_moment_43 : decode cX9_moment 43 = .ok (.iconst 2, 1) := by decide +kernel
theorem dX9_moment_44 : decode cX9_moment 44 = .ok (.iload_n 1, 1) := by decide +kernel
theorem dX9_moment_45 : decode cX9_moment 45 = .ok (.iload_n 2, 1) := by decide +kernel
theorem dX9_moment_46 : decode cX9_moment 46 = .ok (.invokevirtual 275, 3) := by decide +kernel
theorem dX9_moment_49 : decode cX9_moment 49 = .ok (.lreturn, 1) := by decide +kernel
set_option maxRecDepth 20000 in
theorem ggX9_worst_X9_lays : GoodIn wsX9_worst wsX9_lays := goodIn_r _ [5, 6, 7, 8, 9, 10, 11, 4, 12, 13, 14, 15, 16, 17, 18, 19, 20, 21, 22, 23, 24, 25, 26, 27, 28, 29, 30, 31, 32, 33, 34, 35, 36, 37, 38, 39, 40, 41, 42, 43, 79, 80, 81, 82, 83, 84, 85, 86, 87, 88, 89, 90, 91, 92, 93, 94, 95, 96, 97, 98, 99, 100] (by decide +kernel) (by decide +kernel)
set_option maxRecDepth 20000 in
theorem gX9_worst_X9_lays : GoodIn wsX9_worst (wsV RX9 240 RX9 yX9_lays wsX9_lays) := goodIn_app (goodIn_of _ (by decide +kernel)) ggX9_worst_X9_lays
set_option maxRecDepth 20000 in
theorem ggX9_worst_X9_all : GoodIn wsX9_worst wsX9_all := goodIn_r _ [47, 6, 48, 49, 50, 4, 51, 52, 53, 54, 55, 7, 56, 57, 58, 59, 8, 14, 15, 16, 17, 60, 61, 62, 63, 64, 65, 66, 67, 68, 69, 70, 71, 72, 73, 74, 79, 80, 81, 82, 83, 84, 85, 86, 87, 88, 89, 90, 91, 92, 93, 94, 95, 96, 97, 98, 99, 100] (by decide +kernel) (by decide +kernel)
set_option maxRecDepth 20000 in
theorem gX9_worst_X9_all : GoodIn wsX9_worst (wsV RX9 275 RX9 yX9_all wsX9_all) := goodIn_app (goodIn_of _ (by decide +kernel)) ggX9_worst_X9_all
set_option maxRecDepth 20000 in
theorem ggX9_worst_X9_lastHead : GoodIn wsX9_worst wsX9_lastHead := goodIn_r _ [78, 6, 22, 23, 24, 25, 79, 80, 81, 82, 83, 84, 85, 86, 87, 88, 89, 90, 91, 92, 93, 94, 95, 96, 97, 98, 99, 100] (by decide +kernel) (by decide +kernel)
set_option maxRecDepth 20000 in
theorem gX9_worst_X9_lastHead : GoodIn wsX9_worst (wsV RX9 237 RX9 yX9_lastHead wsX9_lastHead) := goodIn_app (goodIn_of _ (by decide +kernel)) ggX9_worst_X9_lastHead
theorem dX9_worst_0 : decode cX9_worst 0 = .ok (.aload_n 0, 1) := by decide +kernel
theorem dX9_worst_1 : decode cX9_worst 1 = .ok (.invokevirtual 240, 3) := by decide +kernel
theorem dX9_worst_4 : decode cX9_worst 4 = .ok (.iconst 0, 1) := by decide +kernel
theorem dX9_worst_5 : decode cX9_worst 5 = .ok (.istore 4, 2) := by decide +kernel
theorem dX9_worst_7 : decode cX9_worst 7 = .ok (.aload_n 0, 1) := by decide +kernel
theorem dX9_worst_8 : decode cX9_worst 8 = .ok (.iload_n 1, 1) := by decide +kernel
theorem dX9_worst_9 : decode cX9_worst 9 = .ok (.iload_n 2, 1) := by decide +kernel
theorem dX9_worst_10 : decode cX9_worst 10 = .ok (.iconst 0, 1) := by decide +kernel
theorem dX9_worst_11 : decode cX9_worst 11 = .ok (.invokevirtual 275, 3) := by decide +kernel
theorem dX9_worst_14 : decode cX9_worst 14 = .ok (.lstore 5, 2) := by decide +kernel
theorem dX9_worst_16 : decode cX9_worst 16 = .ok (.iconst 1, 1) := by decide +kernel
theorem dX9_worst_17 : decode cX9_worst 17 = .ok (.istore 7, 2) := by decide +kernel
theorem dX9_worst_19 : decode cX9_worst 19 = .ok (.iload 7, 2) := by decide +kernel
theorem dX9_worst_21 : decode cX9_worst 21 = .ok (.aload_n 0, 1) := by decide +kernel
theorem dX9_worst_22 : decode cX9_worst 22 = .ok (.invokevirtual 237, 3) := by decide +kernel
theorem dX9_worst_25 : decode cX9_worst 25 = .ok (.if_icmp .gt 53, 3) := by decide +kernel
theorem dX9_worst_28 : decode cX9_worst 28 = .ok (.aload_n 0, 1) := by decide +kernel
theorem dX9_worst_29 : decode cX9_worst 29 = .ok (.iload_n 1, 1) := by decide +kernel
theorem dX9_worst_30 : decode cX9_worst 30 = .ok (.iload_n 2, 1) := by decide +kernel
theorem dX9_worst_31 : decode cX9_worst 31 = .ok (.iload 7, 2) := by decide +kernel
theorem dX9_worst_33 : decode cX9_worst 33 = .ok (.invokevirtual 275, 3) := by decide +kernel
theorem dX9_worst_36 : decode cX9_worst 36 = .ok (.lstore 8, 2) := by decide +kernel
theorem dX9_worst_38 : decode cX9_worst 38 = .ok (.iload_n 3, 1) := by decide +kernel
theorem dX9_worst_39 : decode cX9_worst 39 = .ok (.ifCond .eq 14, 3) := by decide +kernel
theorem dX9_worst_42 : decode cX9_worst 42 = .ok (.lload 8, 2) := by decide +kernel
theorem dX9_worst_44 : decode cX9_worst 44 = .ok (.lload 5, 2) := by decide +kernel
theorem dX9_worst_46 : decode cX9_worst 46 = .ok (.lcmp, 1) := by decide +kernel
theorem dX9_worst_47 : decode cX9_worst 47 = .ok (.ifCond .gt 17, 3) := by decide +kernel
theorem dX9_worst_50 : decode cX9_worst 50 = .ok (.goto 22, 3) := by decide +kernel
theorem dX9_worst_53 : decode cX9_worst 53 = .ok (.lload 8, 2) := by decide +kernel
theorem dX9_worst_55 : decode cX9_worst 55 = .ok (.lload 5, 2) := by decide +kernel
theorem dX9_worst_57 : decode cX9_worst 57 = .ok (.lcmp, 1) := by decide +kernel
theorem dX9_worst_58 : decode cX9_worst 58 = .ok (.ifCond .lt 6, 3) := by decide +kernel
theorem dX9_worst_61 : decode cX9_worst 61 = .ok (.goto 11, 3) := by decide +kernel
theorem dX9_worst_64 : decode cX9_worst 64 = .ok (.lload 8, 2) := by decide +kernel
theorem dX9_worst_66 : decode cX9_worst 66 = .ok (.lstore 5, 2) := by decide +kernel
theorem dX9_worst_68 : decode cX9_worst 68 = .ok (.iload 7, 2) := by decide +kernel
theorem dX9_worst_70 : decode cX9_worst 70 = .ok (.istore 4, 2) := by decide +kernel
theorem dX9_worst_72 : decode cX9_worst 72 = .ok (.iinc 7 1, 3) := by decide +kernel
theorem dX9_worst_75 : decode cX9_worst 75 = .ok (.goto (-56), 3) := by decide +kernel
theorem dX9_worst_78 : decode cX9_worst 78 = .ok (.iload 4, 2) := by decide +kernel
theorem dX9_worst_80 : decode cX9_worst 80 = .ok (.ireturn, 1) := by decide +kernel
set_option maxRecDepth 20000 in
theorem ggX9_worstForReaction_X9_isSupport : GoodIn wsX9_worstForReaction wsX9_isSupport := goodIn_r _ [6, 7, 8, 9, 5, 10, 88, 89, 90, 91, 92, 93, 94, 95, 96, 97, 98, 99, 100, 101, 102, 103, 104, 105, 106, 107, 108, 109] (by decide +kernel) (by decide +kernel)
set_option maxRecDepth 20000 in
theorem gX9_worstForReaction_X9_isSupport : GoodIn wsX9_worstForReaction (wsV RX9 243 RX9 yX9_isSupport wsX9_isSupport) := goodIn_app (goodIn_of _ (by decide +kernel)) ggX9_worstForReaction_X9_isSupport
set_option maxRecDepth 20000 in
theorem ggX9_worstForReaction_X9_worst : GoodIn wsX9_worstForReaction wsX9_worst := goodIn_r _ [14, 15, 16, 17, 5, 18, 7, 19, 20, 21, 22, 23, 24, 25, 26, 27, 28, 29, 30, 31, 32, 33, 34, 35, 36, 37, 38, 39, 40, 41, 42, 43, 44, 45, 46, 47, 48, 49, 50, 51, 52, 53, 54, 55, 56, 57, 58, 59, 60, 61, 62, 63, 64, 65, 66, 67, 68, 69, 70, 71, 72, 73, 74, 75, 76, 77, 78, 79, 80, 81, 82, 83, 8, 9, 10, 84, 85, 86, 87, 88, 89, 90, 91, 92, 93, 94, 95, 96, 97, 98, 99, 100, 101, 102, 103, 104, 105, 106, 107, 108, 109] (by decide +kernel) (by decide +kernel)
set_option maxRecDepth 20000 in
theorem gX9_worstForReaction_X9_worst : GoodIn wsX9_worstForReaction (wsV RX9 278 RX9 yX9_worst wsX9_worst) := goodIn_app (goodIn_of _ (by decide +kernel)) ggX9_worstForReaction_X9_worst
theorem dX9_worstForReaction_0 : decode cX9_worstForReaction 0 = .ok (.aload_n 0, 1) := by decide +kernel
theorem dX9_worstForReaction_1 : decode cX9_worstForReaction 1 = .ok (.aload_n 0, 1) := by decide +kernel
theorem dX9_worstForReaction_2 : decode cX9_worstForReaction 2 = .ok (.iload_n 1, 1) := by decide +kernel
theorem dX9_worstForReaction_3 : decode cX9_worstForReaction 3 = .ok (.invokevirtual 243, 3) := by decide +kernel
theorem dX9_worstForReaction_6 : decode cX9_worstForReaction 6 = .ok (.ifCond .eq 7, 3) := by decide +kernel
theorem dX9_worstForReaction_9 : decode cX9_worstForReaction 9 = .ok (.iconst 0, 1) := by decide +kernel
theorem dX9_worstForReaction_10 : decode cX9_worstForReaction 10 = .ok (.goto 4, 3) := by decide +kernel
theorem dX9_worstForReaction_13 : decode cX9_worstForReaction 13 = .ok (.iconst 1, 1) := by decide +kernel
theorem dX9_worstForReaction_14 : decode cX9_worstForReaction 14 = .ok (.putfield 46, 3) := by decide +kernel
theorem dX9_worstForReaction_17 : decode cX9_worstForReaction 17 = .ok (.aload_n 0, 1) := by decide +kernel
theorem dX9_worstForReaction_18 : decode cX9_worstForReaction 18 = .ok (.getfield 46, 3) := by decide +kernel
theorem dX9_worstForReaction_21 : decode cX9_worstForReaction 21 = .ok (.ifCond .le 7, 3) := by decide +kernel
theorem dX9_worstForReaction_24 : decode cX9_worstForReaction 24 = .ok (.iconst 0, 1) := by decide +kernel
theorem dX9_worstForReaction_25 : decode cX9_worstForReaction 25 = .ok (.goto 10, 3) := by decide +kernel
theorem dX9_worstForReaction_28 : decode cX9_worstForReaction 28 = .ok (.aload_n 0, 1) := by decide +kernel
theorem dX9_worstForReaction_29 : decode cX9_worstForReaction 29 = .ok (.iconst 0, 1) := by decide +kernel
theorem dX9_worstForReaction_30 : decode cX9_worstForReaction 30 = .ok (.iload_n 1, 1) := by decide +kernel
theorem dX9_worstForReaction_31 : decode cX9_worstForReaction 31 = .ok (.iload_n 2, 1) := by decide +kernel
theorem dX9_worstForReaction_32 : decode cX9_worstForReaction 32 = .ok (.invokevirtual 278, 3) := by decide +kernel
theorem dX9_worstForReaction_35 : decode cX9_worstForReaction 35 = .ok (.ireturn, 1) := by decide +kernel
set_option maxRecDepth 20000 in
theorem ggX9_worstForShear_X9_isField : GoodIn wsX9_worstForShear wsX9_isField := goodIn_r _ [6, 7, 8, 9, 5, 10, 88, 89, 90, 91, 92, 93, 94, 95, 96, 97, 98, 99, 100, 101, 102, 103, 104, 105, 106, 107, 108, 109] (by decide +kernel) (by decide +kernel)
set_option maxRecDepth 20000 in
theorem gX9_worstForShear_X9_isField : GoodIn wsX9_worstForShear (wsV RX9 252 RX9 yX9_isField wsX9_isField) := goodIn_app (goodIn_of _ (by decide +kernel)) ggX9_worstForShear_X9_isField
set_option maxRecDepth 20000 in
theorem ggX9_worstForShear_X9_worst : GoodIn wsX9_worstForShear wsX9_worst := goodIn_r _ [14, 15, 16, 17, 5, 18, 7, 19, 20, 21, 22, 23, 24, 25, 26, 27, 28, 29, 30, 31, 32, 33, 34, 35, 36, 37, 38, 39, 40, 41, 42, 43, 44, 45, 46, 47, 48, 49, 50, 51, 52, 53, 54, 55, 56, 57, 58, 59, 60, 61, 62, 63, 64, 65, 66, 67, 68, 69, 70, 71, 72, 73, 74, 75, 76, 77, 78, 79, 80, 81, 82, 83, 8, 9, 10, 84, 85, 86, 87, 88, 89, 90, 91, 92, 93, 94, 95, 96, 97, 98, 99, 100, 101, 102, 103, 104, 105, 106, 107, 108, 109] (by decide +kernel) (by decide +kernel)
set_option maxRecDepth 20000 in
theorem gX9_worstForShear_X9_worst : GoodIn wsX9_worstForShear (wsV RX9 278 RX9 yX9_worst wsX9_worst) := goodIn_app (goodIn_of _ (by decide +kernel)) ggX9_worstForShear_X9_worst
theorem dX9_worstForShear_0 : decode cX9_worstForShear 0 = .ok (.aload_n 0, 1) := by decide +kernel
theorem dX9_worstForShear_1 : decode cX9_worstForShear 1 = .ok (.aload_n 0, 1) := by decide +kernel
theorem dX9_worstForShear_2 : decode cX9_worstForShear 2 = .ok (.iload_n 1, 1) := by decide +kernel
theorem dX9_worstForShear_3 : decode cX9_worstForShear 3 = .ok (.invokevirtual 252, 3) := by decide +kernel
theorem dX9_worstForShear_6 : decode cX9_worstForShear 6 = .ok (.ifCond .eq 7, 3) := by decide +kernel
theorem dX9_worstForShear_9 : decode cX9_worstForShear 9 = .ok (.iconst 0, 1) := by decide +kernel
theorem dX9_worstForShear_10 : decode cX9_worstForShear 10 = .ok (.goto 4, 3) := by decide +kernel
theorem dX9_worstForShear_13 : decode cX9_worstForShear 13 = .ok (.iconst 1, 1) := by decide +kernel
theorem dX9_worstForShear_14 : decode cX9_worstForShear 14 = .ok (.putfield 46, 3) := by decide +kernel
theorem dX9_worstForShear_17 : decode cX9_worstForShear 17 = .ok (.aload_n 0, 1) := by decide +kernel
theorem dX9_worstForShear_18 : decode cX9_worstForShear 18 = .ok (.getfield 46, 3) := by decide +kernel
theorem dX9_worstForShear_21 : decode cX9_worstForShear 21 = .ok (.ifCond .le 7, 3) := by decide +kernel
theorem dX9_worstForShear_24 : decode cX9_worstForShear 24 = .ok (.iconst 0, 1) := by decide +kernel
theorem dX9_worstForShear_25 : decode cX9_worstForShear 25 = .ok (.goto 10, 3) := by decide +kernel
theorem dX9_worstForShear_28 : decode cX9_worstForShear 28 = .ok (.aload_n 0, 1) := by decide +kernel
theorem dX9_worstForShear_29 : decode cX9_worstForShear 29 = .ok (.iconst 1, 1) := by decide +kernel
theorem dX9_worstForShear_30 : decode cX9_worstForShear 30 = .ok (.iload_n 1, 1) := by decide +kernel
theorem dX9_worstForShear_31 : decode cX9_worstForShear 31 = .ok (.iload_n 2, 1) := by decide +kernel
theorem dX9_worstForShear_32 : decode cX9_worstForShear 32 = .ok (.invokevirtual 278, 3) := by decide +kernel
theorem dX9_worstForShear_35 : decode cX9_worstForShear 35 = .ok (.ireturn, 1) := by decide +kernel
set_option maxRecDepth 20000 in
theorem ggX9_worstForMoment_X9_isPlace : GoodIn wsX9_worstForMoment wsX9_isPlace := goodIn_r _ [6, 7, 8, 9, 5, 10, 84, 85, 86, 87, 88, 89, 90, 91, 92, 93, 94, 95, 96, 97, 98, 99, 100, 101, 102, 103, 104, 105] (by decide +kernel) (by decide +kernel)
set_option maxRecDepth 20000 in
theorem gX9_worstForMoment_X9_isPlace : GoodIn wsX9_worstForMoment (wsV RX9 249 RX9 yX9_isPlace wsX9_isPlace) := goodIn_app (goodIn_of _ (by decide +kernel)) ggX9_worstForMoment_X9_isPlace
set_option maxRecDepth 20000 in
theorem ggX9_worstForMoment_X9_worst : GoodIn wsX9_worstForMoment wsX9_worst := goodIn_r _ [14, 15, 16, 17, 5, 18, 7, 19, 20, 21, 22, 23, 24, 25, 26, 27, 28, 29, 30, 31, 32, 33, 34, 35, 36, 37, 38, 39, 40, 41, 42, 43, 44, 45, 46, 47, 48, 49, 50, 51, 52, 53, 54, 55, 56, 57, 58, 59, 60, 61, 62, 63, 64, 65, 66, 67, 68, 69, 70, 71, 72, 73, 74, 75, 76, 77, 78, 79, 2, 3, 4, 6, 8, 9, 10, 80, 81, 82, 83, 84, 85, 86, 87, 88, 89, 90, 91, 92, 93, 94, 95, 96, 97, 98, 99, 100, 101, 102, 103, 104, 105] (by decide +kernel) (by decide +kernel)
set_option maxRecDepth 20000 in
theorem gX9_worstForMoment_X9_worst : GoodIn wsX9_worstForMoment (wsV RX9 278 RX9 yX9_worst wsX9_worst) := goodIn_app (goodIn_of _ (by decide +kernel)) ggX9_worstForMoment_X9_worst
theorem dX9_worstForMoment_0 : decode cX9_worstForMoment 0 = .ok (.aload_n 0, 1) := by decide +kernel
theorem dX9_worstForMoment_1 : decode cX9_worstForMoment 1 = .ok (.aload_n 0, 1) := by decide +kernel
theorem dX9_worstForMoment_2 : decode cX9_worstForMoment 2 = .ok (.iload_n 1, 1) := by decide +kernel
theorem dX9_worstForMoment_3 : decode cX9_worstForMoment 3 = .ok (.invokevirtual 249, 3) := by decide +kernel
theorem dX9_worstForMoment_6 : decode cX9_worstForMoment 6 = .ok (.ifCond .eq 7, 3) := by decide +kernel
theorem dX9_worstForMoment_9 : decode cX9_worstForMoment 9 = .ok (.iconst 0, 1) := by decide +kernel
theorem dX9_worstForMoment_10 : decode cX9_worstForMoment 10 = .ok (.goto 4, 3) := by decide +kernel
theorem dX9_worstForMoment_13 : decode cX9_worstForMoment 13 = .ok (.iconst 1, 1) := by decide +kernel
theorem dX9_worstForMoment_14 : decode cX9_worstForMoment 14 = .ok (.putfield 46, 3) := by decide +kernel
theorem dX9_worstForMoment_17 : decode cX9_worstForMoment 17 = .ok (.aload_n 0, 1) := by decide +kernel
theorem dX9_worstForMoment_18 : decode cX9_worstForMoment 18 = .ok (.getfield 46, 3) := by decide +kernel
theorem dX9_worstForMoment_21 : decode cX9_worstForMoment 21 = .ok (.ifCond .le 7, 3) := by decide +kernel
theorem dX9_worstForMoment_24 : decode cX9_worstForMoment 24 = .ok (.iconst 0, 1) := by decide +kernel
theorem dX9_worstForMoment_25 : decode cX9_worstForMoment 25 = .ok (.goto 10, 3) := by decide +kernel
theorem dX9_worstForMoment_28 : decode cX9_worstForMoment 28 = .ok (.aload_n 0, 1) := by decide +kernel
theorem dX9_worstForMoment_29 : decode cX9_worstForMoment 29 = .ok (.iconst 2, 1) := by decide +kernel
theorem dX9_worstForMoment_30 : decode cX9_worstForMoment 30 = .ok (.iload_n 1, 1) := by decide +kernel
theorem dX9_worstForMoment_31 : decode cX9_worstForMoment 31 = .ok (.iload_n 2, 1) := by decide +kernel
theorem dX9_worstForMoment_32 : decode cX9_worstForMoment 32 = .ok (.invokevirtual 278, 3) := by decide +kernel
theorem dX9_worstForMoment_35 : decode cX9_worstForMoment 35 = .ok (.ireturn, 1) := by decide +kernel
theorem dX9_size_0 : decode cX9_size 0 = .ok (.lload_n 0, 1) := by decide +kernel
theorem dX9_size_1 : decode cX9_size 1 = .ok (.lconst 0, 1) := by decide +kernel
theorem dX9_size_2 : decode cX9_size 2 = .ok (.lcmp, 1) := by decide +kernel
theorem dX9_size_3 : decode cX9_size 3 = .ok (.ifCond .ge 8, 3) := by decide +kernel
theorem dX9_size_6 : decode cX9_size 6 = .ok (.lload_n 0, 1) := by decide +kernel
theorem dX9_size_7 : decode cX9_size 7 = .ok (.lneg, 1) := by decide +kernel
theorem dX9_size_8 : decode cX9_size 8 = .ok (.goto 4, 3) := by decide +kernel
theorem dX9_size_11 : decode cX9_size 11 = .ok (.lload_n 0, 1) := by decide +kernel
theorem dX9_size_12 : decode cX9_size 12 = .ok (.lreturn, 1) := by decide +kernel
set_option maxRecDepth 20000 in
theorem ggX9_greatestAt_X9_lastHead : GoodIn wsX9_greatestAt wsX9_lastHead := goodIn_r _ [9, 10, 11, 12, 3, 13, 54, 55, 56, 57, 58, 59, 60, 61, 62, 63, 64, 65, 66, 67, 68, 69, 70, 71, 72, 73, 74, 75] (by decide +kernel) (by decide +kernel)
set_option maxRecDepth 20000 in
theorem gX9_greatestAt_X9_lastHead : GoodIn wsX9_greatestAt (wsV RX9 237 RX9 yX9_lastHead wsX9_lastHead) := goodIn_app (goodIn_of _ (by decide +kernel)) ggX9_greatestAt_X9_lastHead
set_option maxRecDepth 20000 in
theorem ggX9_greatestAt_X9_all : GoodIn wsX9_greatestAt wsX9_all := goodIn_r _ [17, 10, 18, 19, 20, 8, 21, 22, 23, 24, 25, 26, 27, 28, 29, 30, 31, 32, 33, 34, 35, 36, 37, 38, 39, 40, 41, 42, 43, 44, 45, 46, 47, 48, 49, 50, 54, 55, 56, 57, 58, 59, 60, 61, 62, 63, 64, 65, 66, 67, 68, 69, 70, 71, 72, 73, 74, 75] (by decide +kernel) (by decide +kernel)
set_option maxRecDepth 20000 in
theorem gX9_greatestAt_X9_all : GoodIn wsX9_greatestAt (wsV RX9 275 RX9 yX9_all wsX9_all) := goodIn_app (goodIn_of _ (by decide +kernel)) ggX9_greatestAt_X9_all
set_option maxRecDepth 20000 in
theorem ggX9_greatestAt_X9_size : GoodIn wsX9_greatestAt wsX9_size := goodIn_r _ [53] (by decide +kernel) (by decide +kernel)
set_option maxRecDepth 20000 in
theorem gX9_greatestAt_X9_size : GoodIn wsX9_greatestAt (va_wsS RX9 282 yX9_size wsX9_size) := goodIn_app (goodIn_of _ (by decide +kernel)) ggX9_greatestAt_X9_size
theorem dX9_greatestAt_0 : decode cX9_greatestAt 0 = .ok (.lconst 0, 1) := by decide +kernel
theorem dX9_greatestAt_1 : decode cX9_greatestAt 1 = .ok (.lstore_n 2, 1) := by decide +kernel
theorem dX9_greatestAt_2 : decode cX9_greatestAt 2 = .ok (.iconst 0, 1) := by decide +kernel
theorem dX9_greatestAt_3 : decode cX9_greatestAt 3 = .ok (.istore 4, 2) := by decide +kernel
theorem dX9_greatestAt_5 : decode cX9_greatestAt 5 = .ok (.iload 4, 2) := by decide +kernel
theorem dX9_greatestAt_7 : decode cX9_greatestAt 7 = .ok (.aload_n 0, 1) := by decide +kernel
theorem dX9_greatestAt_8 : decode cX9_greatestAt 8 = .ok (.invokevirtual 237, 3) := by decide +kernel
theorem dX9_greatestAt_11 : decode cX9_greatestAt 11 = .ok (.if_icmp .gt 25, 3) := by decide +kernel
theorem dX9_greatestAt_14 : decode cX9_greatestAt 14 = .ok (.lload_n 2, 1) := by decide +kernel
theorem dX9_greatestAt_15 : decode cX9_greatestAt 15 = .ok (.aload_n 0, 1) := by decide +kernel
theorem dX9_greatestAt_16 : decode cX9_greatestAt 16 = .ok (.iconst 2, 1) := by decide +kernel
theorem dX9_greatestAt_17 : decode cX9_greatestAt 17 = .ok (.iload_n 1, 1) := by decide +kernel
theorem dX9_greatestAt_18 : decode cX9_greatestAt 18 = .ok (.iload 4, 2) := by decide +kernel
theorem dX9_greatestAt_20 : decode cX9_greatestAt 20 = .ok (.invokevirtual 275, 3) := by decide +kernel
theorem dX9_greatestAt_23 : decode cX9_greatestAt 23 = .ok (.invokestatic 282, 3) := by decide +kernel
theorem dX9_greatestAt_26 : decode cX9_greatestAt 26 = .ok (.invokestatic 286, 3) := by decide +kernel
theorem dX9_greatestAt_29 : decode cX9_greatestAt 29 = .ok (.lstore_n 2, 1) := by decide +kernel
theorem dX9_greatestAt_30 : decode cX9_greatestAt 30 = .ok (.iinc 4 1, 3) := by decide +kernel
theorem dX9_greatestAt_33 : decode cX9_greatestAt 33 = .ok (.goto (-28), 3) := by decide +kernel
theorem dX9_greatestAt_36 : decode cX9_greatestAt 36 = .ok (.lload_n 2, 1) := by decide +kernel
theorem dX9_greatestAt_37 : decode cX9_greatestAt 37 = .ok (.lreturn, 1) := by decide +kernel
set_option maxRecDepth 20000 in
theorem ggX9_worstPlace_X9_places : GoodIn wsX9_worstPlace wsX9_places := goodIn_r _ [6, 7, 63, 64, 65, 66, 67, 68, 69, 70, 71, 72, 73, 74, 75, 76, 77, 78, 79, 80, 81, 82, 83, 84] (by decide +kernel) (by decide +kernel)
set_option maxRecDepth 20000 in
theorem gX9_worstPlace_X9_places : GoodIn wsX9_worstPlace (wsV RX9 220 RX9 yX9_places wsX9_places) := goodIn_app (goodIn_of _ (by decide +kernel)) ggX9_worstPlace_X9_places
set_option maxRecDepth 20000 in
theorem ggX9_worstPlace_X9_greatestAt : GoodIn wsX9_worstPlace wsX9_greatestAt := goodIn_r _ [11, 12, 13, 14, 15, 16, 17, 18, 5, 19, 7, 20, 21, 22, 23, 24, 25, 26, 27, 28, 29, 30, 31, 32, 33, 34, 35, 36, 37, 38, 39, 40, 41, 42, 43, 44, 45, 46, 47, 48, 49, 50, 51, 52, 53, 54, 55, 56, 57, 58, 59, 60, 61, 62, 63, 64, 65, 66, 67, 68, 69, 70, 71, 72, 73, 74, 75, 76, 77, 78, 79, 80, 81, 82, 83, 84] (by decide +kernel) (by decide +kernel)
set_option maxRecDepth 20000 in
theorem gX9_worstPlace_X9_greatestAt : GoodIn wsX9_worstPlace (wsV RX9 290 RX9 yX9_greatestAt wsX9_greatestAt) := goodIn_app (goodIn_of _ (by decide +kernel)) ggX9_worstPlace_X9_greatestAt
theorem dX9_worstPlace_0 : decode cX9_worstPlace 0 = .ok (.iconst 0, 1) := by decide +kernel
theorem dX9_worstPlace_1 : decode cX9_worstPlace 1 = .ok (.istore_n 1, 1) := by decide +kernel
theorem dX9_worstPlace_2 : decode cX9_worstPlace 2 = .ok (.ldc2_w 288, 3) := by decide +kernel
theorem dX9_worstPlace_5 : decode cX9_worstPlace 5 = .ok (.lstore_n 2, 1) := by decide +kernel
theorem dX9_worstPlace_6 : decode cX9_worstPlace 6 = .ok (.iconst 0, 1) := by decide +kernel
theorem dX9_worstPlace_7 : decode cX9_worstPlace 7 = .ok (.istore 4, 2) := by decide +kernel
theorem dX9_worstPlace_9 : decode cX9_worstPlace 9 = .ok (.iload 4, 2) := by decide +kernel
theorem dX9_worstPlace_11 : decode cX9_worstPlace 11 = .ok (.aload_n 0, 1) := by decide +kernel
theorem dX9_worstPlace_12 : decode cX9_worstPlace 12 = .ok (.invokevirtual 220, 3) := by decide +kernel
theorem dX9_worstPlace_15 : decode cX9_worstPlace 15 = .ok (.if_icmp .ge 33, 3) := by decide +kernel
theorem dX9_worstPlace_18 : decode cX9_worstPlace 18 = .ok (.aload_n 0, 1) := by decide +kernel
theorem dX9_worstPlace_19 : decode cX9_worstPlace 19 = .ok (.iload 4, 2) := by decide +kernel
theorem dX9_worstPlace_21 : decode cX9_worstPlace 21 = .ok (.invokevirtual 290, 3) := by decide +kernel
theorem dX9_worstPlace_24 : decode cX9_worstPlace 24 = .ok (.lstore 5, 2) := by decide +kernel
theorem dX9_worstPlace_26 : decode cX9_worstPlace 26 = .ok (.lload 5, 2) := by decide +kernel
theorem dX9_worstPlace_28 : decode cX9_worstPlace 28 = .ok (.lload_n 2, 1) := by decide +kernel
theorem dX9_worstPlace_29 : decode cX9_worstPlace 29 = .ok (.lcmp, 1) := by decide +kernel
theorem dX9_worstPlace_30 : decode cX9_worstPlace 30 = .ok (.ifCond .gt 6, 3) := by decide +kernel
theorem dX9_worstPlace_33 : decode cX9_worstPlace 33 = .ok (.goto 9, 3) := by decide +kernel
theorem dX9_worstPlace_36 : decode cX9_worstPlace 36 = .ok (.lload 5, 2) := by decide +kernel
theorem dX9_worstPlace_38 : decode cX9_worstPlace 38 = .ok (.lstore_n 2, 1) := by decide +kernel
theorem dX9_worstPlace_39 : decode cX9_worstPlace 39 = .ok (.iload 4, 2) := by decide +kernel
theorem dX9_worstPlace_41 : decode cX9_worstPlace 41 = .ok (.istore_n 1, 1) := by decide +kernel
theorem dX9_worstPlace_42 : decode cX9_worstPlace 42 = .ok (.iinc 4 1, 3) := by decide +kernel
theorem dX9_worstPlace_45 : decode cX9_worstPlace 45 = .ok (.goto (-36), 3) := by decide +kernel
theorem dX9_worstPlace_48 : decode cX9_worstPlace 48 = .ok (.iload_n 1, 1) := by decide +kernel
theorem dX9_worstPlace_49 : decode cX9_worstPlace 49 = .ok (.ireturn, 1) := by decide +kernel
set_option maxRecDepth 20000 in
theorem ggX9_worstSection_X9_lays : GoodIn wsX9_worstSection wsX9_lays := goodIn_r _ [6, 7, 8, 9, 10, 11, 12, 5, 13, 14, 15, 16, 17, 18, 19, 20, 21, 22, 23, 24, 25, 26, 27, 28, 29, 30, 31, 32, 33, 34, 35, 36, 37, 38, 39, 40, 41, 42, 43, 44, 95, 96, 97, 98, 99, 100, 101, 102, 103, 104, 105, 106, 107, 108, 109, 110, 111, 112, 113, 114, 115, 116] (by decide +kernel) (by decide +kernel)
set_option maxRecDepth 20000 in
theorem gX9_worstSection_X9_lays : GoodIn wsX9_worstSection (wsV RX9 240 RX9 yX9_lays wsX9_lays) := goodIn_app (goodIn_of _ (by decide +kernel)) ggX9_worstSection_X9_lays
set_option maxRecDepth 20000 in
theorem ggX9_worstSection_X9_worstPlace : GoodIn wsX9_worstSection wsX9_worstPlace := goodIn_r _ [48, 49, 38, 39, 40, 5, 41, 7, 50, 51, 52, 53, 54, 55, 25, 56, 57, 58, 59, 60, 23, 24, 26, 61, 62, 63, 64, 65, 66, 67, 68, 69, 70, 71, 72, 8, 73, 74, 75, 76, 9, 15, 16, 17, 18, 77, 78, 79, 80, 81, 82, 83, 84, 85, 86, 87, 88, 89, 90, 91, 92, 93, 94, 95, 96, 97, 98, 99, 100, 101, 102, 103, 104, 105, 106, 107, 108, 109, 110, 111, 112, 113, 114, 115, 116] (by decide +kernel) (by decide +kernel)
set_option maxRecDepth 20000 in
theorem gX9_worstSection_X9_worstPlace : GoodIn wsX9_worstSection (wsV RX9 293 RX9 yX9_worstPlace wsX9_worstPlace) := goodIn_app (goodIn_of _ (by decide +kernel)) ggX9_worstSection_X9_worstPlace
theorem dX9_worstSection_0 : decode cX9_worstSection 0 = .ok (.aload_n 0, 1) := by decide +kernel
theorem dX9_worstSection_1 : decode cX9_worstSection 1 = .ok (.iconst 0, 1) := by decide +kernel
theorem dX9_worstSection_2 : decode cX9_worstSection 2 = .ok (.putfield 46, 3) := by decide +kernel
theorem dX9_worstSection_5 : decode cX9_worstSection 5 = .ok (.aload_n 0, 1) := by decide +kernel
theorem dX9_worstSection_6 : decode cX9_worstSection 6 = .ok (.invokevirtual 240, 3) := by decide +kernel
theorem dX9_worstSection_9 : decode cX9_worstSection 9 = .ok (.aload_n 0, 1) := by decide +kernel
theorem dX9_worstSection_10 : decode cX9_worstSection 10 = .ok (.invokevirtual 293, 3) := by decide +kernel
theorem dX9_worstSection_13 : decode cX9_worstSection 13 = .ok (.ireturn, 1) := by decide +kernel
set_option maxRecDepth 20000 in
theorem ggX9_dangerAt_X9_all : GoodIn wsX9_dangerAt wsX9_all := goodIn_r _ [7, 1, 8, 9, 10, 6, 11, 12, 13, 14, 15, 16, 17, 18, 19, 20, 2, 21, 22, 23, 24, 25, 26, 27, 28, 29, 30, 31, 32, 33, 34, 35, 36, 37, 38, 39, 51, 52, 53, 54, 55, 56, 57, 58, 59, 60, 61, 62, 63, 64, 65, 66, 67, 68, 69, 70, 71, 72] (by decide +kernel) (by decide +kernel)
set_option maxRecDepth 20000 in
theorem gX9_dangerAt_X9_all : GoodIn wsX9_dangerAt (wsV RX9 275 RX9 yX9_all wsX9_all) := goodIn_app (goodIn_of _ (by decide +kernel)) ggX9_dangerAt_X9_all
set_option maxRecDepth 20000 in
theorem ggX9_dangerAt_X9_bearsOf : GoodIn wsX9_dangerAt wsX9_bearsOf := goodIn_r _ [43, 1, 51, 52, 53, 54, 55, 56, 57, 58, 59, 60, 61, 62, 63, 64, 65, 66, 67, 68, 69, 70, 71, 72] (by decide +kernel) (by decide +kernel)
set_option maxRecDepth 20000 in
theorem gX9_dangerAt_X9_bearsOf : GoodIn wsX9_dangerAt (wsV RX9 296 RX9 yX9_bearsOf wsX9_bearsOf) := goodIn_app (goodIn_of _ (by decide +kernel)) ggX9_dangerAt_X9_bearsOf
set_option maxRecDepth 20000 in
theorem ggX9_dangerAt_X9_places : GoodIn wsX9_dangerAt wsX9_places := goodIn_r _ [47, 1, 51, 52, 53, 54, 55, 56, 57, 58, 59, 60, 61, 62, 63, 64, 65, 66, 67, 68, 69, 70, 71, 72] (by decide +kernel) (by decide +kernel)
set_option maxRecDepth 20000 in
theorem gX9_dangerAt_X9_places : GoodIn wsX9_dangerAt (wsV RX9 220 RX9 yX9_places wsX9_places) := goodIn_app (goodIn_of _ (by decide +kernel)) ggX9_dangerAt_X9_places
set_option maxRecDepth 20000 in
theorem ggX9_dangerAt_X9_size : GoodIn wsX9_dangerAt wsX9_size := goodIn_r _ [50] (by decide +kernel) (by decide +kernel)
set_option maxRecDepth 20000 in
theorem gX9_dangerAt_X9_size : GoodIn wsX9_dangerAt (va_wsS RX9 282 yX9_size wsX9_size) := goodIn_app (goodIn_of _ (by decide +kernel)) ggX9_dangerAt_X9_size
theorem dX9_dangerAt_0 : decode cX9_dangerAt 0 = .ok (.iconst 0, 1) := by decide +kernel
theorem dX9_dangerAt_1 : decode cX9_dangerAt 1 = .ok (.istore_n 2, 1) := by decide +kernel
theorem dX9_dangerAt_2 : decode cX9_dangerAt 2 = .ok (.iconst 0, 1) := by decide +kernel
theorem dX9_dangerAt_3 : decode cX9_dangerAt 3 = .ok (.istore_n 3, 1) := by decide +kernel
theorem dX9_dangerAt_4 : decode cX9_dangerAt 4 = .ok (.iconst 0, 1) := by decide +kernel
theorem dX9_dangerAt_5 : decode cX9_dangerAt 5 = .ok (.istore 4, 2) := by decide +kernel
theorem dX9_dangerAt_7 : decode cX9_dangerAt 7 = .ok (.iload 4, 2) := by decide +kernel
theorem dX9_dangerAt_9 : decode cX9_dangerAt 9 = .ok (.aload_n 0, 1) := by decide +kernel
theorem dX9_dangerAt_10 : decode cX9_dangerAt 10 = .ok (.getfield 7, 3) := by decide +kernel
theorem dX9_dangerAt_13 : decode cX9_dangerAt 13 = .ok (.iconst 2, 1) := by decide +kernel
theorem dX9_dangerAt_14 : decode cX9_dangerAt 14 = .ok (.iaload, 1) := by decide +kernel
theorem dX9_dangerAt_15 : decode cX9_dangerAt 15 = .ok (.if_icmp .ge 74, 3) := by decide +kernel
theorem dX9_dangerAt_18 : decode cX9_dangerAt 18 = .ok (.aload_n 0, 1) := by decide +kernel
theorem dX9_dangerAt_19 : decode cX9_dangerAt 19 = .ok (.iconst 0, 1) := by decide +kernel
theorem dX9_dangerAt_20 : decode cX9_dangerAt 20 = .ok (.iload 4, 2) := by decide +kernel
theorem dX9_dangerAt_22 : decode cX9_dangerAt 22 = .ok (.iload_n 1, 1) := by decide +kernel
theorem dX9_dangerAt_23 : decode cX9_dangerAt 23 = .ok (.invokevirtual 275, 3) := by decide +kernel
theorem dX9_dangerAt_26 : decode cX9_dangerAt 26 = .ok (.lstore 5, 2) := by decide +kernel
theorem dX9_dangerAt_28 : decode cX9_dangerAt 28 = .ok (.iload_n 2, 1) := by decide +kernel
theorem dX9_dangerAt_29 : decode cX9_dangerAt 29 = .ok (.ifCond .ne 10, 3) := by decide +kernel
theorem dX9_dangerAt_32 : decode cX9_dangerAt 32 = .ok (.lload 5, 2) := by decide +kernel
theorem dX9_dangerAt_34 : decode cX9_dangerAt 34 = .ok (.lconst 0, 1) := by decide +kernel
theorem dX9_dangerAt_35 : decode cX9_dangerAt 35 = .ok (.lcmp, 1) := by decide +kernel
theorem dX9_dangerAt_36 : decode cX9_dangerAt 36 = .ok (.ifCond .ge 7, 3) := by decide +kernel
theorem dX9_dangerAt_39 : decode cX9_dangerAt 39 = .ok (.iconst 1, 1) := by decide +kernel
theorem dX9_dangerAt_40 : decode cX9_dangerAt 40 = .ok (.goto 4, 3) := by decide +kernel
theorem dX9_dangerAt_43 : decode cX9_dangerAt 43 = .ok (.iconst 0, 1) := by decide +kernel
theorem dX9_dangerAt_44 : decode cX9_dangerAt 44 = .ok (.istore_n 2, 1) := by decide +kernel
theorem dX9_dangerAt_45 : decode cX9_dangerAt 45 = .ok (.iload_n 3, 1) := by decide +kernel
theorem dX9_dangerAt_46 : decode cX9_dangerAt 46 = .ok (.ifCond .ne 31, 3) := by decide +kernel
theorem dX9_dangerAt_49 : decode cX9_dangerAt 49 = .ok (.aload_n 0, 1) := by decide +kernel
theorem dX9_dangerAt_50 : decode cX9_dangerAt 50 = .ok (.iload 4, 2) := by decide +kernel
theorem dX9_dangerAt_52 : decode cX9_dangerAt 52 = .ok (.invokevirtual 296, 3) := by decide +kernel
theorem dX9_dangerAt_55 : decode cX9_dangerAt 55 = .ok (.iconst (-1), 1) := by decide +kernel
theorem dX9_dangerAt_56 : decode cX9_dangerAt 56 = .ok (.if_icmp .eq 25, 3) := by decide +kernel
theorem dX9_dangerAt_59 : decode cX9_dangerAt 59 = .ok (.lload 5, 2) := by decide +kernel
theorem dX9_dangerAt_61 : decode cX9_dangerAt 61 = .ok (.aload_n 0, 1) := by decide +kernel
theorem dX9_dangerAt_62 : decode cX9_dangerAt 62 = .ok (.iload 4, 2) := by decide +kernel
theorem dX9_dangerAt_64 : decode cX9_dangerAt 64 = .ok (.invokevirtual 296, 3) := by decide +kernel
theorem dX9_dangerAt_67 : decode cX9_dangerAt 67 = .ok (.i2l, 1) := by decide +kernel
theorem dX9_dangerAt_68 : decode cX9_dangerAt 68 = .ok (.aload_n 0, 1) := by decide +kernel
theorem dX9_dangerAt_69 : decode cX9_dangerAt 69 = .ok (.getfield 227, 3) := by decide +kernel
theorem dX9_dangerAt_72 : decode cX9_dangerAt 72 = .ok (.lmul, 1) := by decide +kernel
theorem dX9_dangerAt_73 : decode cX9_dangerAt 73 = .ok (.lcmp, 1) := by decide +kernel
theorem dX9_dangerAt_74 : decode cX9_dangerAt 74 = .ok (.ifCond .le 7, 3) := by decide +kernel
theorem dX9_dangerAt_77 : decode cX9_dangerAt 77 = .ok (.iconst 1, 1) := by decide +kernel
theorem dX9_dangerAt_78 : decode cX9_dangerAt 78 = .ok (.goto 4, 3) := by decide +kernel
theorem dX9_dangerAt_81 : decode cX9_dangerAt 81 = .ok (.iconst 0, 1) := by decide +kernel
theorem dX9_dangerAt_82 : decode cX9_dangerAt 82 = .ok (.istore_n 3, 1) := by decide +kernel
theorem dX9_dangerAt_83 : decode cX9_dangerAt 83 = .ok (.iinc 4 1, 3) := by decide +kernel
theorem dX9_dangerAt_86 : decode cX9_dangerAt 86 = .ok (.goto (-79), 3) := by decide +kernel
theorem dX9_dangerAt_89 : decode cX9_dangerAt 89 = .ok (.iload_n 2, 1) := by decide +kernel
theorem dX9_dangerAt_90 : decode cX9_dangerAt 90 = .ok (.ifCond .ne 7, 3) := by decide +kernel
theorem dX9_dangerAt_93 : decode cX9_dangerAt 93 = .ok (.iload_n 3, 1) := by decide +kernel
theorem dX9_dangerAt_94 : decode cX9_dangerAt 94 = .ok (.ifCond .eq 13, 3) := by decide +kernel
theorem dX9_dangerAt_97 : decode cX9_dangerAt 97 = .ok (.iload_n 2, 1) := by decide +kernel
theorem dX9_dangerAt_98 : decode cX9_dangerAt 98 = .ok (.ifCond .eq 7, 3) := by decide +kernel
theorem dX9_dangerAt_101 : decode cX9_dangerAt 101 = .ok (.iconst 1, 1) := by decide +kernel
theorem dX9_dangerAt_102 : decode cX9_dangerAt 102 = .ok (.goto 4, 3) := by decide +kernel
theorem dX9_dangerAt_105 : decode cX9_dangerAt 105 = .ok (.iconst 2, 1) := by decide +kernel
theorem dX9_dangerAt_106 : decode cX9_dangerAt 106 = .ok (.ireturn, 1) := by decide +kernel
theorem dX9_dangerAt_107 : decode cX9_dangerAt 107 = .ok (.iconst 0, 1) := by decide +kernel
theorem dX9_dangerAt_108 : decode cX9_dangerAt 108 = .ok (.istore 4, 2) := by decide +kernel
theorem dX9_dangerAt_110 : decode cX9_dangerAt 110 = .ok (.iload 4, 2) := by decide +kernel
theorem dX9_dangerAt_112 : decode cX9_dangerAt 112 = .ok (.aload_n 0, 1) := by decide +kernel
theorem dX9_dangerAt_113 : decode cX9_dangerAt 113 = .ok (.invokevirtual 220, 3) := by decide +kernel
theorem dX9_dangerAt_116 : decode cX9_dangerAt 116 = .ok (.if_icmp .ge 38, 3) := by decide +kernel
theorem dX9_dangerAt_119 : decode cX9_dangerAt 119 = .ok (.aload_n 0, 1) := by decide +kernel
theorem dX9_dangerAt_120 : decode cX9_dangerAt 120 = .ok (.iconst 2, 1) := by decide +kernel
theorem dX9_dangerAt_121 : decode cX9_dangerAt 121 = .ok (.iload 4, 2) := by decide +kernel
theorem dX9_dangerAt_123 : decode cX9_dangerAt 123 = .ok (.iload_n 1, 1) := by decide +kernel
theorem dX9_dangerAt_124 : decode cX9_dangerAt 124 = .ok (.invokevirtual 275, 3) := by decide +kernel
theorem dX9_dangerAt_127 : decode cX9_dangerAt 127 = .ok (.invokestatic 282, 3) := by decide +kernel
theorem dX9_dangerAt_130 : decode cX9_dangerAt 130 = .ok (.aload_n 0, 1) := by decide +kernel
theorem dX9_dangerAt_131 : decode cX9_dangerAt 131 = .ok (.getfield 7, 3) := by decide +kernel
theorem dX9_dangerAt_134 : decode cX9_dangerAt 134 = .ok (.iconst 1, 1) := by decide +kernel
theorem dX9_dangerAt_135 : decode cX9_dangerAt 135 = .ok (.iaload, 1) := by decide +kernel
theorem dX9_dangerAt_136 : decode cX9_dangerAt 136 = .ok (.i2l, 1) := by decide +kernel
theorem dX9_dangerAt_137 : decode cX9_dangerAt 137 = .ok (.aload_n 0, 1) := by decide +kernel
theorem dX9_dangerAt_138 : decode cX9_dangerAt 138 = .ok (.getfield 227, 3) := by decide +kernel
theorem dX9_dangerAt_141 : decode cX9_dangerAt 141 = .ok (.lmul, 1) := by decide +kernel
theorem dX9_dangerAt_142 : decode cX9_dangerAt 142 = .ok (.lcmp, 1) := by decide +kernel
theorem dX9_dangerAt_143 : decode cX9_dangerAt 143 = .ok (.ifCond .le 5, 3) := by decide +kernel
theorem dX9_dangerAt_146 : decode cX9_dangerAt 146 = .ok (.iconst 3, 1) := by decide +kernel
theorem dX9_dangerAt_147 : decode cX9_dangerAt 147 = .ok (.ireturn, 1) := by decide +kernel
theorem dX9_dangerAt_148 : decode cX9_dangerAt 148 = .ok (.iinc 4 1, 3) := by decide +kernel
theorem dX9_dangerAt_151 : decode cX9_dangerAt 151 = .ok (.goto (-41), 3) := by decide +kernel
theorem dX9_dangerAt_154 : decode cX9_dangerAt 154 = .ok (.iconst 0, 1) := by decide +kernel
theorem dX9_dangerAt_155 : decode cX9_dangerAt 155 = .ok (.ireturn, 1) := by decide +kernel
set_option maxRecDepth 20000 in
theorem ggX9_danger_X9_isHead : GoodIn wsX9_danger wsX9_isHead := goodIn_r _ [6, 7, 8, 9, 5, 10, 11, 12, 13, 14, 15, 16, 17, 18, 95, 96, 97, 98, 99, 100, 101, 102, 103, 104, 105, 106, 107, 108, 109, 110, 111, 112, 113, 114, 115, 116] (by decide +kernel) (by decide +kernel)
set_option maxRecDepth 20000 in
theorem gX9_danger_X9_isHead : GoodIn wsX9_danger (wsV RX9 272 RX9 yX9_isHead wsX9_isHead) := goodIn_app (goodIn_of _ (by decide +kernel)) ggX9_danger_X9_isHead
set_option maxRecDepth 20000 in
theorem ggX9_danger_X9_lays : GoodIn wsX9_danger wsX9_lays := goodIn_r _ [22, 11, 23, 24, 25, 26, 27, 5, 28, 29, 30, 31, 32, 33, 34, 35, 36, 37, 12, 13, 14, 15, 38, 39, 40, 41, 42, 43, 44, 45, 46, 47, 48, 49, 50, 51, 52, 53, 54, 55, 95, 96, 97, 98, 99, 100, 101, 102, 103, 104, 105, 106, 107, 108, 109, 110, 111, 112, 113, 114, 115, 116] (by decide +kernel) (by decide +kernel)
set_option maxRecDepth 20000 in
theorem gX9_danger_X9_lays : GoodIn wsX9_danger (wsV RX9 240 RX9 yX9_lays wsX9_lays) := goodIn_app (goodIn_of _ (by decide +kernel)) ggX9_danger_X9_lays
set_option maxRecDepth 20000 in
theorem ggX9_danger_X9_dangerAt : GoodIn wsX9_danger wsX9_dangerAt := goodIn_r _ [59, 11, 24, 60, 61, 62, 5, 63, 64, 65, 66, 67, 68, 69, 70, 71, 23, 72, 73, 74, 75, 30, 31, 32, 33, 76, 77, 78, 79, 80, 81, 82, 83, 84, 85, 86, 87, 16, 17, 18, 88, 89, 90, 91, 49, 50, 51, 52, 92, 93, 94, 95, 96, 97, 98, 99, 100, 101, 102, 103, 104, 105, 106, 107, 108, 109, 110, 111, 112, 113, 114, 115, 116] (by decide +kernel) (by decide +kernel)
set_option maxRecDepth 20000 in
theorem gX9_danger_X9_dangerAt : GoodIn wsX9_danger (wsV RX9 299 RX9 yX9_dangerAt wsX9_dangerAt) := goodIn_app (goodIn_of _ (by decide +kernel)) ggX9_danger_X9_dangerAt
theorem dX9_danger_0 : decode cX9_danger 0 = .ok (.aload_n 0, 1) := by decide +kernel
theorem dX9_danger_1 : decode cX9_danger 1 = .ok (.aload_n 0, 1) := by decide +kernel
theorem dX9_danger_2 : decode cX9_danger 2 = .ok (.iload_n 1, 1) := by decide +kernel
theorem dX9_danger_3 : decode cX9_danger 3 = .ok (.invokevirtual 272, 3) := by decide +kernel
theorem dX9_danger_6 : decode cX9_danger 6 = .ok (.ifCond .eq 7, 3) := by decide +kernel
theorem dX9_danger_9 : decode cX9_danger 9 = .ok (.iconst 0, 1) := by decide +kernel
theorem dX9_danger_10 : decode cX9_danger 10 = .ok (.goto 4, 3) := by decide +kernel
theorem dX9_danger_13 : decode cX9_danger 13 = .ok (.iconst 1, 1) := by decide +kernel
theorem dX9_danger_14 : decode cX9_danger 14 = .ok (.putfield 46, 3) := by decide +kernel
theorem dX9_danger_17 : decode cX9_danger 17 = .ok (.aload_n 0, 1) := by decide +kernel
theorem dX9_danger_18 : decode cX9_danger 18 = .ok (.getfield 46, 3) := by decide +kernel
theorem dX9_danger_21 : decode cX9_danger 21 = .ok (.ifCond .le 5, 3) := by decide +kernel
theorem dX9_danger_24 : decode cX9_danger 24 = .ok (.iconst 0, 1) := by decide +kernel
theorem dX9_danger_25 : decode cX9_danger 25 = .ok (.ireturn, 1) := by decide +kernel
theorem dX9_danger_26 : decode cX9_danger 26 = .ok (.aload_n 0, 1) := by decide +kernel
theorem dX9_danger_27 : decode cX9_danger 27 = .ok (.invokevirtual 240, 3) := by decide +kernel
theorem dX9_danger_30 : decode cX9_danger 30 = .ok (.aload_n 0, 1) := by decide +kernel
theorem dX9_danger_31 : decode cX9_danger 31 = .ok (.iload_n 1, 1) := by decide +kernel
theorem dX9_danger_32 : decode cX9_danger 32 = .ok (.invokevirtual 299, 3) := by decide +kernel
theorem dX9_danger_35 : decode cX9_danger 35 = .ok (.ireturn, 1) := by decide +kernel
set_option maxRecDepth 20000 in
theorem ggX9_firstBad_X9_lastHead : GoodIn wsX9_firstBad wsX9_lastHead := goodIn_r _ [5, 6, 7, 8, 9, 10, 63, 64, 65, 66, 67, 68, 69, 70, 71, 72, 73, 74, 75, 76, 77, 78, 79, 80, 81, 82, 83, 84] (by decide +kernel) (by decide +kernel)
set_option maxRecDepth 20000 in
theorem gX9_firstBad_X9_lastHead : GoodIn wsX9_firstBad (wsV RX9 237 RX9 yX9_lastHead wsX9_lastHead) := goodIn_app (goodIn_of _ (by decide +kernel)) ggX9_firstBad_X9_lastHead
set_option maxRecDepth 20000 in
theorem ggX9_firstBad_X9_dangerAt : GoodIn wsX9_firstBad wsX9_dangerAt := goodIn_r _ [14, 6, 15, 16, 17, 18, 4, 19, 20, 21, 22, 23, 24, 25, 26, 27, 28, 29, 30, 31, 32, 33, 34, 35, 36, 37, 38, 39, 40, 41, 42, 43, 44, 45, 46, 47, 48, 49, 50, 51, 52, 53, 54, 55, 56, 57, 58, 59, 60, 61, 62, 63, 64, 65, 66, 67, 68, 69, 70, 71, 72, 73, 74, 75, 76, 77, 78, 79, 80, 81, 82, 83, 84] (by decide +kernel) (by decide +kernel)
set_option maxRecDepth 20000 in
theorem gX9_firstBad_X9_dangerAt : GoodIn wsX9_firstBad (wsV RX9 299 RX9 yX9_dangerAt wsX9_dangerAt) := goodIn_app (goodIn_of _ (by decide +kernel)) ggX9_firstBad_X9_dangerAt
theorem dX9_firstBad_0 : decode cX9_firstBad 0 = .ok (.iconst 0, 1) := by decide +kernel
theorem dX9_firstBad_1 : decode cX9_firstBad 1 = .ok (.istore_n 1, 1) := by decide +kernel
theorem dX9_firstBad_2 : decode cX9_firstBad 2 = .ok (.iload_n 1, 1) := by decide +kernel
theorem dX9_firstBad_3 : decode cX9_firstBad 3 = .ok (.aload_n 0, 1) := by decide +kernel
theorem dX9_firstBad_4 : decode cX9_firstBad 4 = .ok (.invokevirtual 237, 3) := by decide +kernel
theorem dX9_firstBad_7 : decode cX9_firstBad 7 = .ok (.if_icmp .gt 19, 3) := by decide +kernel
theorem dX9_firstBad_10 : decode cX9_firstBad 10 = .ok (.aload_n 0, 1) := by decide +kernel
theorem dX9_firstBad_11 : decode cX9_firstBad 11 = .ok (.iload_n 1, 1) := by decide +kernel
theorem dX9_firstBad_12 : decode cX9_firstBad 12 = .ok (.invokevirtual 299, 3) := by decide +kernel
theorem dX9_firstBad_15 : decode cX9_firstBad 15 = .ok (.ifCond .le 5, 3) := by decide +kernel
theorem dX9_firstBad_18 : decode cX9_firstBad 18 = .ok (.iload_n 1, 1) := by decide +kernel
theorem dX9_firstBad_19 : decode cX9_firstBad 19 = .ok (.ireturn, 1) := by decide +kernel
theorem dX9_firstBad_20 : decode cX9_firstBad 20 = .ok (.iinc 1 1, 3) := by decide +kernel
theorem dX9_firstBad_23 : decode cX9_firstBad 23 = .ok (.goto (-21), 3) := by decide +kernel
theorem dX9_firstBad_26 : decode cX9_firstBad 26 = .ok (.iconst (-1), 1) := by decide +kernel
theorem dX9_firstBad_27 : decode cX9_firstBad 27 = .ok (.ireturn, 1) := by decide +kernel
set_option maxRecDepth 20000 in
theorem ggX9_firstDanger_X9_lays : GoodIn wsX9_firstDanger wsX9_lays := goodIn_r _ [6, 7, 8, 9, 10, 11, 12, 5, 13, 14, 15, 16, 17, 18, 19, 20, 21, 22, 23, 24, 25, 26, 27, 28, 29, 30, 31, 32, 33, 34, 35, 36, 37, 38, 39, 40, 41, 42, 43, 44, 95, 96, 97, 98, 99, 100, 101, 102, 103, 104, 105, 106, 107, 108, 109, 110, 111, 112, 113, 114, 115, 116] (by decide +kernel) (by decide +kernel)
set_option maxRecDepth 20000 in
theorem gX9_firstDanger_X9_lays : GoodIn wsX9_firstDanger (wsV RX9 240 RX9 yX9_lays wsX9_lays) := goodIn_app (goodIn_of _ (by decide +kernel)) ggX9_firstDanger_X9_lays
set_option maxRecDepth 20000 in
theorem ggX9_firstDanger_X9_firstBad : GoodIn wsX9_firstDanger wsX9_firstBad := goodIn_r _ [48, 49, 50, 51, 5, 52, 7, 23, 24, 25, 26, 53, 54, 55, 56, 9, 57, 58, 59, 60, 61, 62, 63, 64, 65, 66, 67, 68, 8, 69, 70, 71, 72, 15, 16, 17, 18, 73, 74, 75, 76, 77, 78, 79, 80, 81, 82, 83, 84, 85, 86, 87, 88, 89, 90, 91, 38, 39, 40, 41, 92, 93, 94, 95, 96, 97, 98, 99, 100, 101, 102, 103, 104, 105, 106, 107, 108, 109, 110, 111, 112, 113, 114, 115, 116] (by decide +kernel) (by decide +kernel)
set_option maxRecDepth 20000 in
theorem gX9_firstDanger_X9_firstBad : GoodIn wsX9_firstDanger (wsV RX9 302 RX9 yX9_firstBad wsX9_firstBad) := goodIn_app (goodIn_of _ (by decide +kernel)) ggX9_firstDanger_X9_firstBad
theorem dX9_firstDanger_0 : decode cX9_firstDanger 0 = .ok (.aload_n 0, 1) := by decide +kernel
theorem dX9_firstDanger_1 : decode cX9_firstDanger 1 = .ok (.iconst 0, 1) := by decide +kernel
theorem dX9_firstDanger_2 : decode cX9_firstDanger 2 = .ok (.putfield 46, 3) := by decide +kernel
theorem dX9_firstDanger_5 : decode cX9_firstDanger 5 = .ok (.aload_n 0, 1) := by decide +kernel
theorem dX9_firstDanger_6 : decode cX9_firstDanger 6 = .ok (.invokevirtual 240, 3) := by decide +kernel
theorem dX9_firstDanger_9 : decode cX9_firstDanger 9 = .ok (.aload_n 0, 1) := by decide +kernel
theorem dX9_firstDanger_10 : decode cX9_firstDanger 10 = .ok (.invokevirtual 302, 3) := by decide +kernel
theorem dX9_firstDanger_13 : decode cX9_firstDanger 13 = .ok (.ireturn, 1) := by decide +kernel
set_option maxRecDepth 20000 in
theorem ggX9_lifting_X9_lays : GoodIn wsX9_lifting wsX9_lays := goodIn_r _ [7, 2, 8, 9, 10, 11, 12, 6, 13, 14, 15, 16, 17, 18, 19, 20, 21, 22, 23, 24, 25, 26, 27, 28, 29, 30, 31, 32, 33, 34, 35, 36, 37, 38, 39, 40, 41, 42, 43, 44, 80, 81, 82, 83, 84, 85, 86, 87, 88, 89, 90, 91, 92, 93, 94, 95, 96, 97, 98, 99, 100, 101] (by decide +kernel) (by decide +kernel)
set_option maxRecDepth 20000 in
theorem gX9_lifting_X9_lays : GoodIn wsX9_lifting (wsV RX9 240 RX9 yX9_lays wsX9_lays) := goodIn_app (goodIn_of _ (by decide +kernel)) ggX9_lifting_X9_lays
set_option maxRecDepth 20000 in
theorem ggX9_lifting_X9_lastHead : GoodIn wsX9_lifting wsX9_lastHead := goodIn_r _ [48, 2, 23, 24, 25, 26, 80, 81, 82, 83, 84, 85, 86, 87, 88, 89, 90, 91, 92, 93, 94, 95, 96, 97, 98, 99, 100, 101] (by decide +kernel) (by decide +kernel)
set_option maxRecDepth 20000 in
theorem gX9_lifting_X9_lastHead : GoodIn wsX9_lifting (wsV RX9 237 RX9 yX9_lastHead wsX9_lastHead) := goodIn_app (goodIn_of _ (by decide +kernel)) ggX9_lifting_X9_lastHead
set_option maxRecDepth 20000 in
theorem ggX9_lifting_X9_all : GoodIn wsX9_lifting wsX9_all := goodIn_r _ [52, 2, 53, 54, 55, 6, 56, 57, 58, 59, 60, 8, 61, 62, 63, 64, 9, 15, 16, 17, 18, 65, 66, 67, 68, 69, 70, 71, 72, 73, 74, 75, 76, 77, 78, 79, 80, 81, 82, 83, 84, 85, 86, 87, 88, 89, 90, 91, 92, 93, 94, 95, 96, 97, 98, 99, 100, 101] (by decide +kernel) (by decide +kernel)
set_option maxRecDepth 20000 in
theorem gX9_lifting_X9_all : GoodIn wsX9_lifting (wsV RX9 275 RX9 yX9_all wsX9_all) := goodIn_app (goodIn_of _ (by decide +kernel)) ggX9_lifting_X9_all
theorem dX9_lifting_0 : decode cX9_lifting 0 = .ok (.aload_n 0, 1) := by decide +kernel
theorem dX9_lifting_1 : decode cX9_lifting 1 = .ok (.iconst 0, 1) := by decide +kernel
theorem dX9_lifting_2 : decode cX9_lifting 2 = .ok (.putfield 46, 3) := by decide +kernel
theorem dX9_lifting_5 : decode cX9_lifting 5 = .ok (.aload_n 0, 1) := by decide +kernel
theorem dX9_lifting_6 : decode cX9_lifting 6 = .ok (.invokevirtual 240, 3) := by decide +kernel
theorem dX9_lifting_9 : decode cX9_lifting 9 = .ok (.iconst 0, 1) := by decide +kernel
theorem dX9_lifting_10 : decode cX9_lifting 10 = .ok (.istore_n 1, 1) := by decide +kernel
theorem dX9_lifting_11 : decode cX9_lifting 11 = .ok (.iconst 0, 1) := by decide +kernel
theorem dX9_lifting_12 : decode cX9_lifting 12 = .ok (.istore_n 2, 1) := by decide +kernel
theorem dX9_lifting_13 : decode cX9_lifting 13 = .ok (.iload_n 2, 1) := by decide +kernel
theorem dX9_lifting_14 : decode cX9_lifting 14 = .ok (.aload_n 0, 1) := by decide +kernel
theorem dX9_lifting_15 : decode cX9_lifting 15 = .ok (.getfield 7, 3) := by decide +kernel
theorem dX9_lifting_18 : decode cX9_lifting 18 = .ok (.iconst 2, 1) := by decide +kernel
theorem dX9_lifting_19 : decode cX9_lifting 19 = .ok (.iaload, 1) := by decide +kernel
theorem dX9_lifting_20 : decode cX9_lifting 20 = .ok (.if_icmp .ge 47, 3) := by decide +kernel
theorem dX9_lifting_23 : decode cX9_lifting 23 = .ok (.iconst 0, 1) := by decide +kernel
theorem dX9_lifting_24 : decode cX9_lifting 24 = .ok (.istore_n 3, 1) := by decide +kernel
theorem dX9_lifting_25 : decode cX9_lifting 25 = .ok (.iload_n 3, 1) := by decide +kernel
theorem dX9_lifting_26 : decode cX9_lifting 26 = .ok (.aload_n 0, 1) := by decide +kernel
theorem dX9_lifting_27 : decode cX9_lifting 27 = .ok (.invokevirtual 237, 3) := by decide +kernel
theorem dX9_lifting_30 : decode cX9_lifting 30 = .ok (.if_icmp .gt 31, 3) := by decide +kernel
theorem dX9_lifting_33 : decode cX9_lifting 33 = .ok (.iload_n 1, 1) := by decide +kernel
theorem dX9_lifting_34 : decode cX9_lifting 34 = .ok (.aload_n 0, 1) := by decide +kernel
theorem dX9_lifting_35 : decode cX9_lifting 35 = .ok (.iconst 0, 1) := by decide +kernel
theorem dX9_lifting_36 : decode cX9_lifting 36 = .ok (.iload_n 2, 1) := by decide +kernel
theorem dX9_lifting_37 : decode cX9_lifting 37 = .ok (.iload_n 3, 1) := by decide +kernel
theorem dX9_lifting_38 : decode cX9_lifting 38 = .ok (.invokevirtual 275, 3) := by decide +kernel
theorem dX9_lifting_41 : decode cX9_lifting 41 = .ok (.lconst 0, 1) := by decide +kernel
theorem dX9_lifting_42 : decode cX9_lifting 42 = .ok (.lcmp, 1) := by decide +kernel
theorem dX9_lifting_43 : decode cX9_lifting 43 = .ok (.ifCond .ge 9, 3) := by decide +kernel
theorem dX9_lifting_46 : decode cX9_lifting 46 = .ok (.iconst 1, 1) := by decide +kernel
theorem dX9_lifting_47 : decode cX9_lifting 47 = .ok (.iload_n 2, 1) := by decide +kernel
theorem dX9_lifting_48 : decode cX9_lifting 48 = .ok (.ishl, 1) := by decide +kernel
theorem dX9_lifting_49 : decode cX9_lifting 49 = .ok (.goto 4, 3) := by decide +kernel
theorem dX9_lifting_52 : decode cX9_lifting 52 = .ok (.iconst 0, 1) := by decide +kernel
theorem dX9_lifting_53 : decode cX9_lifting 53 = .ok (.ior, 1) := by decide +kernel
theorem dX9_lifting_54 : decode cX9_lifting 54 = .ok (.istore_n 1, 1) := by decide +kernel
theorem dX9_lifting_55 : decode cX9_lifting 55 = .ok (.iinc 3 1, 3) := by decide +kernel
theorem dX9_lifting_58 : decode cX9_lifting 58 = .ok (.goto (-33), 3) := by decide +kernel
theorem dX9_lifting_61 : decode cX9_lifting 61 = .ok (.iinc 2 1, 3) := by decide +kernel
theorem dX9_lifting_64 : decode cX9_lifting 64 = .ok (.goto (-51), 3) := by decide +kernel
theorem dX9_lifting_67 : decode cX9_lifting 67 = .ok (.iload_n 1, 1) := by decide +kernel
theorem dX9_lifting_68 : decode cX9_lifting 68 = .ok (.ireturn, 1) := by decide +kernel
set_option maxRecDepth 20000 in
theorem ggX9_share_X9_isSupport : GoodIn wsX9_share wsX9_isSupport := goodIn_r _ [8, 2, 9, 10, 7, 11, 92, 93, 94, 95, 96, 97, 98, 99, 100, 101, 102, 103, 104, 105, 106, 107, 108, 109, 110, 111, 112, 113] (by decide +kernel) (by decide +kernel)
set_option maxRecDepth 20000 in
theorem gX9_share_X9_isSupport : GoodIn wsX9_share (wsV RX9 243 RX9 yX9_isSupport wsX9_isSupport) := goodIn_app (goodIn_of _ (by decide +kernel)) ggX9_share_X9_isSupport
set_option maxRecDepth 20000 in
theorem ggX9_share_X9_isHead : GoodIn wsX9_share wsX9_isHead := goodIn_r _ [15, 16, 17, 18, 7, 19, 2, 20, 21, 22, 23, 9, 10, 11, 92, 93, 94, 95, 96, 97, 98, 99, 100, 101, 102, 103, 104, 105, 106, 107, 108, 109, 110, 111, 112, 113] (by decide +kernel) (by decide +kernel)
set_option maxRecDepth 20000 in
theorem gX9_share_X9_isHead : GoodIn wsX9_share (wsV RX9 272 RX9 yX9_isHead wsX9_isHead) := goodIn_app (goodIn_of _ (by decide +kernel)) ggX9_share_X9_isHead
set_option maxRecDepth 20000 in
theorem ggX9_share_X9_lays : GoodIn wsX9_share wsX9_lays := goodIn_r _ [27, 2, 28, 3, 29, 30, 31, 7, 32, 33, 34, 35, 36, 37, 38, 39, 40, 41, 20, 21, 22, 23, 42, 43, 44, 45, 46, 47, 48, 49, 50, 51, 52, 53, 54, 55, 56, 57, 58, 59, 92, 93, 94, 95, 96, 97, 98, 99, 100, 101, 102, 103, 104, 105, 106, 107, 108, 109, 110, 111, 112, 113] (by decide +kernel) (by decide +kernel)
set_option maxRecDepth 20000 in
theorem gX9_share_X9_lays : GoodIn wsX9_share (wsV RX9 240 RX9 yX9_lays wsX9_lays) := goodIn_app (goodIn_of _ (by decide +kernel)) ggX9_share_X9_lays
set_option maxRecDepth 20000 in
theorem ggX9_share_X9_weights : GoodIn wsX9_share wsX9_weights := goodIn_r _ [63, 2, 92, 93, 94, 95, 96, 97, 98, 99, 100, 101, 102, 103, 104, 105, 106, 107, 108, 109, 110, 111, 112, 113] (by decide +kernel) (by decide +kernel)
set_option maxRecDepth 20000 in
theorem gX9_share_X9_weights : GoodIn wsX9_share (wsV RX9 234 RX9 yX9_weights wsX9_weights) := goodIn_app (goodIn_of _ (by decide +kernel)) ggX9_share_X9_weights
set_option maxRecDepth 20000 in
theorem ggX9_share_X9_isOn : GoodIn wsX9_share wsX9_isOn := goodIn_r _ [67, 2, 68, 69, 70, 7, 71, 9, 10, 11, 92, 93, 94, 95, 96, 97, 98, 99, 100, 101, 102, 103, 104, 105, 106, 107, 108, 109, 110, 111, 112, 113] (by decide +kernel) (by decide +kernel)
set_option maxRecDepth 20000 in
theorem gX9_share_X9_isOn : GoodIn wsX9_share (wsV RX9 268 RX9 yX9_isOn wsX9_isOn) := goodIn_app (goodIn_of _ (by decide +kernel)) ggX9_share_X9_isOn
set_option maxRecDepth 20000 in
theorem ggX9_share_X9_all : GoodIn wsX9_share wsX9_all := goodIn_r _ [75, 2, 76, 77, 78, 7, 79, 80, 81, 82, 83, 28, 84, 85, 86, 87, 3, 34, 35, 36, 37, 88, 89, 90, 91, 64, 65, 66, 67, 68, 69, 70, 71, 9, 10, 11, 92, 93, 94, 95, 96, 97, 98, 99, 100, 101, 102, 103, 104, 105, 106, 107, 108, 109, 110, 111, 112, 113] (by decide +kernel) (by decide +kernel)
set_option maxRecDepth 20000 in
theorem gX9_share_X9_all : GoodIn wsX9_share (wsV RX9 275 RX9 yX9_all wsX9_all) := goodIn_app (goodIn_of _ (by decide +kernel)) ggX9_share_X9_all
theorem dX9_share_0 : decode cX9_share 0 = .ok (.aload_n 0, 1) := by decide +kernel
theorem dX9_share_1 : decode cX9_share 1 = .ok (.aload_n 0, 1) := by decide +kernel
theorem dX9_share_2 : decode cX9_share 2 = .ok (.iload_n 1, 1) := by decide +kernel
theorem dX9_share_3 : decode cX9_share 3 = .ok (.invokevirtual 243, 3) := by decide +kernel
theorem dX9_share_6 : decode cX9_share 6 = .ok (.ifCond .ne 7, 3) := by decide +kernel
theorem dX9_share_9 : decode cX9_share 9 = .ok (.iconst 1, 1) := by decide +kernel
theorem dX9_share_10 : decode cX9_share 10 = .ok (.goto 16, 3) := by decide +kernel
theorem dX9_share_13 : decode cX9_share 13 = .ok (.aload_n 0, 1) := by decide +kernel
theorem dX9_share_14 : decode cX9_share 14 = .ok (.iload_n 2, 1) := by decide +kernel
theorem dX9_share_15 : decode cX9_share 15 = .ok (.invokevirtual 272, 3) := by decide +kernel
theorem dX9_share_18 : decode cX9_share 18 = .ok (.ifCond .eq 7, 3) := by decide +kernel
theorem dX9_share_21 : decode cX9_share 21 = .ok (.iconst 0, 1) := by decide +kernel
theorem dX9_share_22 : decode cX9_share 22 = .ok (.goto 4, 3) := by decide +kernel
theorem dX9_share_25 : decode cX9_share 25 = .ok (.iconst 2, 1) := by decide +kernel
theorem dX9_share_26 : decode cX9_share 26 = .ok (.putfield 46, 3) := by decide +kernel
theorem dX9_share_29 : decode cX9_share 29 = .ok (.aload_n 0, 1) := by decide +kernel
theorem dX9_share_30 : decode cX9_share 30 = .ok (.getfield 46, 3) := by decide +kernel
theorem dX9_share_33 : decode cX9_share 33 = .ok (.ifCond .le 5, 3) := by decide +kernel
theorem dX9_share_36 : decode cX9_share 36 = .ok (.dconst 0, 1) := by decide +kernel
theorem dX9_share_37 : decode cX9_share 37 = .ok (.dreturn, 1) := by decide +kernel
theorem dX9_share_38 : decode cX9_share 38 = .ok (.aload_n 0, 1) := by decide +kernel
theorem dX9_share_39 : decode cX9_share 39 = .ok (.invokevirtual 240, 3) := by decide +kernel
theorem dX9_share_42 : decode cX9_share 42 = .ok (.aload_n 0, 1) := by decide +kernel
theorem dX9_share_43 : decode cX9_share 43 = .ok (.bipush 19, 2) := by decide +kernel
theorem dX9_share_45 : decode cX9_share 45 = .ok (.aload_n 0, 1) := by decide +kernel
theorem dX9_share_46 : decode cX9_share 46 = .ok (.getfield 7, 3) := by decide +kernel
theorem dX9_share_49 : decode cX9_share 49 = .ok (.iconst 4, 1) := by decide +kernel
theorem dX9_share_50 : decode cX9_share 50 = .ok (.iaload, 1) := by decide +kernel
theorem dX9_share_51 : decode cX9_share 51 = .ok (.invokevirtual 234, 3) := by decide +kernel
theorem dX9_share_54 : decode cX9_share 54 = .ok (.istore_n 3, 1) := by decide +kernel
theorem dX9_share_55 : decode cX9_share 55 = .ok (.iconst 0, 1) := by decide +kernel
theorem dX9_share_56 : decode cX9_share 56 = .ok (.istore 4, 2) := by decide +kernel
theorem dX9_share_58 : decode cX9_share 58 = .ok (.iload 4, 2) := by decide +kernel
theorem dX9_share_60 : decode cX9_share 60 = .ok (.aload_n 0, 1) := by decide +kernel
theorem dX9_share_61 : decode cX9_share 61 = .ok (.getfield 7, 3) := by decide +kernel
theorem dX9_share_64 : decode cX9_share 64 = .ok (.iconst 5, 1) := by decide +kernel
theorem dX9_share_65 : decode cX9_share 65 = .ok (.iaload, 1) := by decide +kernel
theorem dX9_share_66 : decode cX9_share 66 = .ok (.if_icmp .ge 38, 3) := by decide +kernel
theorem dX9_share_69 : decode cX9_share 69 = .ok (.iload_n 3, 1) := by decide +kernel
theorem dX9_share_70 : decode cX9_share 70 = .ok (.aload_n 0, 1) := by decide +kernel
theorem dX9_share_71 : decode cX9_share 71 = .ok (.iload 4, 2) := by decide +kernel
theorem dX9_share_73 : decode cX9_share 73 = .ok (.iload_n 2, 1) := by decide +kernel
theorem dX9_share_74 : decode cX9_share 74 = .ok (.invokevirtual 268, 3) := by decide +kernel
theorem dX9_share_77 : decode cX9_share 77 = .ok (.ifCond .eq 18, 3) := by decide +kernel
theorem dX9_share_80 : decode cX9_share 80 = .ok (.aload_n 0, 1) := by decide +kernel
theorem dX9_share_81 : decode cX9_share 81 = .ok (.getfield 7, 3) := by decide +kernel
theorem dX9_share_84 : decode cX9_share 84 = .ok (.bipush 35, 2) := by decide +kernel
theorem dX9_share_86 : decode cX9_share 86 = .ok (.iconst 2, 1) := by decide +kernel
theorem dX9_share_87 : decode cX9_share 87 = .ok (.iload 4, 2) := by decide +kernel
theorem dX9_share_89 : decode cX9_share 89 = .ok (.imul, 1) := by decide +kernel
theorem dX9_share_90 : decode cX9_share 90 = .ok (.iadd, 1) := by decide +kernel
theorem dX9_share_91 : decode cX9_share 91 = .ok (.iaload, 1) := by decide +kernel
theorem dX9_share_92 : decode cX9_share 92 = .ok (.goto 4, 3) := by decide +kernel
theorem dX9_share_95 : decode cX9_share 95 = .ok (.iconst 0, 1) := by decide +kernel
theorem dX9_share_96 : decode cX9_share 96 = .ok (.iadd, 1) := by decide +kernel
theorem dX9_share_97 : decode cX9_share 97 = .ok (.istore_n 3, 1) := by decide +kernel
theorem dX9_share_98 : decode cX9_share 98 = .ok (.iinc 4 1, 3) := by decide +kernel
theorem dX9_share_101 : decode cX9_share 101 = .ok (.goto (-43), 3) := by decide +kernel
theorem dX9_share_104 : decode cX9_share 104 = .ok (.iload_n 3, 1) := by decide +kernel
theorem dX9_share_105 : decode cX9_share 105 = .ok (.ifCond .ne 7, 3) := by decide +kernel
theorem dX9_share_108 : decode cX9_share 108 = .ok (.dconst 0, 1) := by decide +kernel
theorem dX9_share_109 : decode cX9_share 109 = .ok (.goto 20, 3) := by decide +kernel
theorem dX9_share_112 : decode cX9_share 112 = .ok (.aload_n 0, 1) := by decide +kernel
theorem dX9_share_113 : decode cX9_share 113 = .ok (.iconst 0, 1) := by decide +kernel
theorem dX9_share_114 : decode cX9_share 114 = .ok (.iload_n 1, 1) := by decide +kernel
theorem dX9_share_115 : decode cX9_share 115 = .ok (.iload_n 2, 1) := by decide +kernel
theorem dX9_share_116 : decode cX9_share 116 = .ok (.invokevirtual 275, 3) := by decide +kernel
theorem dX9_share_119 : decode cX9_share 119 = .ok (.l2d, 1) := by decide +kernel
theorem dX9_share_120 : decode cX9_share 120 = .ok (.aload_n 0, 1) := by decide +kernel
theorem dX9_share_121 : decode cX9_share 121 = .ok (.getfield 227, 3) := by decide +kernel
theorem dX9_share_124 : decode cX9_share 124 = .ok (.iload_n 3, 1) := by decide +kernel
theorem dX9_share_125 : decode cX9_share 125 = .ok (.i2l, 1) := by decide +kernel
theorem dX9_share_126 : decode cX9_share 126 = .ok (.lmul, 1) := by decide +kernel
theorem dX9_share_127 : decode cX9_share 127 = .ok (.l2d, 1) := by decide +kernel
theorem dX9_share_128 : decode cX9_share 128 = .ok (.ddiv, 1) := by decide +kernel
theorem dX9_share_129 : decode cX9_share 129 = .ok (.dreturn, 1) := by decide +kernel
set_option maxRecDepth 20000 in
theorem ggX9_used_X9_lays : GoodIn wsX9_used wsX9_lays := goodIn_r _ [8, 2, 9, 3, 10, 11, 12, 7, 13, 14, 15, 16, 17, 18, 19, 20, 21, 22, 23, 24, 25, 26, 27, 28, 29, 30, 31, 32, 33, 34, 35, 36, 37, 38, 39, 40, 41, 42, 43, 44, 95, 96, 97, 98, 99, 100, 101, 102, 103, 104, 105, 106, 107, 108, 109, 110, 111, 112, 113, 114, 115, 116] (by decide +kernel) (by decide +kernel)
set_option maxRecDepth 20000 in
theorem gX9_used_X9_lays : GoodIn wsX9_used (wsV RX9 240 RX9 yX9_lays wsX9_lays) := goodIn_app (goodIn_of _ (by decide +kernel)) ggX9_used_X9_lays
set_option maxRecDepth 20000 in
theorem ggX9_used_X9_worstPlace : GoodIn wsX9_used wsX9_worstPlace := goodIn_r _ [48, 49, 38, 39, 40, 7, 41, 2, 50, 51, 52, 53, 54, 55, 25, 56, 57, 58, 59, 60, 23, 24, 26, 61, 62, 63, 64, 65, 66, 67, 68, 69, 70, 71, 72, 9, 73, 74, 75, 76, 3, 15, 16, 17, 18, 77, 78, 79, 80, 81, 82, 83, 84, 85, 86, 87, 88, 89, 90, 91, 92, 93, 94, 95, 96, 97, 98, 99, 100, 101, 102, 103, 104, 105, 106, 107, 108, 109, 110, 111, 112, 113, 114, 115, 116] (by decide +kernel) (by decide +kernel)
set_option maxRecDepth 20000 in
theorem gX9_used_X9_worstPlace : GoodIn wsX9_used (wsV RX9 293 RX9 yX9_worstPlace wsX9_worstPlace) := goodIn_app (goodIn_of _ (by decide +kernel)) ggX9_used_X9_worstPlace
set_option maxRecDepth 20000 in
theorem ggX9_used_X9_greatestAt : GoodIn wsX9_used wsX9_greatestAt := goodIn_r _ [53, 54, 55, 25, 56, 57, 58, 59, 7, 60, 2, 23, 24, 26, 61, 62, 63, 64, 65, 66, 67, 68, 69, 70, 71, 72, 9, 73, 74, 75, 76, 3, 15, 16, 17, 18, 77, 78, 79, 80, 81, 82, 83, 84, 85, 86, 87, 88, 89, 90, 91, 92, 93, 94, 95, 96, 97, 98, 99, 100, 101, 102, 103, 104, 105, 106, 107, 108, 109, 110, 111, 112, 113, 114, 115, 116] (by decide +kernel) (by decide +kernel)
set_option maxRecDepth 20000 in
theorem gX9_used_X9_greatestAt : GoodIn wsX9_used (wsV RX9 290 RX9 yX9_greatestAt wsX9_greatestAt) := goodIn_app (goodIn_of _ (by decide +kernel)) ggX9_used_X9_greatestAt
theorem dX9_used_0 : decode cX9_used 0 = .ok (.aload_n 0, 1) := by decide +kernel
theorem dX9_used_1 : decode cX9_used 1 = .ok (.iconst 0, 1) := by decide +kernel
theorem dX9_used_2 : decode cX9_used 2 = .ok (.putfield 46, 3) := by decide +kernel
theorem dX9_used_5 : decode cX9_used 5 = .ok (.aload_n 0, 1) := by decide +kernel
theorem dX9_used_6 : decode cX9_used 6 = .ok (.invokevirtual 240, 3) := by decide +kernel
theorem dX9_used_9 : decode cX9_used 9 = .ok (.aload_n 0, 1) := by decide +kernel
theorem dX9_used_10 : decode cX9_used 10 = .ok (.aload_n 0, 1) := by decide +kernel
theorem dX9_used_11 : decode cX9_used 11 = .ok (.invokevirtual 293, 3) := by decide +kernel
theorem dX9_used_14 : decode cX9_used 14 = .ok (.invokevirtual 290, 3) := by decide +kernel
theorem dX9_used_17 : decode cX9_used 17 = .ok (.l2f, 1) := by decide +kernel
theorem dX9_used_18 : decode cX9_used 18 = .ok (.aload_n 0, 1) := by decide +kernel
theorem dX9_used_19 : decode cX9_used 19 = .ok (.getfield 7, 3) := by decide +kernel
theorem dX9_used_22 : decode cX9_used 22 = .ok (.iconst 1, 1) := by decide +kernel
theorem dX9_used_23 : decode cX9_used 23 = .ok (.iaload, 1) := by decide +kernel
theorem dX9_used_24 : decode cX9_used 24 = .ok (.i2l, 1) := by decide +kernel
theorem dX9_used_25 : decode cX9_used 25 = .ok (.aload_n 0, 1) := by decide +kernel
theorem dX9_used_26 : decode cX9_used 26 = .ok (.getfield 227, 3) := by decide +kernel
theorem dX9_used_29 : decode cX9_used 29 = .ok (.lmul, 1) := by decide +kernel
theorem dX9_used_30 : decode cX9_used 30 = .ok (.l2f, 1) := by decide +kernel
theorem dX9_used_31 : decode cX9_used 31 = .ok (.fdiv, 1) := by decide +kernel
theorem dX9_used_32 : decode cX9_used 32 = .ok (.freturn, 1) := by decide +kernel
set_option maxRecDepth 20000 in
theorem ggX9_noHinge_X9_hingeAt : GoodIn wsX9_noHinge wsX9_hingeAt := goodIn_r _ [7, 2, 55, 56, 57, 58, 59, 60, 61, 62, 63, 64, 65, 66, 67, 68, 69, 70, 71, 72, 73, 74, 75, 76] (by decide +kernel) (by decide +kernel)
set_option maxRecDepth 20000 in
theorem gX9_noHinge_X9_hingeAt : GoodIn wsX9_noHinge (wsV RX9 134 RX9 yX9_hingeAt wsX9_hingeAt) := goodIn_app (goodIn_of _ (by decide +kernel)) ggX9_noHinge_X9_hingeAt
set_option maxRecDepth 20000 in
theorem ggX9_noHinge_X9_supportAt : GoodIn wsX9_noHinge wsX9_supportAt := goodIn_r _ [11, 2, 12, 13, 14, 6, 15, 55, 56, 57, 58, 59, 60, 61, 62, 63, 64, 65, 66, 67, 68, 69, 70, 71, 72, 73, 74, 75, 76] (by decide +kernel) (by decide +kernel)
set_option maxRecDepth 20000 in
theorem gX9_noHinge_X9_supportAt : GoodIn wsX9_noHinge (wsV RX9 131 RX9 yX9_supportAt wsX9_supportAt) := goodIn_app (goodIn_of _ (by decide +kernel)) ggX9_noHinge_X9_supportAt
set_option maxRecDepth 20000 in
theorem ggX9_noHinge_X9_copies : GoodIn wsX9_noHinge wsX9_copies := goodIn_r _ [18] (by decide +kernel) (by decide +kernel)
set_option maxRecDepth 20000 in
theorem gX9_noHinge_X9_copies : GoodIn wsX9_noHinge (va_wsS RX9 52 yX9_copies wsX9_copies) := goodIn_app (goodIn_of _ (by decide +kernel)) ggX9_noHinge_X9_copies
set_option maxRecDepth 20000 in
theorem ggX9_noHinge_X9_dropsHinge : GoodIn wsX9_noHinge wsX9_dropsHinge := goodIn_r _ [22, 2, 55, 56, 57, 58, 59, 60, 61, 62, 63, 64, 65, 66, 67, 68, 69, 70, 71, 72, 73, 74, 75, 76] (by decide +kernel) (by decide +kernel)
set_option maxRecDepth 20000 in
theorem gX9_noHinge_X9_dropsHinge : GoodIn wsX9_noHinge (wsV RX9 305 RX9 yX9_dropsHinge wsX9_dropsHinge) := goodIn_app (goodIn_of _ (by decide +kernel)) ggX9_noHinge_X9_dropsHinge
set_option maxRecDepth 20000 in
theorem ggX9_noHinge_X9_addsHinge : GoodIn wsX9_noHinge wsX9_addsHinge := goodIn_r _ [26, 2, 55, 56, 57, 58, 59, 60, 61, 62, 63, 64, 65, 66, 67, 68, 69, 70, 71, 72, 73, 74, 75, 76] (by decide +kernel) (by decide +kernel)
set_option maxRecDepth 20000 in
theorem gX9_noHinge_X9_addsHinge : GoodIn wsX9_noHinge (wsV RX9 160 RX9 yX9_addsHinge wsX9_addsHinge) := goodIn_app (goodIn_of _ (by decide +kernel)) ggX9_noHinge_X9_addsHinge
set_option maxRecDepth 20000 in
theorem ggX9_noHinge_X9_isStanding : GoodIn wsX9_noHinge wsX9_isStanding := goodIn_r _ [30, 31, 32, 33, 6, 34, 2, 35, 12, 13, 14, 15, 36, 37, 38, 39, 40, 41, 42, 43, 44, 45, 46, 47, 48, 49, 50, 51, 52, 53, 54, 55, 56, 57, 58, 59, 60, 61, 62, 63, 64, 65, 66, 67, 68, 69, 70, 71, 72, 73, 74, 75, 76] (by decide +kernel) (by decide +kernel)
set_option maxRecDepth 20000 in
theorem gX9_noHinge_X9_isStanding : GoodIn wsX9_noHinge (wsV RX9 192 RX9 yX9_isStanding wsX9_isStanding) := goodIn_app (goodIn_of _ (by decide +kernel)) ggX9_noHinge_X9_isStanding
theorem dX9_noHinge_0 : decode cX9_noHinge 0 = .ok (.aload_n 0, 1) := by decide +kernel
theorem dX9_noHinge_1 : decode cX9_noHinge 1 = .ok (.iload_n 2, 1) := by decide +kernel
theorem dX9_noHinge_2 : decode cX9_noHinge 2 = .ok (.invokevirtual 134, 3) := by decide +kernel
theorem dX9_noHinge_5 : decode cX9_noHinge 5 = .ok (.istore_n 3, 1) := by decide +kernel
theorem dX9_noHinge_6 : decode cX9_noHinge 6 = .ok (.aload_n 0, 1) := by decide +kernel
theorem dX9_noHinge_7 : decode cX9_noHinge 7 = .ok (.iload_n 2, 1) := by decide +kernel
theorem dX9_noHinge_8 : decode cX9_noHinge 8 = .ok (.invokevirtual 131, 3) := by decide +kernel
theorem dX9_noHinge_11 : decode cX9_noHinge 11 = .ok (.iconst (-1), 1) := by decide +kernel
theorem dX9_noHinge_12 : decode cX9_noHinge 12 = .ok (.if_icmp .ne 13, 3) := by decide +kernel
theorem dX9_noHinge_15 : decode cX9_noHinge 15 = .ok (.iload_n 3, 1) := by decide +kernel
theorem dX9_noHinge_16 : decode cX9_noHinge 16 = .ok (.iconst (-1), 1) := by decide +kernel
theorem dX9_noHinge_17 : decode cX9_noHinge 17 = .ok (.if_icmp .eq 10, 3) := by decide +kernel
theorem dX9_noHinge_20 : decode cX9_noHinge 20 = .ok (.iload_n 3, 1) := by decide +kernel
theorem dX9_noHinge_21 : decode cX9_noHinge 21 = .ok (.iload_n 1, 1) := by decide +kernel
theorem dX9_noHinge_22 : decode cX9_noHinge 22 = .ok (.if_icmp .eq 5, 3) := by decide +kernel
theorem dX9_noHinge_25 : decode cX9_noHinge 25 = .ok (.iconst 1, 1) := by decide +kernel
theorem dX9_noHinge_26 : decode cX9_noHinge 26 = .ok (.ireturn, 1) := by decide +kernel
theorem dX9_noHinge_27 : decode cX9_noHinge 27 = .ok (.aload_n 0, 1) := by decide +kernel
theorem dX9_noHinge_28 : decode cX9_noHinge 28 = .ok (.getfield 13, 3) := by decide +kernel
theorem dX9_noHinge_31 : decode cX9_noHinge 31 = .ok (.iconst 0, 1) := by decide +kernel
theorem dX9_noHinge_32 : decode cX9_noHinge 32 = .ok (.aload_n 0, 1) := by decide +kernel
theorem dX9_noHinge_33 : decode cX9_noHinge 33 = .ok (.getfield 7, 3) := by decide +kernel
theorem dX9_noHinge_36 : decode cX9_noHinge 36 = .ok (.iconst 0, 1) := by decide +kernel
theorem dX9_noHinge_37 : decode cX9_noHinge 37 = .ok (.invokestatic 52, 3) := by decide +kernel
theorem dX9_noHinge_40 : decode cX9_noHinge 40 = .ok (.aload_n 0, 1) := by decide +kernel
theorem dX9_noHinge_41 : decode cX9_noHinge 41 = .ok (.iload_n 1, 1) := by decide +kernel
theorem dX9_noHinge_42 : decode cX9_noHinge 42 = .ok (.invokevirtual 305, 3) := by decide +kernel
theorem dX9_noHinge_45 : decode cX9_noHinge 45 = .ok (.aload_n 0, 1) := by decide +kernel
theorem dX9_noHinge_46 : decode cX9_noHinge 46 = .ok (.iload_n 2, 1) := by decide +kernel
theorem dX9_noHinge_47 : decode cX9_noHinge 47 = .ok (.invokevirtual 160, 3) := by decide +kernel
theorem dX9_noHinge_50 : decode cX9_noHinge 50 = .ok (.aload_n 0, 1) := by decide +kernel
theorem dX9_noHinge_51 : decode cX9_noHinge 51 = .ok (.invokevirtual 192, 3) := by decide +kernel
theorem dX9_noHinge_54 : decode cX9_noHinge 54 = .ok (.istore 4, 2) := by decide +kernel
theorem dX9_noHinge_56 : decode cX9_noHinge 56 = .ok (.aload_n 0, 1) := by decide +kernel
theorem dX9_noHinge_57 : decode cX9_noHinge 57 = .ok (.getfield 7, 3) := by decide +kernel
theorem dX9_noHinge_60 : decode cX9_noHinge 60 = .ok (.iconst 0, 1) := by decide +kernel
theorem dX9_noHinge_61 : decode cX9_noHinge 61 = .ok (.aload_n 0, 1) := by decide +kernel
theorem dX9_noHinge_62 : decode cX9_noHinge 62 = .ok (.getfield 13, 3) := by decide +kernel
theorem dX9_noHinge_65 : decode cX9_noHinge 65 = .ok (.iconst 0, 1) := by decide +kernel
theorem dX9_noHinge_66 : decode cX9_noHinge 66 = .ok (.invokestatic 52, 3) := by decide +kernel
theorem dX9_noHinge_69 : decode cX9_noHinge 69 = .ok (.iload 4, 2) := by decide +kernel
theorem dX9_noHinge_71 : decode cX9_noHinge 71 = .ok (.ifCond .eq 7, 3) := by decide +kernel
theorem dX9_noHinge_74 : decode cX9_noHinge 74 = .ok (.iconst 0, 1) := by decide +kernel
theorem dX9_noHinge_75 : decode cX9_noHinge 75 = .ok (.goto 4, 3) := by decide +kernel
theorem dX9_noHinge_78 : decode cX9_noHinge 78 = .ok (.iconst 2, 1) := by decide +kernel
theorem dX9_noHinge_79 : decode cX9_noHinge 79 = .ok (.ireturn, 1) := by decide +kernel
set_option maxRecDepth 20000 in
theorem ggX9_noPlace_X9_isHinge : GoodIn wsX9_noPlace wsX9_isHinge := goodIn_r _ [6, 1, 7, 8, 5, 9, 10, 11, 12, 13, 14, 15, 16, 17, 18, 19, 20, 21, 22, 23, 24, 25, 26, 27, 28, 29, 30, 31] (by decide +kernel) (by decide +kernel)
set_option maxRecDepth 20000 in
theorem gX9_noPlace_X9_isHinge : GoodIn wsX9_noPlace (wsV RX9 246 RX9 yX9_isHinge wsX9_isHinge) := goodIn_app (goodIn_of _ (by decide +kernel)) ggX9_noPlace_X9_isHinge
set_option maxRecDepth 20000 in
theorem ggX9_noPlace_X9_isIn : GoodIn wsX9_noPlace wsX9_isIn := goodIn_r _ [9] (by decide +kernel) (by decide +kernel)
set_option maxRecDepth 20000 in
theorem gX9_noPlace_X9_isIn : GoodIn wsX9_noPlace (va_wsS RX9 56 yX9_isIn wsX9_isIn) := goodIn_app (goodIn_of _ (by decide +kernel)) ggX9_noPlace_X9_isIn
theorem dX9_noPlace_0 : decode cX9_noPlace 0 = .ok (.aload_n 0, 1) := by decide +kernel
theorem dX9_noPlace_1 : decode cX9_noPlace 1 = .ok (.iload_n 1, 1) := by decide +kernel
theorem dX9_noPlace_2 : decode cX9_noPlace 2 = .ok (.invokevirtual 246, 3) := by decide +kernel
theorem dX9_noPlace_5 : decode cX9_noPlace 5 = .ok (.ifCond .ne 7, 3) := by decide +kernel
theorem dX9_noPlace_8 : decode cX9_noPlace 8 = .ok (.iconst 1, 1) := by decide +kernel
theorem dX9_noPlace_9 : decode cX9_noPlace 9 = .ok (.goto 24, 3) := by decide +kernel
theorem dX9_noPlace_12 : decode cX9_noPlace 12 = .ok (.iload_n 2, 1) := by decide +kernel
theorem dX9_noPlace_13 : decode cX9_noPlace 13 = .ok (.iconst 1, 1) := by decide +kernel
theorem dX9_noPlace_14 : decode cX9_noPlace 14 = .ok (.aload_n 0, 1) := by decide +kernel
theorem dX9_noPlace_15 : decode cX9_noPlace 15 = .ok (.getfield 7, 3) := by decide +kernel
theorem dX9_noPlace_18 : decode cX9_noPlace 18 = .ok (.iconst 0, 1) := by decide +kernel
theorem dX9_noPlace_19 : decode cX9_noPlace 19 = .ok (.iaload, 1) := by decide +kernel
theorem dX9_noPlace_20 : decode cX9_noPlace 20 = .ok (.iconst 1, 1) := by decide +kernel
theorem dX9_noPlace_21 : decode cX9_noPlace 21 = .ok (.isub, 1) := by decide +kernel
theorem dX9_noPlace_22 : decode cX9_noPlace 22 = .ok (.invokestatic 56, 3) := by decide +kernel
theorem dX9_noPlace_25 : decode cX9_noPlace 25 = .ok (.ifCond .eq 7, 3) := by decide +kernel
theorem dX9_noPlace_28 : decode cX9_noPlace 28 = .ok (.iconst 0, 1) := by decide +kernel
theorem dX9_noPlace_29 : decode cX9_noPlace 29 = .ok (.goto 4, 3) := by decide +kernel
theorem dX9_noPlace_32 : decode cX9_noPlace 32 = .ok (.iconst 2, 1) := by decide +kernel
theorem dX9_noPlace_33 : decode cX9_noPlace 33 = .ok (.ireturn, 1) := by decide +kernel
set_option maxRecDepth 20000 in
theorem ggX9_tryHinge_X9_noPlace : GoodIn wsX9_tryHinge wsX9_noPlace := goodIn_r _ [6, 7, 8, 9, 10, 5, 11, 12, 13, 14, 71, 72, 73, 74, 75, 76, 77, 78, 79, 80, 81, 82, 83, 84, 85, 86, 87, 88, 89, 90, 91, 92] (by decide +kernel) (by decide +kernel)
set_option maxRecDepth 20000 in
theorem gX9_tryHinge_X9_noPlace : GoodIn wsX9_tryHinge (wsV RX9 308 RX9 yX9_noPlace wsX9_noPlace) := goodIn_app (goodIn_of _ (by decide +kernel)) ggX9_tryHinge_X9_noPlace
set_option maxRecDepth 20000 in
theorem ggX9_tryHinge_X9_noHinge : GoodIn wsX9_tryHinge wsX9_noHinge := goodIn_r _ [18, 19, 7, 20, 21, 22, 5, 23, 24, 25, 26, 27, 28, 29, 30, 31, 32, 33, 34, 35, 36, 37, 38, 39, 40, 41, 42, 43, 44, 45, 46, 47, 48, 49, 50, 51, 52, 53, 54, 55, 56, 57, 58, 59, 60, 61, 62, 63, 64, 65, 66, 67, 68, 69, 70, 71, 72, 73, 74, 75, 76, 77, 78, 79, 80, 81, 82, 83, 84, 85, 86, 87, 88, 89, 90, 91, 92] (by decide +kernel) (by decide +kernel)
set_option maxRecDepth 20000 in
theorem gX9_tryHinge_X9_noHinge : GoodIn wsX9_tryHinge (wsV RX9 311 RX9 yX9_noHinge wsX9_noHinge) := goodIn_app (goodIn_of _ (by decide +kernel)) ggX9_tryHinge_X9_noHinge
theorem dX9_tryHinge_0 : decode cX9_tryHinge 0 = .ok (.aload_n 0, 1) := by decide +kernel
theorem dX9_tryHinge_1 : decode cX9_tryHinge 1 = .ok (.aload_n 0, 1) := by decide +kernel
theorem dX9_tryHinge_2 : decode cX9_tryHinge 2 = .ok (.iload_n 1, 1) := by decide +kernel
theorem dX9_tryHinge_3 : decode cX9_tryHinge 3 = .ok (.iload_n 2, 1) := by decide +kernel
theorem dX9_tryHinge_4 : decode cX9_tryHinge 4 = .ok (.invokevirtual 308, 3) := by decide +kernel
theorem dX9_tryHinge_7 : decode cX9_tryHinge 7 = .ok (.putfield 46, 3) := by decide +kernel
theorem dX9_tryHinge_10 : decode cX9_tryHinge 10 = .ok (.aload_n 0, 1) := by decide +kernel
theorem dX9_tryHinge_11 : decode cX9_tryHinge 11 = .ok (.getfield 46, 3) := by decide +kernel
theorem dX9_tryHinge_14 : decode cX9_tryHinge 14 = .ok (.ifCond .le 5, 3) := by decide +kernel
theorem dX9_tryHinge_17 : decode cX9_tryHinge 17 = .ok (.iconst 0, 1) := by decide +kernel
theorem dX9_tryHinge_18 : decode cX9_tryHinge 18 = .ok (.ireturn, 1) := by decide +kernel
theorem dX9_tryHinge_19 : decode cX9_tryHinge 19 = .ok (.aload_n 0, 1) := by decide +kernel
theorem dX9_tryHinge_20 : decode cX9_tryHinge 20 = .ok (.iload_n 1, 1) := by decide +kernel
theorem dX9_tryHinge_21 : decode cX9_tryHinge 21 = .ok (.iload_n 2, 1) := by decide +kernel
theorem dX9_tryHinge_22 : decode cX9_tryHinge 22 = .ok (.invokevirtual 311, 3) := by decide +kernel
theorem dX9_tryHinge_25 : decode cX9_tryHinge 25 = .ok (.istore_n 3, 1) := by decide +kernel
theorem dX9_tryHinge_26 : decode cX9_tryHinge 26 = .ok (.iload_n 3, 1) := by decide +kernel
theorem dX9_tryHinge_27 : decode cX9_tryHinge 27 = .ok (.ifCond .le 10, 3) := by decide +kernel
theorem dX9_tryHinge_30 : decode cX9_tryHinge 30 = .ok (.bipush (-10), 2) := by decide +kernel
theorem dX9_tryHinge_32 : decode cX9_tryHinge 32 = .ok (.iload_n 3, 1) := by decide +kernel
theorem dX9_tryHinge_33 : decode cX9_tryHinge 33 = .ok (.isub, 1) := by decide +kernel
theorem dX9_tryHinge_34 : decode cX9_tryHinge 34 = .ok (.goto 4, 3) := by decide +kernel
theorem dX9_tryHinge_37 : decode cX9_tryHinge 37 = .ok (.iconst 0, 1) := by decide +kernel
theorem dX9_tryHinge_38 : decode cX9_tryHinge 38 = .ok (.ireturn, 1) := by decide +kernel
set_option maxRecDepth 20000 in
theorem ggX9_bestHinge_X9_isHinge : GoodIn wsX9_bestHinge wsX9_isHinge := goodIn_r _ [9, 2, 10, 11, 8, 12, 128, 129, 130, 131, 132, 133, 134, 135, 136, 137, 138, 139, 140, 141, 142, 143, 144, 145, 146, 147, 148, 149] (by decide +kernel) (by decide +kernel)
set_option maxRecDepth 20000 in
theorem gX9_bestHinge_X9_isHinge : GoodIn wsX9_bestHinge (wsV RX9 246 RX9 yX9_isHinge wsX9_isHinge) := goodIn_app (goodIn_of _ (by decide +kernel)) ggX9_bestHinge_X9_isHinge
set_option maxRecDepth 20000 in
theorem ggX9_bestHinge_X9_noHinge : GoodIn wsX9_bestHinge wsX9_noHinge := goodIn_r _ [16, 17, 2, 18, 19, 20, 8, 21, 22, 23, 24, 25, 26, 27, 28, 29, 30, 31, 32, 33, 34, 35, 36, 37, 38, 39, 40, 41, 42, 43, 44, 45, 46, 47, 48, 49, 50, 51, 52, 53, 54, 55, 56, 57, 58, 59, 60, 61, 62, 63, 64, 65, 66, 67, 68, 128, 129, 130, 131, 132, 133, 134, 135, 136, 137, 138, 139, 140, 141, 142, 143, 144, 145, 146, 147, 148, 149] (by decide +kernel) (by decide +kernel)
set_option maxRecDepth 20000 in
theorem gX9_bestHinge_X9_noHinge : GoodIn wsX9_bestHinge (wsV RX9 311 RX9 yX9_noHinge wsX9_noHinge) := goodIn_app (goodIn_of _ (by decide +kernel)) ggX9_bestHinge_X9_noHinge
set_option maxRecDepth 20000 in
theorem ggX9_bestHinge_X9_copies : GoodIn wsX9_bestHinge wsX9_copies := goodIn_r _ [32] (by decide +kernel) (by decide +kernel)
set_option maxRecDepth 20000 in
theorem gX9_bestHinge_X9_copies : GoodIn wsX9_bestHinge (va_wsS RX9 52 yX9_copies wsX9_copies) := goodIn_app (goodIn_of _ (by decide +kernel)) ggX9_bestHinge_X9_copies
set_option maxRecDepth 20000 in
theorem ggX9_bestHinge_X9_dropsHinge : GoodIn wsX9_bestHinge wsX9_dropsHinge := goodIn_r _ [36, 2, 128, 129, 130, 131, 132, 133, 134, 135, 136, 137, 138, 139, 140, 141, 142, 143, 144, 145, 146, 147, 148, 149] (by decide +kernel) (by decide +kernel)
set_option maxRecDepth 20000 in
theorem gX9_bestHinge_X9_dropsHinge : GoodIn wsX9_bestHinge (wsV RX9 305 RX9 yX9_dropsHinge wsX9_dropsHinge) := goodIn_app (goodIn_of _ (by decide +kernel)) ggX9_bestHinge_X9_dropsHinge
set_option maxRecDepth 20000 in
theorem ggX9_bestHinge_X9_addsHinge : GoodIn wsX9_bestHinge wsX9_addsHinge := goodIn_r _ [40, 2, 128, 129, 130, 131, 132, 133, 134, 135, 136, 137, 138, 139, 140, 141, 142, 143, 144, 145, 146, 147, 148, 149] (by decide +kernel) (by decide +kernel)
set_option maxRecDepth 20000 in
theorem gX9_bestHinge_X9_addsHinge : GoodIn wsX9_bestHinge (wsV RX9 160 RX9 yX9_addsHinge wsX9_addsHinge) := goodIn_app (goodIn_of _ (by decide +kernel)) ggX9_bestHinge_X9_addsHinge
set_option maxRecDepth 20000 in
theorem ggX9_bestHinge_X9_lays : GoodIn wsX9_bestHinge wsX9_lays := goodIn_r _ [72, 2, 73, 4, 45, 46, 47, 8, 48, 49, 26, 27, 28, 29, 50, 51, 52, 53, 54, 55, 56, 57, 58, 59, 60, 61, 62, 63, 64, 65, 66, 67, 68, 74, 75, 76, 77, 78, 79, 80, 128, 129, 130, 131, 132, 133, 134, 135, 136, 137, 138, 139, 140, 141, 142, 143, 144, 145, 146, 147, 148, 149] (by decide +kernel) (by decide +kernel)
set_option maxRecDepth 20000 in
theorem gX9_bestHinge_X9_lays : GoodIn wsX9_bestHinge (wsV RX9 240 RX9 yX9_lays wsX9_lays) := goodIn_app (goodIn_of _ (by decide +kernel)) ggX9_bestHinge_X9_lays
set_option maxRecDepth 20000 in
theorem ggX9_bestHinge_X9_worstPlace : GoodIn wsX9_bestHinge wsX9_worstPlace := goodIn_r _ [84, 85, 74, 75, 76, 8, 77, 2, 86, 87, 88, 89, 90, 91, 56, 92, 93, 94, 95, 96, 54, 55, 57, 97, 98, 99, 100, 101, 102, 103, 104, 105, 106, 107, 108, 73, 109, 110, 111, 112, 4, 26, 27, 28, 29, 113, 114, 115, 116, 117, 118, 119, 120, 121, 122, 123, 124, 10, 11, 12, 125, 126, 127, 128, 129, 130, 131, 132, 133, 134, 135, 136, 137, 138, 139, 140, 141, 142, 143, 144, 145, 146, 147, 148, 149] (by decide +kernel) (by decide +kernel)
set_option maxRecDepth 20000 in
theorem gX9_bestHinge_X9_worstPlace : GoodIn wsX9_bestHinge (wsV RX9 293 RX9 yX9_worstPlace wsX9_worstPlace) := goodIn_app (goodIn_of _ (by decide +kernel)) ggX9_bestHinge_X9_worstPlace
set_option maxRecDepth 20000 in
theorem ggX9_bestHinge_X9_greatestAt : GoodIn wsX9_bestHinge wsX9_greatestAt := goodIn_r _ [89, 90, 91, 56, 92, 93, 94, 95, 8, 96, 2, 54, 55, 57, 97, 98, 99, 100, 101, 102, 103, 104, 105, 106, 107, 108, 73, 109, 110, 111, 112, 4, 26, 27, 28, 29, 113, 114, 115, 116, 117, 118, 119, 120, 121, 122, 123, 124, 10, 11, 12, 125, 126, 127, 128, 129, 130, 131, 132, 133, 134, 135, 136, 137, 138, 139, 140, 141, 142, 143, 144, 145, 146, 147, 148, 149] (by decide +kernel) (by decide +kernel)
set_option maxRecDepth 20000 in
theorem gX9_bestHinge_X9_greatestAt : GoodIn wsX9_bestHinge (wsV RX9 290 RX9 yX9_greatestAt wsX9_greatestAt) := goodIn_app (goodIn_of _ (by decide +kernel)) ggX9_bestHinge_X9_greatestAt
theorem dX9_bestHinge_0 : decode cX9_bestHinge 0 = .ok (.aload_n 0, 1) := by decide +kernel
theorem dX9_bestHinge_1 : decode cX9_bestHinge 1 = .ok (.aload_n 0, 1) := by decide +kernel
theorem dX9_bestHinge_2 : decode cX9_bestHinge 2 = .ok (.iload_n 1, 1) := by decide +kernel
theorem dX9_bestHinge_3 : decode cX9_bestHinge 3 = .ok (.invokevirtual 246, 3) := by decide +kernel
theorem dX9_bestHinge_6 : decode cX9_bestHinge 6 = .ok (.ifCond .eq 7, 3) := by decide +kernel
theorem dX9_bestHinge_9 : decode cX9_bestHinge 9 = .ok (.iconst 0, 1) := by decide +kernel
theorem dX9_bestHinge_10 : decode cX9_bestHinge 10 = .ok (.goto 4, 3) := by decide +kernel
theorem dX9_bestHinge_13 : decode cX9_bestHinge 13 = .ok (.iconst 1, 1) := by decide +kernel
theorem dX9_bestHinge_14 : decode cX9_bestHinge 14 = .ok (.putfield 46, 3) := by decide +kernel
theorem dX9_bestHinge_17 : decode cX9_bestHinge 17 = .ok (.aload_n 0, 1) := by decide +kernel
theorem dX9_bestHinge_18 : decode cX9_bestHinge 18 = .ok (.getfield 46, 3) := by decide +kernel
theorem dX9_bestHinge_21 : decode cX9_bestHinge 21 = .ok (.ifCond .le 5, 3) := by decide +kernel
theorem dX9_bestHinge_24 : decode cX9_bestHinge 24 = .ok (.iconst 0, 1) := by decide +kernel
theorem dX9_bestHinge_25 : decode cX9_bestHinge 25 = .ok (.ireturn, 1) := by decide +kernel
theorem dX9_bestHinge_26 : decode cX9_bestHinge 26 = .ok (.iconst (-1), 1) := by decide +kernel
theorem dX9_bestHinge_27 : decode cX9_bestHinge 27 = .ok (.istore_n 2, 1) := by decide +kernel
theorem dX9_bestHinge_28 : decode cX9_bestHinge 28 = .ok (.lconst 0, 1) := by decide +kernel
theorem dX9_bestHinge_29 : decode cX9_bestHinge 29 = .ok (.lstore_n 3, 1) := by decide +kernel
theorem dX9_bestHinge_30 : decode cX9_bestHinge 30 = .ok (.lconst 1, 1) := by decide +kernel
theorem dX9_bestHinge_31 : decode cX9_bestHinge 31 = .ok (.lstore 5, 2) := by decide +kernel
theorem dX9_bestHinge_33 : decode cX9_bestHinge 33 = .ok (.iconst 1, 1) := by decide +kernel
theorem dX9_bestHinge_34 : decode cX9_bestHinge 34 = .ok (.istore 7, 2) := by decide +kernel
theorem dX9_bestHinge_36 : decode cX9_bestHinge 36 = .ok (.iload 7, 2) := by decide +kernel
theorem dX9_bestHinge_38 : decode cX9_bestHinge 38 = .ok (.aload_n 0, 1) := by decide +kernel
theorem dX9_bestHinge_39 : decode cX9_bestHinge 39 = .ok (.getfield 7, 3) := by decide +kernel
theorem dX9_bestHinge_42 : decode cX9_bestHinge 42 = .ok (.iconst 0, 1) := by decide +kernel
theorem dX9_bestHinge_43 : decode cX9_bestHinge 43 = .ok (.iaload, 1) := by decide +kernel
theorem dX9_bestHinge_44 : decode cX9_bestHinge 44 = .ok (.if_icmp .ge 108, 3) := by decide +kernel
theorem dX9_bestHinge_47 : decode cX9_bestHinge 47 = .ok (.aload_n 0, 1) := by decide +kernel
theorem dX9_bestHinge_48 : decode cX9_bestHinge 48 = .ok (.iload_n 1, 1) := by decide +kernel
theorem dX9_bestHinge_49 : decode cX9_bestHinge 49 = .ok (.iload 7, 2) := by decide +kernel
theorem dX9_bestHinge_51 : decode cX9_bestHinge 51 = .ok (.invokevirtual 311, 3) := by decide +kernel
theorem dX9_bestHinge_54 : decode cX9_bestHinge 54 = .ok (.ifCond .le 6, 3) := by decide +kernel
theorem dX9_bestHinge_57 : decode cX9_bestHinge 57 = .ok (.goto 89, 3) := by decide +kernel
theorem dX9_bestHinge_60 : decode cX9_bestHinge 60 = .ok (.aload_n 0, 1) := by decide +kernel
theorem dX9_bestHinge_61 : decode cX9_bestHinge 61 = .ok (.getfield 40, 3) := by decide +kernel
theorem dX9_bestHinge_64 : decode cX9_bestHinge 64 = .ok (.iconst 0, 1) := by decide +kernel
theorem dX9_bestHinge_65 : decode cX9_bestHinge 65 = .ok (.aload_n 0, 1) := by decide +kernel
theorem dX9_bestHinge_66 : decode cX9_bestHinge 66 = .ok (.getfield 7, 3) := by decide +kernel
theorem dX9_bestHinge_69 : decode cX9_bestHinge 69 = .ok (.iconst 0, 1) := by decide +kernel
theorem dX9_bestHinge_70 : decode cX9_bestHinge 70 = .ok (.invokestatic 52, 3) := by decide +kernel
theorem dX9_bestHinge_73 : decode cX9_bestHinge 73 = .ok (.aload_n 0, 1) := by decide +kernel
theorem dX9_bestHinge_74 : decode cX9_bestHinge 74 = .ok (.iload_n 1, 1) := by decide +kernel
theorem dX9_bestHinge_75 : decode cX9_bestHinge 75 = .ok (.invokevirtual 305, 3) := by decide +kernel
theorem dX9_bestHinge_78 : decode cX9_bestHinge 78 = .ok (.aload_n 0, 1) := by decide +kernel
theorem dX9_bestHinge_79 : decode cX9_bestHinge 79 = .ok (.iload 7, 2) := by decide +kernel
theorem dX9_bestHinge_81 : decode cX9_bestHinge 81 = .ok (.invokevirtual 160, 3) := by decide +kernel
theorem dX9_bestHinge_84 : decode cX9_bestHinge 84 = .ok (.aload_n 0, 1) := by decide +kernel
theorem dX9_bestHinge_85 : decode cX9_bestHinge 85 = .ok (.invokevirtual 240, 3) := by decide +kernel
theorem dX9_bestHinge_88 : decode cX9_bestHinge 88 = .ok (.aload_n 0, 1) := by decide +kernel
theorem dX9_bestHinge_89 : decode cX9_bestHinge 89 = .ok (.aload_n 0, 1) := by decide +kernel
theorem dX9_bestHinge_90 : decode cX9_bestHinge 90 = .ok (.invokevirtual 293, 3) := by decide +kernel
theorem dX9_bestHinge_93 : decode cX9_bestHinge 93 = .ok (.invokevirtual 290, 3) := by decide +kernel
theorem dX9_bestHinge_96 : decode cX9_bestHinge 96 = .ok (.lstore 8, 2) := by decide +kernel
theorem dX9_bestHinge_98 : decode cX9_bestHinge 98 = .ok (.aload_n 0, 1) := by decide +kernel
theorem dX9_bestHinge_99 : decode cX9_bestHinge 99 = .ok (.getfield 7, 3) := by decide +kernel
theorem dX9_bestHinge_102 : decode cX9_bestHinge 102 = .ok (.iconst 0, 1) := by decide +kernel
theorem dX9_bestHinge_103 : decode cX9_bestHinge 103 = .ok (.aload_n 0, 1) := by decide +kernel
theorem dX9_bestHinge_104 : decode cX9_bestHinge 104 = .ok (.getfield 40, 3) := by decide +kernel
theorem dX9_bestHinge_107 : decode cX9_bestHinge 107 = .ok (.iconst 0, 1) := by decide +kernel
theorem dX9_bestHinge_108 : decode cX9_bestHinge 108 = .ok (.invokestatic 52, 3) := by decide +kernel
theorem dX9_bestHinge_111 : decode cX9_bestHinge 111 = .ok (.iload_n 2, 1) := by decide +kernel
theorem dX9_bestHinge_112 : decode cX9_bestHinge 112 = .ok (.iconst (-1), 1) := by decide +kernel
theorem dX9_bestHinge_113 : decode cX9_bestHinge 113 = .ok (.if_icmp .eq 21, 3) := by decide +kernel
theorem dX9_bestHinge_116 : decode cX9_bestHinge 116 = .ok (.lload 8, 2) := by decide +kernel
theorem dX9_bestHinge_118 : decode cX9_bestHinge 118 = .ok (.lload 5, 2) := by decide +kernel
theorem dX9_bestHinge_120 : decode cX9_bestHinge 120 = .ok (.lmul, 1) := by decide +kernel
theorem dX9_bestHinge_121 : decode cX9_bestHinge 121 = .ok (.lload_n 3, 1) := by decide +kernel
theorem dX9_bestHinge_122 : decode cX9_bestHinge 122 = .ok (.aload_n 0, 1) := by decide +kernel
theorem dX9_bestHinge_123 : decode cX9_bestHinge 123 = .ok (.getfield 227, 3) := by decide +kernel
theorem dX9_bestHinge_126 : decode cX9_bestHinge 126 = .ok (.lmul, 1) := by decide +kernel
theorem dX9_bestHinge_127 : decode cX9_bestHinge 127 = .ok (.lcmp, 1) := by decide +kernel
theorem dX9_bestHinge_128 : decode cX9_bestHinge 128 = .ok (.ifCond .lt 6, 3) := by decide +kernel
theorem dX9_bestHinge_131 : decode cX9_bestHinge 131 = .ok (.goto 15, 3) := by decide +kernel
theorem dX9_bestHinge_134 : decode cX9_bestHinge 134 = .ok (.iload 7, 2) := by decide +kernel
theorem dX9_bestHinge_136 : decode cX9_bestHinge 136 = .ok (.istore_n 2, 1) := by decide +kernel
theorem dX9_bestHinge_137 : decode cX9_bestHinge 137 = .ok (.lload 8, 2) := by decide +kernel
theorem dX9_bestHinge_139 : decode cX9_bestHinge 139 = .ok (.lstore_n 3, 1) := by decide +kernel
theorem dX9_bestHinge_140 : decode cX9_bestHinge 140 = .ok (.aload_n 0, 1) := by decide +kernel
theorem dX9_bestHinge_141 : decode cX9_bestHinge 141 = .ok (.getfield 227, 3) := by decide +kernel
theorem dX9_bestHinge_144 : decode cX9_bestHinge 144 = .ok (.lstore 5, 2) := by decide +kernel
theorem dX9_bestHinge_146 : decode cX9_bestHinge 146 = .ok (.iinc 7 1, 3) := by decide +kernel
theorem dX9_bestHinge_149 : decode cX9_bestHinge 149 = .ok (.goto (-113), 3) := by decide +kernel
theorem dX9_bestHinge_152 : decode cX9_bestHinge 152 = .ok (.iload_n 2, 1) := by decide +kernel
theorem dX9_bestHinge_153 : decode cX9_bestHinge 153 = .ok (.ireturn, 1) := by decide +kernel
set_option maxRecDepth 20000 in
theorem ggX9_strongest_X9_lays : GoodIn wsX9_strongest wsX9_lays := goodIn_r _ [8, 3, 9, 10, 11, 12, 13, 7, 14, 15, 16, 17, 18, 19, 20, 21, 22, 23, 24, 25, 26, 27, 28, 29, 30, 31, 32, 33, 34, 35, 36, 37, 38, 39, 40, 41, 42, 43, 44, 45, 99, 100, 101, 102, 103, 104, 105, 106, 107, 108, 109, 110, 111, 112, 113, 114, 115, 116, 117, 118, 119, 120] (by decide +kernel) (by decide +kernel)
set_option maxRecDepth 20000 in
theorem gX9_strongest_X9_lays : GoodIn wsX9_strongest (wsV RX9 240 RX9 yX9_lays wsX9_lays) := goodIn_app (goodIn_of _ (by decide +kernel)) ggX9_strongest_X9_lays
set_option maxRecDepth 20000 in
theorem ggX9_strongest_X9_dangerAt : GoodIn wsX9_strongest wsX9_dangerAt := goodIn_r _ [49, 3, 10, 50, 51, 52, 7, 53, 54, 55, 56, 57, 58, 59, 60, 61, 9, 62, 63, 64, 65, 16, 17, 18, 19, 66, 67, 68, 69, 70, 71, 72, 73, 74, 75, 76, 77, 78, 79, 80, 81, 82, 83, 84, 39, 40, 41, 42, 85, 86, 87, 99, 100, 101, 102, 103, 104, 105, 106, 107, 108, 109, 110, 111, 112, 113, 114, 115, 116, 117, 118, 119, 120] (by decide +kernel) (by decide +kernel)
set_option maxRecDepth 20000 in
theorem gX9_strongest_X9_dangerAt : GoodIn wsX9_strongest (wsV RX9 299 RX9 yX9_dangerAt wsX9_dangerAt) := goodIn_app (goodIn_of _ (by decide +kernel)) ggX9_strongest_X9_dangerAt
set_option maxRecDepth 20000 in
theorem ggX9_strongest_X9_copies : GoodIn wsX9_strongest wsX9_copies := goodIn_r _ [90] (by decide +kernel) (by decide +kernel)
set_option maxRecDepth 20000 in
theorem gX9_strongest_X9_copies : GoodIn wsX9_strongest (va_wsS RX9 52 yX9_copies wsX9_copies) := goodIn_app (goodIn_of _ (by decide +kernel)) ggX9_strongest_X9_copies
set_option maxRecDepth 20000 in
theorem ggX9_strongest_X9_firstBad : GoodIn wsX9_strongest wsX9_firstBad := goodIn_r _ [94, 95, 96, 97, 7, 98, 3, 24, 25, 26, 27, 46, 47, 48, 49, 10, 50, 51, 52, 53, 54, 55, 56, 57, 58, 59, 60, 61, 9, 62, 63, 64, 65, 16, 17, 18, 19, 66, 67, 68, 69, 70, 71, 72, 73, 74, 75, 76, 77, 78, 79, 80, 81, 82, 83, 84, 39, 40, 41, 42, 85, 86, 87, 99, 100, 101, 102, 103, 104, 105, 106, 107, 108, 109, 110, 111, 112, 113, 114, 115, 116, 117, 118, 119, 120] (by decide +kernel) (by decide +kernel)
set_option maxRecDepth 20000 in
theorem gX9_strongest_X9_firstBad : GoodIn wsX9_strongest (wsV RX9 302 RX9 yX9_firstBad wsX9_firstBad) := goodIn_app (goodIn_of _ (by decide +kernel)) ggX9_strongest_X9_firstBad
theorem dX9_strongest_0 : decode cX9_strongest 0 = .ok (.aload_n 0, 1) := by decide +kernel
theorem dX9_strongest_1 : decode cX9_strongest 1 = .ok (.iconst 0, 1) := by decide +kernel
theorem dX9_strongest_2 : decode cX9_strongest 2 = .ok (.putfield 46, 3) := by decide +kernel
theorem dX9_strongest_5 : decode cX9_strongest 5 = .ok (.aload_n 0, 1) := by decide +kernel
theorem dX9_strongest_6 : decode cX9_strongest 6 = .ok (.invokevirtual 240, 3) := by decide +kernel
theorem dX9_strongest_9 : decode cX9_strongest 9 = .ok (.aload_n 0, 1) := by decide +kernel
theorem dX9_strongest_10 : decode cX9_strongest 10 = .ok (.iconst (-1), 1) := by decide +kernel
theorem dX9_strongest_11 : decode cX9_strongest 11 = .ok (.invokevirtual 299, 3) := by decide +kernel
theorem dX9_strongest_14 : decode cX9_strongest 14 = .ok (.ifCond .le 5, 3) := by decide +kernel
theorem dX9_strongest_17 : decode cX9_strongest 17 = .ok (.iconst 0, 1) := by decide +kernel
theorem dX9_strongest_18 : decode cX9_strongest 18 = .ok (.ireturn, 1) := by decide +kernel
theorem dX9_strongest_19 : decode cX9_strongest 19 = .ok (.aload_n 0, 1) := by decide +kernel
theorem dX9_strongest_20 : decode cX9_strongest 20 = .ok (.getfield 40, 3) := by decide +kernel
theorem dX9_strongest_23 : decode cX9_strongest 23 = .ok (.iconst 0, 1) := by decide +kernel
theorem dX9_strongest_24 : decode cX9_strongest 24 = .ok (.aload_n 0, 1) := by decide +kernel
theorem dX9_strongest_25 : decode cX9_strongest 25 = .ok (.getfield 7, 3) := by decide +kernel
theorem dX9_strongest_28 : decode cX9_strongest 28 = .ok (.iconst 0, 1) := by decide +kernel
theorem dX9_strongest_29 : decode cX9_strongest 29 = .ok (.invokestatic 52, 3) := by decide +kernel
theorem dX9_strongest_32 : decode cX9_strongest 32 = .ok (.aload_n 0, 1) := by decide +kernel
theorem dX9_strongest_33 : decode cX9_strongest 33 = .ok (.getfield 7, 3) := by decide +kernel
theorem dX9_strongest_36 : decode cX9_strongest 36 = .ok (.iconst 5, 1) := by decide +kernel
theorem dX9_strongest_37 : decode cX9_strongest 37 = .ok (.iconst 1, 1) := by decide +kernel
theorem dX9_strongest_38 : decode cX9_strongest 38 = .ok (.iastore, 1) := by decide +kernel
theorem dX9_strongest_39 : decode cX9_strongest 39 = .ok (.aload_n 0, 1) := by decide +kernel
theorem dX9_strongest_40 : decode cX9_strongest 40 = .ok (.getfield 7, 3) := by decide +kernel
theorem dX9_strongest_43 : decode cX9_strongest 43 = .ok (.bipush 36, 2) := by decide +kernel
theorem dX9_strongest_45 : decode cX9_strongest 45 = .ok (.iconst 0, 1) := by decide +kernel
theorem dX9_strongest_46 : decode cX9_strongest 46 = .ok (.iastore, 1) := by decide +kernel
theorem dX9_strongest_47 : decode cX9_strongest 47 = .ok (.iconst 0, 1) := by decide +kernel
theorem dX9_strongest_48 : decode cX9_strongest 48 = .ok (.istore_n 1, 1) := by decide +kernel
theorem dX9_strongest_49 : decode cX9_strongest 49 = .ok (.sipush 999, 3) := by decide +kernel
theorem dX9_strongest_52 : decode cX9_strongest 52 = .ok (.istore_n 2, 1) := by decide +kernel
theorem dX9_strongest_53 : decode cX9_strongest 53 = .ok (.iload_n 1, 1) := by decide +kernel
theorem dX9_strongest_54 : decode cX9_strongest 54 = .ok (.iload_n 2, 1) := by decide +kernel
theorem dX9_strongest_55 : decode cX9_strongest 55 = .ok (.if_icmp .ge 49, 3) := by decide +kernel
theorem dX9_strongest_58 : decode cX9_strongest 58 = .ok (.aload_n 0, 1) := by decide +kernel
theorem dX9_strongest_59 : decode cX9_strongest 59 = .ok (.getfield 7, 3) := by decide +kernel
theorem dX9_strongest_62 : decode cX9_strongest 62 = .ok (.bipush 35, 2) := by decide +kernel
theorem dX9_strongest_64 : decode cX9_strongest 64 = .ok (.iload_n 1, 1) := by decide +kernel
theorem dX9_strongest_65 : decode cX9_strongest 65 = .ok (.iload_n 2, 1) := by decide +kernel
theorem dX9_strongest_66 : decode cX9_strongest 66 = .ok (.iadd, 1) := by decide +kernel
theorem dX9_strongest_67 : decode cX9_strongest 67 = .ok (.iconst 1, 1) := by decide +kernel
theorem dX9_strongest_68 : decode cX9_strongest 68 = .ok (.iadd, 1) := by decide +kernel
theorem dX9_strongest_69 : decode cX9_strongest 69 = .ok (.iconst 2, 1) := by decide +kernel
theorem dX9_strongest_70 : decode cX9_strongest 70 = .ok (.idiv, 1) := by decide +kernel
theorem dX9_strongest_71 : decode cX9_strongest 71 = .ok (.iastore, 1) := by decide +kernel
theorem dX9_strongest_72 : decode cX9_strongest 72 = .ok (.aload_n 0, 1) := by decide +kernel
theorem dX9_strongest_73 : decode cX9_strongest 73 = .ok (.invokevirtual 302, 3) := by decide +kernel
theorem dX9_strongest_76 : decode cX9_strongest 76 = .ok (.iconst (-1), 1) := by decide +kernel
theorem dX9_strongest_77 : decode cX9_strongest 77 = .ok (.if_icmp .ne 14, 3) := by decide +kernel
theorem dX9_strongest_80 : decode cX9_strongest 80 = .ok (.aload_n 0, 1) := by decide +kernel
theorem dX9_strongest_81 : decode cX9_strongest 81 = .ok (.getfield 7, 3) := by decide +kernel
theorem dX9_strongest_84 : decode cX9_strongest 84 = .ok (.bipush 35, 2) := by decide +kernel
theorem dX9_strongest_86 : decode cX9_strongest 86 = .ok (.iaload, 1) := by decide +kernel
theorem dX9_strongest_87 : decode cX9_strongest 87 = .ok (.istore_n 1, 1) := by decide +kernel
theorem dX9_strongest_88 : decode cX9_strongest 88 = .ok (.goto (-35), 3) := by decide +kernel
theorem dX9_strongest_91 : decode cX9_strongest 91 = .ok (.aload_n 0, 1) := by decide +kernel
theorem dX9_strongest_92 : decode cX9_strongest 92 = .ok (.getfield 7, 3) := by decide +kernel
theorem dX9_strongest_95 : decode cX9_strongest 95 = .ok (.bipush 35, 2) := by decide +kernel
theorem dX9_strongest_97 : decode cX9_strongest 97 = .ok (.iaload, 1) := by decide +kernel
theorem dX9_strongest_98 : decode cX9_strongest 98 = .ok (.iconst 1, 1) := by decide +kernel
theorem dX9_strongest_99 : decode cX9_strongest 99 = .ok (.isub, 1) := by decide +kernel
theorem dX9_strongest_100 : decode cX9_strongest 100 = .ok (.istore_n 2, 1) := by decide +kernel
theorem dX9_strongest_101 : decode cX9_strongest 101 = .ok (.goto (-48), 3) := by decide +kernel
theorem dX9_strongest_104 : decode cX9_strongest 104 = .ok (.aload_n 0, 1) := by decide +kernel
theorem dX9_strongest_105 : decode cX9_strongest 105 = .ok (.getfield 7, 3) := by decide +kernel
theorem dX9_strongest_108 : decode cX9_strongest 108 = .ok (.iconst 0, 1) := by decide +kernel
theorem dX9_strongest_109 : decode cX9_strongest 109 = .ok (.aload_n 0, 1) := by decide +kernel
theorem dX9_strongest_110 : decode cX9_strongest 110 = .ok (.getfield 40, 3) := by decide +kernel
theorem dX9_strongest_113 : decode cX9_strongest 113 = .ok (.iconst 0, 1) := by decide +kernel
theorem dX9_strongest_114 : decode cX9_strongest 114 = .ok (.invokestatic 52, 3) := by decide +kernel
theorem dX9_strongest_117 : decode cX9_strongest 117 = .ok (.iload_n 1, 1) := by decide +kernel
theorem dX9_strongest_118 : decode cX9_strongest 118 = .ok (.ireturn, 1) := by decide +kernel
set_option maxRecDepth 20000 in
theorem ggX9_moveSupport_X9_isSupport : GoodIn wsX9_moveSupport wsX9_isSupport := goodIn_r _ [8, 3, 9, 10, 7, 11, 77, 78, 79, 80, 81, 82, 83, 84, 85, 86, 87, 88, 89, 90, 91, 92, 93, 94, 95, 96, 97, 98] (by decide +kernel) (by decide +kernel)
set_option maxRecDepth 20000 in
theorem gX9_moveSupport_X9_isSupport : GoodIn wsX9_moveSupport (wsV RX9 243 RX9 yX9_isSupport wsX9_isSupport) := goodIn_app (goodIn_of _ (by decide +kernel)) ggX9_moveSupport_X9_isSupport
set_option maxRecDepth 20000 in
theorem ggX9_moveSupport_X9_isPlace : GoodIn wsX9_moveSupport wsX9_isPlace := goodIn_r _ [15, 3, 9, 10, 7, 11, 77, 78, 79, 80, 81, 82, 83, 84, 85, 86, 87, 88, 89, 90, 91, 92, 93, 94, 95, 96, 97, 98] (by decide +kernel) (by decide +kernel)
set_option maxRecDepth 20000 in
theorem gX9_moveSupport_X9_isPlace : GoodIn wsX9_moveSupport (wsV RX9 249 RX9 yX9_isPlace wsX9_isPlace) := goodIn_app (goodIn_of _ (by decide +kernel)) ggX9_moveSupport_X9_isPlace
set_option maxRecDepth 20000 in
theorem ggX9_moveSupport_X9_supportAt : GoodIn wsX9_moveSupport wsX9_supportAt := goodIn_r _ [19, 3, 20, 21, 22, 7, 23, 77, 78, 79, 80, 81, 82, 83, 84, 85, 86, 87, 88, 89, 90, 91, 92, 93, 94, 95, 96, 97, 98] (by decide +kernel) (by decide +kernel)
set_option maxRecDepth 20000 in
theorem gX9_moveSupport_X9_supportAt : GoodIn wsX9_moveSupport (wsV RX9 131 RX9 yX9_supportAt wsX9_supportAt) := goodIn_app (goodIn_of _ (by decide +kernel)) ggX9_moveSupport_X9_supportAt
set_option maxRecDepth 20000 in
theorem ggX9_moveSupport_X9_hingeAt : GoodIn wsX9_moveSupport wsX9_hingeAt := goodIn_r _ [27, 3, 77, 78, 79, 80, 81, 82, 83, 84, 85, 86, 87, 88, 89, 90, 91, 92, 93, 94, 95, 96, 97, 98] (by decide +kernel) (by decide +kernel)
set_option maxRecDepth 20000 in
theorem gX9_moveSupport_X9_hingeAt : GoodIn wsX9_moveSupport (wsV RX9 134 RX9 yX9_hingeAt wsX9_hingeAt) := goodIn_app (goodIn_of _ (by decide +kernel)) ggX9_moveSupport_X9_hingeAt
set_option maxRecDepth 20000 in
theorem ggX9_moveSupport_X9_copies : GoodIn wsX9_moveSupport wsX9_copies := goodIn_r _ [30] (by decide +kernel) (by decide +kernel)
set_option maxRecDepth 20000 in
theorem gX9_moveSupport_X9_copies : GoodIn wsX9_moveSupport (va_wsS RX9 52 yX9_copies wsX9_copies) := goodIn_app (goodIn_of _ (by decide +kernel)) ggX9_moveSupport_X9_copies
set_option maxRecDepth 20000 in
theorem ggX9_moveSupport_X9_bearsOf : GoodIn wsX9_moveSupport wsX9_bearsOf := goodIn_r _ [34, 3, 77, 78, 79, 80, 81, 82, 83, 84, 85, 86, 87, 88, 89, 90, 91, 92, 93, 94, 95, 96, 97, 98] (by decide +kernel) (by decide +kernel)
set_option maxRecDepth 20000 in
theorem gX9_moveSupport_X9_bearsOf : GoodIn wsX9_moveSupport (wsV RX9 296 RX9 yX9_bearsOf wsX9_bearsOf) := goodIn_app (goodIn_of _ (by decide +kernel)) ggX9_moveSupport_X9_bearsOf
set_option maxRecDepth 20000 in
theorem ggX9_moveSupport_X9_dropsSupport : GoodIn wsX9_moveSupport wsX9_dropsSupport := goodIn_r _ [38, 3, 77, 78, 79, 80, 81, 82, 83, 84, 85, 86, 87, 88, 89, 90, 91, 92, 93, 94, 95, 96, 97, 98] (by decide +kernel) (by decide +kernel)
set_option maxRecDepth 20000 in
theorem gX9_moveSupport_X9_dropsSupport : GoodIn wsX9_moveSupport (wsV RX9 314 RX9 yX9_dropsSupport wsX9_dropsSupport) := goodIn_app (goodIn_of _ (by decide +kernel)) ggX9_moveSupport_X9_dropsSupport
set_option maxRecDepth 20000 in
theorem ggX9_moveSupport_X9_addsSupport : GoodIn wsX9_moveSupport wsX9_addsSupport := goodIn_r _ [42, 3, 20, 21, 22, 7, 23, 77, 78, 79, 80, 81, 82, 83, 84, 85, 86, 87, 88, 89, 90, 91, 92, 93, 94, 95, 96, 97, 98] (by decide +kernel) (by decide +kernel)
set_option maxRecDepth 20000 in
theorem gX9_moveSupport_X9_addsSupport : GoodIn wsX9_moveSupport (wsV RX9 157 RX9 yX9_addsSupport wsX9_addsSupport) := goodIn_app (goodIn_of _ (by decide +kernel)) ggX9_moveSupport_X9_addsSupport
set_option maxRecDepth 20000 in
theorem ggX9_moveSupport_X9_isStanding : GoodIn wsX9_moveSupport wsX9_isStanding := goodIn_r _ [46, 47, 48, 49, 7, 50, 3, 51, 20, 21, 22, 23, 52, 53, 54, 55, 56, 57, 58, 59, 60, 61, 62, 63, 64, 65, 66, 67, 68, 69, 70, 77, 78, 79, 80, 81, 82, 83, 84, 85, 86, 87, 88, 89, 90, 91, 92, 93, 94, 95, 96, 97, 98] (by decide +kernel) (by decide +kernel)
set_option maxRecDepth 20000 in
theorem gX9_moveSupport_X9_isStanding : GoodIn wsX9_moveSupport (wsV RX9 192 RX9 yX9_isStanding wsX9_isStanding) := goodIn_app (goodIn_of _ (by decide +kernel)) ggX9_moveSupport_X9_isStanding
set_option maxRecDepth 20000 in
theorem ggX9_moveSupport_X9_keeps : GoodIn wsX9_moveSupport wsX9_keeps := goodIn_r _ [74, 75, 76, 28, 29, 7, 30, 77, 78, 79, 80, 81, 82, 83, 84, 85, 86, 87, 88, 89, 90, 91, 92, 93, 94, 95, 96, 97, 98] (by decide +kernel) (by decide +kernel)
set_option maxRecDepth 20000 in
theorem gX9_moveSupport_X9_keeps : GoodIn wsX9_moveSupport (wsV RX9 60 RX9 yX9_keeps wsX9_keeps) := goodIn_app (goodIn_of _ (by decide +kernel)) ggX9_moveSupport_X9_keeps
theorem dX9_moveSupport_0 : decode cX9_moveSupport 0 = .ok (.aload_n 0, 1) := by decide +kernel
theorem dX9_moveSupport_1 : decode cX9_moveSupport 1 = .ok (.aload_n 0, 1) := by decide +kernel
theorem dX9_moveSupport_2 : decode cX9_moveSupport 2 = .ok (.iload_n 1, 1) := by decide +kernel
theorem dX9_moveSupport_3 : decode cX9_moveSupport 3 = .ok (.invokevirtual 243, 3) := by decide +kernel
theorem dX9_moveSupport_6 : decode cX9_moveSupport 6 = .ok (.ifCond .eq 15, 3) := by decide +kernel
theorem dX9_moveSupport_9 : decode cX9_moveSupport 9 = .ok (.aload_n 0, 1) := by decide +kernel
theorem dX9_moveSupport_10 : decode cX9_moveSupport 10 = .ok (.iload_n 2, 1) := by decide +kernel
theorem dX9_moveSupport_11 : decode cX9_moveSupport 11 = .ok (.invokevirtual 249, 3) := by decide +kernel
theorem dX9_moveSupport_14 : decode cX9_moveSupport 14 = .ok (.ifCond .eq 7, 3) := by decide +kernel
theorem dX9_moveSupport_17 : decode cX9_moveSupport 17 = .ok (.iconst 0, 1) := by decide +kernel
theorem dX9_moveSupport_18 : decode cX9_moveSupport 18 = .ok (.goto 4, 3) := by decide +kernel
theorem dX9_moveSupport_21 : decode cX9_moveSupport 21 = .ok (.iconst 1, 1) := by decide +kernel
theorem dX9_moveSupport_22 : decode cX9_moveSupport 22 = .ok (.putfield 46, 3) := by decide +kernel
theorem dX9_moveSupport_25 : decode cX9_moveSupport 25 = .ok (.aload_n 0, 1) := by decide +kernel
theorem dX9_moveSupport_26 : decode cX9_moveSupport 26 = .ok (.getfield 46, 3) := by decide +kernel
theorem dX9_moveSupport_29 : decode cX9_moveSupport 29 = .ok (.ifCond .le 5, 3) := by decide +kernel
theorem dX9_moveSupport_32 : decode cX9_moveSupport 32 = .ok (.iconst 0, 1) := by decide +kernel
theorem dX9_moveSupport_33 : decode cX9_moveSupport 33 = .ok (.ireturn, 1) := by decide +kernel
theorem dX9_moveSupport_34 : decode cX9_moveSupport 34 = .ok (.aload_n 0, 1) := by decide +kernel
theorem dX9_moveSupport_35 : decode cX9_moveSupport 35 = .ok (.iload_n 2, 1) := by decide +kernel
theorem dX9_moveSupport_36 : decode cX9_moveSupport 36 = .ok (.invokevirtual 131, 3) := by decide +kernel
theorem dX9_moveSupport_39 : decode cX9_moveSupport 39 = .ok (.istore_n 3, 1) := by decide +kernel
theorem dX9_moveSupport_40 : decode cX9_moveSupport 40 = .ok (.aload_n 0, 1) := by decide +kernel
theorem dX9_moveSupport_41 : decode cX9_moveSupport 41 = .ok (.iload_n 2, 1) := by decide +kernel
theorem dX9_moveSupport_42 : decode cX9_moveSupport 42 = .ok (.invokevirtual 134, 3) := by decide +kernel
theorem dX9_moveSupport_45 : decode cX9_moveSupport 45 = .ok (.iconst (-1), 1) := by decide +kernel
theorem dX9_moveSupport_46 : decode cX9_moveSupport 46 = .ok (.if_icmp .ne 13, 3) := by decide +kernel
theorem dX9_moveSupport_49 : decode cX9_moveSupport 49 = .ok (.iload_n 3, 1) := by decide +kernel
theorem dX9_moveSupport_50 : decode cX9_moveSupport 50 = .ok (.iconst (-1), 1) := by decide +kernel
theorem dX9_moveSupport_51 : decode cX9_moveSupport 51 = .ok (.if_icmp .eq 11, 3) := by decide +kernel
theorem dX9_moveSupport_54 : decode cX9_moveSupport 54 = .ok (.iload_n 3, 1) := by decide +kernel
theorem dX9_moveSupport_55 : decode cX9_moveSupport 55 = .ok (.iload_n 1, 1) := by decide +kernel
theorem dX9_moveSupport_56 : decode cX9_moveSupport 56 = .ok (.if_icmp .eq 6, 3) := by decide +kernel
theorem dX9_moveSupport_59 : decode cX9_moveSupport 59 = .ok (.bipush (-11), 2) := by decide +kernel
theorem dX9_moveSupport_61 : decode cX9_moveSupport 61 = .ok (.ireturn, 1) := by decide +kernel
theorem dX9_moveSupport_62 : decode cX9_moveSupport 62 = .ok (.aload_n 0, 1) := by decide +kernel
theorem dX9_moveSupport_63 : decode cX9_moveSupport 63 = .ok (.getfield 13, 3) := by decide +kernel
theorem dX9_moveSupport_66 : decode cX9_moveSupport 66 = .ok (.iconst 0, 1) := by decide +kernel
theorem dX9_moveSupport_67 : decode cX9_moveSupport 67 = .ok (.aload_n 0, 1) := by decide +kernel
theorem dX9_moveSupport_68 : decode cX9_moveSupport 68 = .ok (.getfield 7, 3) := by decide +kernel
theorem dX9_moveSupport_71 : decode cX9_moveSupport 71 = .ok (.iconst 0, 1) := by decide +kernel
theorem dX9_moveSupport_72 : decode cX9_moveSupport 72 = .ok (.invokestatic 52, 3) := by decide +kernel
theorem dX9_moveSupport_75 : decode cX9_moveSupport 75 = .ok (.aload_n 0, 1) := by decide +kernel
theorem dX9_moveSupport_76 : decode cX9_moveSupport 76 = .ok (.iload_n 1, 1) := by decide +kernel
theorem dX9_moveSupport_77 : decode cX9_moveSupport 77 = .ok (.invokevirtual 296, 3) := by decide +kernel
theorem dX9_moveSupport_80 : decode cX9_moveSupport 80 = .ok (.istore 4, 2) := by decide +kernel
theorem dX9_moveSupport_82 : decode cX9_moveSupport 82 = .ok (.aload_n 0, 1) := by decide +kernel
theorem dX9_moveSupport_83 : decode cX9_moveSupport 83 = .ok (.iload_n 1, 1) := by decide +kernel
theorem dX9_moveSupport_84 : decode cX9_moveSupport 84 = .ok (.invokevirtual 314, 3) := by decide +kernel
theorem dX9_moveSupport_87 : decode cX9_moveSupport 87 = .ok (.aload_n 0, 1) := by decide +kernel
theorem dX9_moveSupport_88 : decode cX9_moveSupport 88 = .ok (.iload_n 2, 1) := by decide +kernel
theorem dX9_moveSupport_89 : decode cX9_moveSupport 89 = .ok (.iload 4, 2) := by decide +kernel
theorem dX9_moveSupport_91 : decode cX9_moveSupport 91 = .ok (.invokevirtual 157, 3) := by decide +kernel
theorem dX9_moveSupport_94 : decode cX9_moveSupport 94 = .ok (.aload_n 0, 1) := by decide +kernel
theorem dX9_moveSupport_95 : decode cX9_moveSupport 95 = .ok (.invokevirtual 192, 3) := by decide +kernel
theorem dX9_moveSupport_98 : decode cX9_moveSupport 98 = .ok (.ifCond .ne 19, 3) := by decide +kernel
theorem dX9_moveSupport_101 : decode cX9_moveSupport 101 = .ok (.aload_n 0, 1) := by decide +kernel
theorem dX9_moveSupport_102 : decode cX9_moveSupport 102 = .ok (.getfield 7, 3) := by decide +kernel
theorem dX9_moveSupport_105 : decode cX9_moveSupport 105 = .ok (.iconst 0, 1) := by decide +kernel
theorem dX9_moveSupport_106 : decode cX9_moveSupport 106 = .ok (.aload_n 0, 1) := by decide +kernel
theorem dX9_moveSupport_107 : decode cX9_moveSupport 107 = .ok (.getfield 13, 3) := by decide +kernel
theorem dX9_moveSupport_110 : decode cX9_moveSupport 110 = .ok (.iconst 0, 1) := by decide +kernel
theorem dX9_moveSupport_111 : decode cX9_moveSupport 111 = .ok (.invokestatic 52, 3) := by decide +kernel
theorem dX9_moveSupport_114 : decode cX9_moveSupport 114 = .ok (.bipush (-12), 2) := by decide +kernel
theorem dX9_moveSupport_116 : decode cX9_moveSupport 116 = .ok (.ireturn, 1) := by decide +kernel
theorem dX9_moveSupport_117 : decode cX9_moveSupport 117 = .ok (.aload_n 0, 1) := by decide +kernel
theorem dX9_moveSupport_118 : decode cX9_moveSupport 118 = .ok (.aload_n 0, 1) := by decide +kernel
theorem dX9_moveSupport_119 : decode cX9_moveSupport 119 = .ok (.getfield 13, 3) := by decide +kernel
theorem dX9_moveSupport_122 : decode cX9_moveSupport 122 = .ok (.invokevirtual 60, 3) := by decide +kernel
theorem dX9_moveSupport_125 : decode cX9_moveSupport 125 = .ok (.aload_n 0, 1) := by decide +kernel
theorem dX9_moveSupport_126 : decode cX9_moveSupport 126 = .ok (.iload_n 2, 1) := by decide +kernel
theorem dX9_moveSupport_127 : decode cX9_moveSupport 127 = .ok (.invokevirtual 131, 3) := by decide +kernel
theorem dX9_moveSupport_130 : decode cX9_moveSupport 130 = .ok (.ireturn, 1) := by decide +kernel
set_option maxRecDepth 20000 in
theorem ggX9_moveHinge_X9_noPlace : GoodIn wsX9_moveHinge wsX9_noPlace := goodIn_r _ [7, 2, 8, 9, 10, 6, 11, 12, 13, 14, 77, 78, 79, 80, 81, 82, 83, 84, 85, 86, 87, 88, 89, 90, 91, 92, 93, 94, 95, 96, 97, 98] (by decide +kernel) (by decide +kernel)
set_option maxRecDepth 20000 in
theorem gX9_moveHinge_X9_noPlace : GoodIn wsX9_moveHinge (wsV RX9 308 RX9 yX9_noPlace wsX9_noPlace) := goodIn_app (goodIn_of _ (by decide +kernel)) ggX9_moveHinge_X9_noPlace
set_option maxRecDepth 20000 in
theorem ggX9_moveHinge_X9_noHinge : GoodIn wsX9_moveHinge wsX9_noHinge := goodIn_r _ [18, 19, 2, 20, 21, 22, 6, 23, 24, 25, 26, 27, 28, 29, 30, 31, 32, 33, 34, 35, 36, 37, 38, 39, 40, 41, 42, 43, 44, 45, 46, 47, 48, 49, 50, 51, 52, 53, 54, 55, 56, 57, 58, 59, 60, 61, 62, 63, 64, 65, 66, 67, 68, 69, 70, 77, 78, 79, 80, 81, 82, 83, 84, 85, 86, 87, 88, 89, 90, 91, 92, 93, 94, 95, 96, 97, 98] (by decide +kernel) (by decide +kernel)
set_option maxRecDepth 20000 in
theorem gX9_moveHinge_X9_noHinge : GoodIn wsX9_moveHinge (wsV RX9 311 RX9 yX9_noHinge wsX9_noHinge) := goodIn_app (goodIn_of _ (by decide +kernel)) ggX9_moveHinge_X9_noHinge
set_option maxRecDepth 20000 in
theorem ggX9_moveHinge_X9_keeps : GoodIn wsX9_moveHinge wsX9_keeps := goodIn_r _ [74, 75, 76, 32, 33, 6, 34, 77, 78, 79, 80, 81, 82, 83, 84, 85, 86, 87, 88, 89, 90, 91, 92, 93, 94, 95, 96, 97, 98] (by decide +kernel) (by decide +kernel)
set_option maxRecDepth 20000 in
theorem gX9_moveHinge_X9_keeps : GoodIn wsX9_moveHinge (wsV RX9 60 RX9 yX9_keeps wsX9_keeps) := goodIn_app (goodIn_of _ (by decide +kernel)) ggX9_moveHinge_X9_keeps
set_option maxRecDepth 20000 in
theorem ggX9_moveHinge_X9_dropsHinge : GoodIn wsX9_moveHinge wsX9_dropsHinge := goodIn_r _ [38, 2, 77, 78, 79, 80, 81, 82, 83, 84, 85, 86, 87, 88, 89, 90, 91, 92, 93, 94, 95, 96, 97, 98] (by decide +kernel) (by decide +kernel)
set_option maxRecDepth 20000 in
theorem gX9_moveHinge_X9_dropsHinge : GoodIn wsX9_moveHinge (wsV RX9 305 RX9 yX9_dropsHinge wsX9_dropsHinge) := goodIn_app (goodIn_of _ (by decide +kernel)) ggX9_moveHinge_X9_dropsHinge
set_option maxRecDepth 20000 in
theorem ggX9_moveHinge_X9_addsHinge : GoodIn wsX9_moveHinge wsX9_addsHinge := goodIn_r _ [42, 2, 77, 78, 79, 80, 81, 82, 83, 84, 85, 86, 87, 88, 89, 90, 91, 92, 93, 94, 95, 96, 97, 98] (by decide +kernel) (by decide +kernel)
set_option maxRecDepth 20000 in
theorem gX9_moveHinge_X9_addsHinge : GoodIn wsX9_moveHinge (wsV RX9 160 RX9 yX9_addsHinge wsX9_addsHinge) := goodIn_app (goodIn_of _ (by decide +kernel)) ggX9_moveHinge_X9_addsHinge
set_option maxRecDepth 20000 in
theorem ggX9_moveHinge_X9_hingeAt : GoodIn wsX9_moveHinge wsX9_hingeAt := goodIn_r _ [23, 2, 77, 78, 79, 80, 81, 82, 83, 84, 85, 86, 87, 88, 89, 90, 91, 92, 93, 94, 95, 96, 97, 98] (by decide +kernel) (by decide +kernel)
set_option maxRecDepth 20000 in
theorem gX9_moveHinge_X9_hingeAt : GoodIn wsX9_moveHinge (wsV RX9 134 RX9 yX9_hingeAt wsX9_hingeAt) := goodIn_app (goodIn_of _ (by decide +kernel)) ggX9_moveHinge_X9_hingeAt
theorem dX9_moveHinge_0 : decode cX9_moveHinge 0 = .ok (.aload_n 0, 1) := by decide +kernel
theorem dX9_moveHinge_1 : decode cX9_moveHinge 1 = .ok (.aload_n 0, 1) := by decide +kernel
theorem dX9_moveHinge_2 : decode cX9_moveHinge 2 = .ok (.iload_n 1, 1) := by decide +kernel
theorem dX9_moveHinge_3 : decode cX9_moveHinge 3 = .ok (.iload_n 2, 1) := by decide +kernel
theorem dX9_moveHinge_4 : decode cX9_moveHinge 4 = .ok (.invokevirtual 308, 3) := by decide +kernel
theorem dX9_moveHinge_7 : decode cX9_moveHinge 7 = .ok (.putfield 46, 3) := by decide +kernel
theorem dX9_moveHinge_10 : decode cX9_moveHinge 10 = .ok (.aload_n 0, 1) := by decide +kernel
theorem dX9_moveHinge_11 : decode cX9_moveHinge 11 = .ok (.getfield 46, 3) := by decide +kernel
theorem dX9_moveHinge_14 : decode cX9_moveHinge 14 = .ok (.ifCond .le 5, 3) := by decide +kernel
theorem dX9_moveHinge_17 : decode cX9_moveHinge 17 = .ok (.iconst 0, 1) := by decide +kernel
theorem dX9_moveHinge_18 : decode cX9_moveHinge 18 = .ok (.ireturn, 1) := by decide +kernel
theorem dX9_moveHinge_19 : decode cX9_moveHinge 19 = .ok (.aload_n 0, 1) := by decide +kernel
theorem dX9_moveHinge_20 : decode cX9_moveHinge 20 = .ok (.iload_n 1, 1) := by decide +kernel
theorem dX9_moveHinge_21 : decode cX9_moveHinge 21 = .ok (.iload_n 2, 1) := by decide +kernel
theorem dX9_moveHinge_22 : decode cX9_moveHinge 22 = .ok (.invokevirtual 311, 3) := by decide +kernel
theorem dX9_moveHinge_25 : decode cX9_moveHinge 25 = .ok (.istore_n 3, 1) := by decide +kernel
theorem dX9_moveHinge_26 : decode cX9_moveHinge 26 = .ok (.iload_n 3, 1) := by decide +kernel
theorem dX9_moveHinge_27 : decode cX9_moveHinge 27 = .ok (.ifCond .le 8, 3) := by decide +kernel
theorem dX9_moveHinge_30 : decode cX9_moveHinge 30 = .ok (.bipush (-10), 2) := by decide +kernel
theorem dX9_moveHinge_32 : decode cX9_moveHinge 32 = .ok (.iload_n 3, 1) := by decide +kernel
theorem dX9_moveHinge_33 : decode cX9_moveHinge 33 = .ok (.isub, 1) := by decide +kernel
theorem dX9_moveHinge_34 : decode cX9_moveHinge 34 = .ok (.ireturn, 1) := by decide +kernel
theorem dX9_moveHinge_35 : decode cX9_moveHinge 35 = .ok (.aload_n 0, 1) := by decide +kernel
theorem dX9_moveHinge_36 : decode cX9_moveHinge 36 = .ok (.aload_n 0, 1) := by decide +kernel
theorem dX9_moveHinge_37 : decode cX9_moveHinge 37 = .ok (.getfield 7, 3) := by decide +kernel
theorem dX9_moveHinge_40 : decode cX9_moveHinge 40 = .ok (.invokevirtual 60, 3) := by decide +kernel
theorem dX9_moveHinge_43 : decode cX9_moveHinge 43 = .ok (.aload_n 0, 1) := by decide +kernel
theorem dX9_moveHinge_44 : decode cX9_moveHinge 44 = .ok (.iload_n 1, 1) := by decide +kernel
theorem dX9_moveHinge_45 : decode cX9_moveHinge 45 = .ok (.invokevirtual 305, 3) := by decide +kernel
theorem dX9_moveHinge_48 : decode cX9_moveHinge 48 = .ok (.aload_n 0, 1) := by decide +kernel
theorem dX9_moveHinge_49 : decode cX9_moveHinge 49 = .ok (.iload_n 2, 1) := by decide +kernel
theorem dX9_moveHinge_50 : decode cX9_moveHinge 50 = .ok (.invokevirtual 160, 3) := by decide +kernel
theorem dX9_moveHinge_53 : decode cX9_moveHinge 53 = .ok (.aload_n 0, 1) := by decide +kernel
theorem dX9_moveHinge_54 : decode cX9_moveHinge 54 = .ok (.iload_n 2, 1) := by decide +kernel
theorem dX9_moveHinge_55 : decode cX9_moveHinge 55 = .ok (.invokevirtual 134, 3) := by decide +kernel
theorem dX9_moveHinge_58 : decode cX9_moveHinge 58 = .ok (.ireturn, 1) := by decide +kernel
theorem dX9_adds_0 : decode cX9_adds 0 = .ok (.aload_n 0, 1) := by decide +kernel
theorem dX9_adds_1 : decode cX9_adds 1 = .ok (.getfield 7, 3) := by decide +kernel
theorem dX9_adds_4 : decode cX9_adds 4 = .ok (.iload_n 1, 1) := by decide +kernel
theorem dX9_adds_5 : decode cX9_adds 5 = .ok (.iconst 2, 1) := by decide +kernel
theorem dX9_adds_6 : decode cX9_adds 6 = .ok (.aload_n 0, 1) := by decide +kernel
theorem dX9_adds_7 : decode cX9_adds 7 = .ok (.getfield 7, 3) := by decide +kernel
theorem dX9_adds_10 : decode cX9_adds 10 = .ok (.iload_n 2, 1) := by decide +kernel
theorem dX9_adds_11 : decode cX9_adds 11 = .ok (.iaload, 1) := by decide +kernel
theorem dX9_adds_12 : decode cX9_adds 12 = .ok (.imul, 1) := by decide +kernel
theorem dX9_adds_13 : decode cX9_adds 13 = .ok (.iadd, 1) := by decide +kernel
theorem dX9_adds_14 : decode cX9_adds 14 = .ok (.iload_n 3, 1) := by decide +kernel
theorem dX9_adds_15 : decode cX9_adds 15 = .ok (.iastore, 1) := by decide +kernel
theorem dX9_adds_16 : decode cX9_adds 16 = .ok (.aload_n 0, 1) := by decide +kernel
theorem dX9_adds_17 : decode cX9_adds 17 = .ok (.getfield 7, 3) := by decide +kernel
theorem dX9_adds_20 : decode cX9_adds 20 = .ok (.iload_n 1, 1) := by decide +kernel
theorem dX9_adds_21 : decode cX9_adds 21 = .ok (.iconst 2, 1) := by decide +kernel
theorem dX9_adds_22 : decode cX9_adds 22 = .ok (.aload_n 0, 1) := by decide +kernel
theorem dX9_adds_23 : decode cX9_adds 23 = .ok (.getfield 7, 3) := by decide +kernel
theorem dX9_adds_26 : decode cX9_adds 26 = .ok (.iload_n 2, 1) := by decide +kernel
theorem dX9_adds_27 : decode cX9_adds 27 = .ok (.iaload, 1) := by decide +kernel
theorem dX9_adds_28 : decode cX9_adds 28 = .ok (.imul, 1) := by decide +kernel
theorem dX9_adds_29 : decode cX9_adds 29 = .ok (.iadd, 1) := by decide +kernel
theorem dX9_adds_30 : decode cX9_adds 30 = .ok (.iconst 1, 1) := by decide +kernel
theorem dX9_adds_31 : decode cX9_adds 31 = .ok (.iadd, 1) := by decide +kernel
theorem dX9_adds_32 : decode cX9_adds 32 = .ok (.iload 4, 2) := by decide +kernel
theorem dX9_adds_34 : decode cX9_adds 34 = .ok (.iastore, 1) := by decide +kernel
theorem dX9_adds_35 : decode cX9_adds 35 = .ok (.aload_n 0, 1) := by decide +kernel
theorem dX9_adds_36 : decode cX9_adds 36 = .ok (.getfield 7, 3) := by decide +kernel
theorem dX9_adds_39 : decode cX9_adds 39 = .ok (.iload_n 2, 1) := by decide +kernel
theorem dX9_adds_40 : decode cX9_adds 40 = .ok (.dup2, 1) := by decide +kernel
theorem dX9_adds_41 : decode cX9_adds 41 = .ok (.iaload, 1) := by decide +kernel
theorem dX9_adds_42 : decode cX9_adds 42 = .ok (.iconst 1, 1) := by decide +kernel
theorem dX9_adds_43 : decode cX9_adds 43 = .ok (.iadd, 1) := by decide +kernel
theorem dX9_adds_44 : decode cX9_adds 44 = .ok (.iastore, 1) := by decide +kernel
theorem dX9_adds_45 : decode cX9_adds 45 = .ok (.return_, 1) := by decide +kernel
theorem dX9_drops_0 : decode cX9_drops 0 = .ok (.aload_n 0, 1) := by decide +kernel
theorem dX9_drops_1 : decode cX9_drops 1 = .ok (.getfield 7, 3) := by decide +kernel
theorem dX9_drops_4 : decode cX9_drops 4 = .ok (.iload_n 1, 1) := by decide +kernel
theorem dX9_drops_5 : decode cX9_drops 5 = .ok (.iconst 2, 1) := by decide +kernel
theorem dX9_drops_6 : decode cX9_drops 6 = .ok (.iload_n 3, 1) := by decide +kernel
theorem dX9_drops_7 : decode cX9_drops 7 = .ok (.imul, 1) := by decide +kernel
theorem dX9_drops_8 : decode cX9_drops 8 = .ok (.iadd, 1) := by decide +kernel
theorem dX9_drops_9 : decode cX9_drops 9 = .ok (.iaload, 1) := by decide +kernel
theorem dX9_drops_10 : decode cX9_drops 10 = .ok (.istore 4, 2) := by decide +kernel
theorem dX9_drops_12 : decode cX9_drops 12 = .ok (.aload_n 0, 1) := by decide +kernel
theorem dX9_drops_13 : decode cX9_drops 13 = .ok (.getfield 7, 3) := by decide +kernel
theorem dX9_drops_16 : decode cX9_drops 16 = .ok (.iload_n 2, 1) := by decide +kernel
theorem dX9_drops_17 : decode cX9_drops 17 = .ok (.dup2, 1) := by decide +kernel
theorem dX9_drops_18 : decode cX9_drops 18 = .ok (.iaload, 1) := by decide +kernel
theorem dX9_drops_19 : decode cX9_drops 19 = .ok (.iconst 1, 1) := by decide +kernel
theorem dX9_drops_20 : decode cX9_drops 20 = .ok (.isub, 1) := by decide +kernel
theorem dX9_drops_21 : decode cX9_drops 21 = .ok (.iastore, 1) := by decide +kernel
theorem dX9_drops_22 : decode cX9_drops 22 = .ok (.iload_n 1, 1) := by decide +kernel
theorem dX9_drops_23 : decode cX9_drops 23 = .ok (.iconst 2, 1) := by decide +kernel
theorem dX9_drops_24 : decode cX9_drops 24 = .ok (.iload_n 3, 1) := by decide +kernel
theorem dX9_drops_25 : decode cX9_drops 25 = .ok (.imul, 1) := by decide +kernel
theorem dX9_drops_26 : decode cX9_drops 26 = .ok (.iadd, 1) := by decide +kernel
theorem dX9_drops_27 : decode cX9_drops 27 = .ok (.istore 5, 2) := by decide +kernel
theorem dX9_drops_29 : decode cX9_drops 29 = .ok (.iload 5, 2) := by decide +kernel
theorem dX9_drops_31 : decode cX9_drops 31 = .ok (.iload_n 1, 1) := by decide +kernel
theorem dX9_drops_32 : decode cX9_drops 32 = .ok (.iconst 2, 1) := by decide +kernel
theorem dX9_drops_33 : decode cX9_drops 33 = .ok (.aload_n 0, 1) := by decide +kernel
theorem dX9_drops_34 : decode cX9_drops 34 = .ok (.getfield 7, 3) := by decide +kernel
theorem dX9_drops_37 : decode cX9_drops 37 = .ok (.iload_n 2, 1) := by decide +kernel
theorem dX9_drops_38 : decode cX9_drops 38 = .ok (.iaload, 1) := by decide +kernel
theorem dX9_drops_39 : decode cX9_drops 39 = .ok (.imul, 1) := by decide +kernel
theorem dX9_drops_40 : decode cX9_drops 40 = .ok (.iadd, 1) := by decide +kernel
theorem dX9_drops_41 : decode cX9_drops 41 = .ok (.if_icmp .ge 25, 3) := by decide +kernel
theorem dX9_drops_44 : decode cX9_drops 44 = .ok (.aload_n 0, 1) := by decide +kernel
theorem dX9_drops_45 : decode cX9_drops 45 = .ok (.getfield 7, 3) := by decide +kernel
theorem dX9_drops_48 : decode cX9_drops 48 = .ok (.iload 5, 2) := by decide +kernel
theorem dX9_drops_50 : decode cX9_drops 50 = .ok (.aload_n 0, 1) := by decide +kernel
theorem dX9_drops_51 : decode cX9_drops 51 = .ok (.getfield 7, 3) := by decide +kernel
theorem dX9_drops_54 : decode cX9_drops 54 = .ok (.iload 5, 2) := by decide +kernel
theorem dX9_drops_56 : decode cX9_drops 56 = .ok (.iconst 2, 1) := by decide +kernel
theorem dX9_drops_57 : decode cX9_drops 57 = .ok (.iadd, 1) := by decide +kernel
theorem dX9_drops_58 : decode cX9_drops 58 = .ok (.iaload, 1) := by decide +kernel
theorem dX9_drops_59 : decode cX9_drops 59 = .ok (.iastore, 1) := by decide +kernel
theorem dX9_drops_60 : decode cX9_drops 60 = .ok (.iinc 5 1, 3) := by decide +kernel
theorem dX9_drops_63 : decode cX9_drops 63 = .ok (.goto (-34), 3) := by decide +kernel
theorem dX9_drops_66 : decode cX9_drops 66 = .ok (.iload 4, 2) := by decide +kernel
theorem dX9_drops_68 : decode cX9_drops 68 = .ok (.ireturn, 1) := by decide +kernel
set_option maxRecDepth 20000 in
theorem ggX9_addLoad_X9_isPlace : GoodIn wsX9_addLoad wsX9_isPlace := goodIn_r _ [7, 2, 8, 9, 6, 10, 24, 25, 26, 27, 28, 29, 30, 31, 32, 33, 34, 35, 36, 37, 38, 39, 40, 41, 42, 43, 44, 45] (by decide +kernel) (by decide +kernel)
set_option maxRecDepth 20000 in
theorem gX9_addLoad_X9_isPlace : GoodIn wsX9_addLoad (wsV RX9 249 RX9 yX9_isPlace wsX9_isPlace) := goodIn_app (goodIn_of _ (by decide +kernel)) ggX9_addLoad_X9_isPlace
set_option maxRecDepth 20000 in
theorem ggX9_addLoad_X9_isIn : GoodIn wsX9_addLoad wsX9_isIn := goodIn_r _ [10] (by decide +kernel) (by decide +kernel)
set_option maxRecDepth 20000 in
theorem gX9_addLoad_X9_isIn : GoodIn wsX9_addLoad (va_wsS RX9 56 yX9_isIn wsX9_isIn) := goodIn_app (goodIn_of _ (by decide +kernel)) ggX9_addLoad_X9_isIn
set_option maxRecDepth 20000 in
theorem ggX9_addLoad_X9_keeps : GoodIn wsX9_addLoad wsX9_keeps := goodIn_r _ [14, 15, 16, 17, 18, 6, 19, 24, 25, 26, 27, 28, 29, 30, 31, 32, 33, 34, 35, 36, 37, 38, 39, 40, 41, 42, 43, 44, 45] (by decide +kernel) (by decide +kernel)
set_option maxRecDepth 20000 in
theorem gX9_addLoad_X9_keeps : GoodIn wsX9_addLoad (wsV RX9 60 RX9 yX9_keeps wsX9_keeps) := goodIn_app (goodIn_of _ (by decide +kernel)) ggX9_addLoad_X9_keeps
set_option maxRecDepth 20000 in
theorem ggX9_addLoad_X9_adds : GoodIn wsX9_addLoad wsX9_adds := goodIn_r _ [23, 2, 24, 25, 26, 27, 28, 29, 30, 31, 32, 33, 34, 35, 36, 37, 38, 39, 40, 41, 42, 43, 44, 45] (by decide +kernel) (by decide +kernel)
set_option maxRecDepth 20000 in
theorem gX9_addLoad_X9_adds : GoodIn wsX9_addLoad (wsV RX9 317 RX9 yX9_adds wsX9_adds) := goodIn_app (goodIn_of _ (by decide +kernel)) ggX9_addLoad_X9_adds
theorem dX9_addLoad_0 : decode cX9_addLoad 0 = .ok (.aload_n 0, 1) := by decide +kernel
theorem dX9_addLoad_1 : decode cX9_addLoad 1 = .ok (.aload_n 0, 1) := by decide +kernel
theorem dX9_addLoad_2 : decode cX9_addLoad 2 = .ok (.iload_n 2, 1) := by decide +kernel
theorem dX9_addLoad_3 : decode cX9_addLoad 3 = .ok (.invokevirtual 249, 3) := by decide +kernel
theorem dX9_addLoad_6 : decode cX9_addLoad 6 = .ok (.ifCond .ne 7, 3) := by decide +kernel
theorem dX9_addLoad_9 : decode cX9_addLoad 9 = .ok (.iconst 1, 1) := by decide +kernel
theorem dX9_addLoad_10 : decode cX9_addLoad 10 = .ok (.goto 19, 3) := by decide +kernel
theorem dX9_addLoad_13 : decode cX9_addLoad 13 = .ok (.iload_n 1, 1) := by decide +kernel
theorem dX9_addLoad_14 : decode cX9_addLoad 14 = .ok (.iconst 1, 1) := by decide +kernel
theorem dX9_addLoad_15 : decode cX9_addLoad 15 = .ok (.sipush 999, 3) := by decide +kernel
theorem dX9_addLoad_18 : decode cX9_addLoad 18 = .ok (.invokestatic 56, 3) := by decide +kernel
theorem dX9_addLoad_21 : decode cX9_addLoad 21 = .ok (.ifCond .eq 7, 3) := by decide +kernel
theorem dX9_addLoad_24 : decode cX9_addLoad 24 = .ok (.iconst 0, 1) := by decide +kernel
theorem dX9_addLoad_25 : decode cX9_addLoad 25 = .ok (.goto 4, 3) := by decide +kernel
theorem dX9_addLoad_28 : decode cX9_addLoad 28 = .ok (.iconst 2, 1) := by decide +kernel
theorem dX9_addLoad_29 : decode cX9_addLoad 29 = .ok (.putfield 46, 3) := by decide +kernel
theorem dX9_addLoad_32 : decode cX9_addLoad 32 = .ok (.aload_n 0, 1) := by decide +kernel
theorem dX9_addLoad_33 : decode cX9_addLoad 33 = .ok (.getfield 46, 3) := by decide +kernel
theorem dX9_addLoad_36 : decode cX9_addLoad 36 = .ok (.ifCond .le 5, 3) := by decide +kernel
theorem dX9_addLoad_39 : decode cX9_addLoad 39 = .ok (.iconst 0, 1) := by decide +kernel
theorem dX9_addLoad_40 : decode cX9_addLoad 40 = .ok (.ireturn, 1) := by decide +kernel
theorem dX9_addLoad_41 : decode cX9_addLoad 41 = .ok (.aload_n 0, 1) := by decide +kernel
theorem dX9_addLoad_42 : decode cX9_addLoad 42 = .ok (.getfield 7, 3) := by decide +kernel
theorem dX9_addLoad_45 : decode cX9_addLoad 45 = .ok (.iconst 4, 1) := by decide +kernel
theorem dX9_addLoad_46 : decode cX9_addLoad 46 = .ok (.iaload, 1) := by decide +kernel
theorem dX9_addLoad_47 : decode cX9_addLoad 47 = .ok (.bipush 8, 2) := by decide +kernel
theorem dX9_addLoad_49 : decode cX9_addLoad 49 = .ok (.if_icmp .ne 6, 3) := by decide +kernel
theorem dX9_addLoad_52 : decode cX9_addLoad 52 = .ok (.bipush (-13), 2) := by decide +kernel
theorem dX9_addLoad_54 : decode cX9_addLoad 54 = .ok (.ireturn, 1) := by decide +kernel
theorem dX9_addLoad_55 : decode cX9_addLoad 55 = .ok (.aload_n 0, 1) := by decide +kernel
theorem dX9_addLoad_56 : decode cX9_addLoad 56 = .ok (.aload_n 0, 1) := by decide +kernel
theorem dX9_addLoad_57 : decode cX9_addLoad 57 = .ok (.getfield 7, 3) := by decide +kernel
theorem dX9_addLoad_60 : decode cX9_addLoad 60 = .ok (.invokevirtual 60, 3) := by decide +kernel
theorem dX9_addLoad_63 : decode cX9_addLoad 63 = .ok (.aload_n 0, 1) := by decide +kernel
theorem dX9_addLoad_64 : decode cX9_addLoad 64 = .ok (.bipush 19, 2) := by decide +kernel
theorem dX9_addLoad_66 : decode cX9_addLoad 66 = .ok (.iconst 4, 1) := by decide +kernel
theorem dX9_addLoad_67 : decode cX9_addLoad 67 = .ok (.iload_n 1, 1) := by decide +kernel
theorem dX9_addLoad_68 : decode cX9_addLoad 68 = .ok (.iload_n 2, 1) := by decide +kernel
theorem dX9_addLoad_69 : decode cX9_addLoad 69 = .ok (.invokevirtual 317, 3) := by decide +kernel
theorem dX9_addLoad_72 : decode cX9_addLoad 72 = .ok (.aload_n 0, 1) := by decide +kernel
theorem dX9_addLoad_73 : decode cX9_addLoad 73 = .ok (.getfield 7, 3) := by decide +kernel
theorem dX9_addLoad_76 : decode cX9_addLoad 76 = .ok (.iconst 4, 1) := by decide +kernel
theorem dX9_addLoad_77 : decode cX9_addLoad 77 = .ok (.iaload, 1) := by decide +kernel
theorem dX9_addLoad_78 : decode cX9_addLoad 78 = .ok (.iconst 1, 1) := by decide +kernel
theorem dX9_addLoad_79 : decode cX9_addLoad 79 = .ok (.isub, 1) := by decide +kernel
theorem dX9_addLoad_80 : decode cX9_addLoad 80 = .ok (.ireturn, 1) := by decide +kernel
set_option maxRecDepth 20000 in
theorem ggX9_dropLoad_X9_isIn : GoodIn wsX9_dropLoad wsX9_isIn := goodIn_r _ [6] (by decide +kernel) (by decide +kernel)
set_option maxRecDepth 20000 in
theorem gX9_dropLoad_X9_isIn : GoodIn wsX9_dropLoad (va_wsS RX9 56 yX9_isIn wsX9_isIn) := goodIn_app (goodIn_of _ (by decide +kernel)) ggX9_dropLoad_X9_isIn
set_option maxRecDepth 20000 in
theorem ggX9_dropLoad_X9_keeps : GoodIn wsX9_dropLoad wsX9_keeps := goodIn_r _ [10, 11, 12, 13, 14, 5, 15, 20, 21, 22, 23, 24, 25, 26, 27, 28, 29, 30, 31, 32, 33, 34, 35, 36, 37, 38, 39, 40, 41] (by decide +kernel) (by decide +kernel)
set_option maxRecDepth 20000 in
theorem gX9_dropLoad_X9_keeps : GoodIn wsX9_dropLoad (wsV RX9 60 RX9 yX9_keeps wsX9_keeps) := goodIn_app (goodIn_of _ (by decide +kernel)) ggX9_dropLoad_X9_keeps
set_option maxRecDepth 20000 in
theorem ggX9_dropLoad_X9_drops : GoodIn wsX9_dropLoad wsX9_drops := goodIn_r _ [19, 1, 20, 21, 22, 23, 24, 25, 26, 27, 28, 29, 30, 31, 32, 33, 34, 35, 36, 37, 38, 39, 40, 41] (by decide +kernel) (by decide +kernel)
set_option maxRecDepth 20000 in
theorem gX9_dropLoad_X9_drops : GoodIn wsX9_dropLoad (wsV RX9 321 RX9 yX9_drops wsX9_drops) := goodIn_app (goodIn_of _ (by decide +kernel)) ggX9_dropLoad_X9_drops
theorem dX9_dropLoad_0 : decode cX9_dropLoad 0 = .ok (.aload_n 0, 1) := by decide +kernel
theorem dX9_dropLoad_1 : decode cX9_dropLoad 1 = .ok (.iload_n 1, 1) := by decide +kernel
theorem dX9_dropLoad_2 : decode cX9_dropLoad 2 = .ok (.iconst 0, 1) := by decide +kernel
theorem dX9_dropLoad_3 : decode cX9_dropLoad 3 = .ok (.aload_n 0, 1) := by decide +kernel
theorem dX9_dropLoad_4 : decode cX9_dropLoad 4 = .ok (.getfield 7, 3) := by decide +kernel
theorem dX9_dropLoad_7 : decode cX9_dropLoad 7 = .ok (.iconst 4, 1) := by decide +kernel
theorem dX9_dropLoad_8 : decode cX9_dropLoad 8 = .ok (.iaload, 1) := by decide +kernel
theorem dX9_dropLoad_9 : decode cX9_dropLoad 9 = .ok (.iconst 1, 1) := by decide +kernel
theorem dX9_dropLoad_10 : decode cX9_dropLoad 10 = .ok (.isub, 1) := by decide +kernel
theorem dX9_dropLoad_11 : decode cX9_dropLoad 11 = .ok (.invokestatic 56, 3) := by decide +kernel
theorem dX9_dropLoad_14 : decode cX9_dropLoad 14 = .ok (.ifCond .eq 7, 3) := by decide +kernel
theorem dX9_dropLoad_17 : decode cX9_dropLoad 17 = .ok (.iconst 0, 1) := by decide +kernel
theorem dX9_dropLoad_18 : decode cX9_dropLoad 18 = .ok (.goto 4, 3) := by decide +kernel
theorem dX9_dropLoad_21 : decode cX9_dropLoad 21 = .ok (.iconst 1, 1) := by decide +kernel
theorem dX9_dropLoad_22 : decode cX9_dropLoad 22 = .ok (.putfield 46, 3) := by decide +kernel
theorem dX9_dropLoad_25 : decode cX9_dropLoad 25 = .ok (.aload_n 0, 1) := by decide +kernel
theorem dX9_dropLoad_26 : decode cX9_dropLoad 26 = .ok (.getfield 46, 3) := by decide +kernel
theorem dX9_dropLoad_29 : decode cX9_dropLoad 29 = .ok (.ifCond .le 5, 3) := by decide +kernel
theorem dX9_dropLoad_32 : decode cX9_dropLoad 32 = .ok (.iconst 0, 1) := by decide +kernel
theorem dX9_dropLoad_33 : decode cX9_dropLoad 33 = .ok (.ireturn, 1) := by decide +kernel
theorem dX9_dropLoad_34 : decode cX9_dropLoad 34 = .ok (.aload_n 0, 1) := by decide +kernel
theorem dX9_dropLoad_35 : decode cX9_dropLoad 35 = .ok (.aload_n 0, 1) := by decide +kernel
theorem dX9_dropLoad_36 : decode cX9_dropLoad 36 = .ok (.getfield 7, 3) := by decide +kernel
theorem dX9_dropLoad_39 : decode cX9_dropLoad 39 = .ok (.invokevirtual 60, 3) := by decide +kernel
theorem dX9_dropLoad_42 : decode cX9_dropLoad 42 = .ok (.aload_n 0, 1) := by decide +kernel
theorem dX9_dropLoad_43 : decode cX9_dropLoad 43 = .ok (.bipush 19, 2) := by decide +kernel
theorem dX9_dropLoad_45 : decode cX9_dropLoad 45 = .ok (.iconst 4, 1) := by decide +kernel
theorem dX9_dropLoad_46 : decode cX9_dropLoad 46 = .ok (.iload_n 1, 1) := by decide +kernel
theorem dX9_dropLoad_47 : decode cX9_dropLoad 47 = .ok (.invokevirtual 321, 3) := by decide +kernel
theorem dX9_dropLoad_50 : decode cX9_dropLoad 50 = .ok (.ireturn, 1) := by decide +kernel
set_option maxRecDepth 20000 in
theorem ggX9_addAxle_X9_isIn : GoodIn wsX9_addAxle wsX9_isIn := goodIn_r _ [6] (by decide +kernel) (by decide +kernel)
set_option maxRecDepth 20000 in
theorem gX9_addAxle_X9_isIn : GoodIn wsX9_addAxle (va_wsS RX9 56 yX9_isIn wsX9_isIn) := goodIn_app (goodIn_of _ (by decide +kernel)) ggX9_addAxle_X9_isIn
set_option maxRecDepth 20000 in
theorem ggX9_addAxle_X9_keeps : GoodIn wsX9_addAxle wsX9_keeps := goodIn_r _ [10, 11, 12, 13, 14, 5, 15, 20, 21, 22, 23, 24, 25, 26, 27, 28, 29, 30, 31, 32, 33, 34, 35, 36, 37, 38, 39, 40, 41] (by decide +kernel) (by decide +kernel)
set_option maxRecDepth 20000 in
theorem gX9_addAxle_X9_keeps : GoodIn wsX9_addAxle (wsV RX9 60 RX9 yX9_keeps wsX9_keeps) := goodIn_app (goodIn_of _ (by decide +kernel)) ggX9_addAxle_X9_keeps
set_option maxRecDepth 20000 in
theorem ggX9_addAxle_X9_adds : GoodIn wsX9_addAxle wsX9_adds := goodIn_r _ [19, 2, 20, 21, 22, 23, 24, 25, 26, 27, 28, 29, 30, 31, 32, 33, 34, 35, 36, 37, 38, 39, 40, 41] (by decide +kernel) (by decide +kernel)
set_option maxRecDepth 20000 in
theorem gX9_addAxle_X9_adds : GoodIn wsX9_addAxle (wsV RX9 317 RX9 yX9_adds wsX9_adds) := goodIn_app (goodIn_of _ (by decide +kernel)) ggX9_addAxle_X9_adds
theorem dX9_addAxle_0 : decode cX9_addAxle 0 = .ok (.aload_n 0, 1) := by decide +kernel
theorem dX9_addAxle_1 : decode cX9_addAxle 1 = .ok (.iload_n 1, 1) := by decide +kernel
theorem dX9_addAxle_2 : decode cX9_addAxle 2 = .ok (.iconst 1, 1) := by decide +kernel
theorem dX9_addAxle_3 : decode cX9_addAxle 3 = .ok (.sipush 999, 3) := by decide +kernel
theorem dX9_addAxle_6 : decode cX9_addAxle 6 = .ok (.invokestatic 56, 3) := by decide +kernel
theorem dX9_addAxle_9 : decode cX9_addAxle 9 = .ok (.ifCond .eq 17, 3) := by decide +kernel
theorem dX9_addAxle_12 : decode cX9_addAxle 12 = .ok (.iload_n 2, 1) := by decide +kernel
theorem dX9_addAxle_13 : decode cX9_addAxle 13 = .ok (.iconst 0, 1) := by decide +kernel
theorem dX9_addAxle_14 : decode cX9_addAxle 14 = .ok (.bipush 30, 2) := by decide +kernel
theorem dX9_addAxle_16 : decode cX9_addAxle 16 = .ok (.invokestatic 56, 3) := by decide +kernel
theorem dX9_addAxle_19 : decode cX9_addAxle 19 = .ok (.ifCond .eq 7, 3) := by decide +kernel
theorem dX9_addAxle_22 : decode cX9_addAxle 22 = .ok (.iconst 0, 1) := by decide +kernel
theorem dX9_addAxle_23 : decode cX9_addAxle 23 = .ok (.goto 4, 3) := by decide +kernel
theorem dX9_addAxle_26 : decode cX9_addAxle 26 = .ok (.iconst 1, 1) := by decide +kernel
theorem dX9_addAxle_27 : decode cX9_addAxle 27 = .ok (.putfield 46, 3) := by decide +kernel
theorem dX9_addAxle_30 : decode cX9_addAxle 30 = .ok (.aload_n 0, 1) := by decide +kernel
theorem dX9_addAxle_31 : decode cX9_addAxle 31 = .ok (.getfield 46, 3) := by decide +kernel
theorem dX9_addAxle_34 : decode cX9_addAxle 34 = .ok (.ifCond .le 5, 3) := by decide +kernel
theorem dX9_addAxle_37 : decode cX9_addAxle 37 = .ok (.iconst 0, 1) := by decide +kernel
theorem dX9_addAxle_38 : decode cX9_addAxle 38 = .ok (.ireturn, 1) := by decide +kernel
theorem dX9_addAxle_39 : decode cX9_addAxle 39 = .ok (.aload_n 0, 1) := by decide +kernel
theorem dX9_addAxle_40 : decode cX9_addAxle 40 = .ok (.getfield 7, 3) := by decide +kernel
theorem dX9_addAxle_43 : decode cX9_addAxle 43 = .ok (.iconst 5, 1) := by decide +kernel
theorem dX9_addAxle_44 : decode cX9_addAxle 44 = .ok (.iaload, 1) := by decide +kernel
theorem dX9_addAxle_45 : decode cX9_addAxle 45 = .ok (.bipush 6, 2) := by decide +kernel
theorem dX9_addAxle_47 : decode cX9_addAxle 47 = .ok (.if_icmp .ne 6, 3) := by decide +kernel
theorem dX9_addAxle_50 : decode cX9_addAxle 50 = .ok (.bipush (-14), 2) := by decide +kernel
theorem dX9_addAxle_52 : decode cX9_addAxle 52 = .ok (.ireturn, 1) := by decide +kernel
theorem dX9_addAxle_53 : decode cX9_addAxle 53 = .ok (.aload_n 0, 1) := by decide +kernel
theorem dX9_addAxle_54 : decode cX9_addAxle 54 = .ok (.aload_n 0, 1) := by decide +kernel
theorem dX9_addAxle_55 : decode cX9_addAxle 55 = .ok (.getfield 7, 3) := by decide +kernel
theorem dX9_addAxle_58 : decode cX9_addAxle 58 = .ok (.invokevirtual 60, 3) := by decide +kernel
theorem dX9_addAxle_61 : decode cX9_addAxle 61 = .ok (.aload_n 0, 1) := by decide +kernel
theorem dX9_addAxle_62 : decode cX9_addAxle 62 = .ok (.bipush 35, 2) := by decide +kernel
theorem dX9_addAxle_64 : decode cX9_addAxle 64 = .ok (.iconst 5, 1) := by decide +kernel
theorem dX9_addAxle_65 : decode cX9_addAxle 65 = .ok (.iload_n 1, 1) := by decide +kernel
theorem dX9_addAxle_66 : decode cX9_addAxle 66 = .ok (.iload_n 2, 1) := by decide +kernel
theorem dX9_addAxle_67 : decode cX9_addAxle 67 = .ok (.invokevirtual 317, 3) := by decide +kernel
theorem dX9_addAxle_70 : decode cX9_addAxle 70 = .ok (.aload_n 0, 1) := by decide +kernel
theorem dX9_addAxle_71 : decode cX9_addAxle 71 = .ok (.getfield 7, 3) := by decide +kernel
theorem dX9_addAxle_74 : decode cX9_addAxle 74 = .ok (.iconst 5, 1) := by decide +kernel
theorem dX9_addAxle_75 : decode cX9_addAxle 75 = .ok (.iaload, 1) := by decide +kernel
theorem dX9_addAxle_76 : decode cX9_addAxle 76 = .ok (.iconst 1, 1) := by decide +kernel
theorem dX9_addAxle_77 : decode cX9_addAxle 77 = .ok (.isub, 1) := by decide +kernel
theorem dX9_addAxle_78 : decode cX9_addAxle 78 = .ok (.ireturn, 1) := by decide +kernel
set_option maxRecDepth 20000 in
theorem ggX9_dropAxle_X9_isIn : GoodIn wsX9_dropAxle wsX9_isIn := goodIn_r _ [6] (by decide +kernel) (by decide +kernel)
set_option maxRecDepth 20000 in
theorem gX9_dropAxle_X9_isIn : GoodIn wsX9_dropAxle (va_wsS RX9 56 yX9_isIn wsX9_isIn) := goodIn_app (goodIn_of _ (by decide +kernel)) ggX9_dropAxle_X9_isIn
set_option maxRecDepth 20000 in
theorem ggX9_dropAxle_X9_keeps : GoodIn wsX9_dropAxle wsX9_keeps := goodIn_r _ [10, 11, 12, 13, 14, 5, 15, 20, 21, 22, 23, 24, 25, 26, 27, 28, 29, 30, 31, 32, 33, 34, 35, 36, 37, 38, 39, 40, 41] (by decide +kernel) (by decide +kernel)
set_option maxRecDepth 20000 in
theorem gX9_dropAxle_X9_keeps : GoodIn wsX9_dropAxle (wsV RX9 60 RX9 yX9_keeps wsX9_keeps) := goodIn_app (goodIn_of _ (by decide +kernel)) ggX9_dropAxle_X9_keeps
set_option maxRecDepth 20000 in
theorem ggX9_dropAxle_X9_drops : GoodIn wsX9_dropAxle wsX9_drops := goodIn_r _ [19, 1, 20, 21, 22, 23, 24, 25, 26, 27, 28, 29, 30, 31, 32, 33, 34, 35, 36, 37, 38, 39, 40, 41] (by decide +kernel) (by decide +kernel)
set_option maxRecDepth 20000 in
theorem gX9_dropAxle_X9_drops : GoodIn wsX9_dropAxle (wsV RX9 321 RX9 yX9_drops wsX9_drops) := goodIn_app (goodIn_of _ (by decide +kernel)) ggX9_dropAxle_X9_drops
theorem dX9_dropAxle_0 : decode cX9_dropAxle 0 = .ok (.aload_n 0, 1) := by decide +kernel
theorem dX9_dropAxle_1 : decode cX9_dropAxle 1 = .ok (.iload_n 1, 1) := by decide +kernel
theorem dX9_dropAxle_2 : decode cX9_dropAxle 2 = .ok (.iconst 0, 1) := by decide +kernel
theorem dX9_dropAxle_3 : decode cX9_dropAxle 3 = .ok (.aload_n 0, 1) := by decide +kernel
theorem dX9_dropAxle_4 : decode cX9_dropAxle 4 = .ok (.getfield 7, 3) := by decide +kernel
theorem dX9_dropAxle_7 : decode cX9_dropAxle 7 = .ok (.iconst 5, 1) := by decide +kernel
theorem dX9_dropAxle_8 : decode cX9_dropAxle 8 = .ok (.iaload, 1) := by decide +kernel
theorem dX9_dropAxle_9 : decode cX9_dropAxle 9 = .ok (.iconst 1, 1) := by decide +kernel
theorem dX9_dropAxle_10 : decode cX9_dropAxle 10 = .ok (.isub, 1) := by decide +kernel
theorem dX9_dropAxle_11 : decode cX9_dropAxle 11 = .ok (.invokestatic 56, 3) := by decide +kernel
theorem dX9_dropAxle_14 : decode cX9_dropAxle 14 = .ok (.ifCond .eq 7, 3) := by decide +kernel
theorem dX9_dropAxle_17 : decode cX9_dropAxle 17 = .ok (.iconst 0, 1) := by decide +kernel
theorem dX9_dropAxle_18 : decode cX9_dropAxle 18 = .ok (.goto 4, 3) := by decide +kernel
theorem dX9_dropAxle_21 : decode cX9_dropAxle 21 = .ok (.iconst 1, 1) := by decide +kernel
theorem dX9_dropAxle_22 : decode cX9_dropAxle 22 = .ok (.putfield 46, 3) := by decide +kernel
theorem dX9_dropAxle_25 : decode cX9_dropAxle 25 = .ok (.aload_n 0, 1) := by decide +kernel
theorem dX9_dropAxle_26 : decode cX9_dropAxle 26 = .ok (.getfield 46, 3) := by decide +kernel
theorem dX9_dropAxle_29 : decode cX9_dropAxle 29 = .ok (.ifCond .le 5, 3) := by decide +kernel
theorem dX9_dropAxle_32 : decode cX9_dropAxle 32 = .ok (.iconst 0, 1) := by decide +kernel
theorem dX9_dropAxle_33 : decode cX9_dropAxle 33 = .ok (.ireturn, 1) := by decide +kernel
theorem dX9_dropAxle_34 : decode cX9_dropAxle 34 = .ok (.aload_n 0, 1) := by decide +kernel
theorem dX9_dropAxle_35 : decode cX9_dropAxle 35 = .ok (.aload_n 0, 1) := by decide +kernel
theorem dX9_dropAxle_36 : decode cX9_dropAxle 36 = .ok (.getfield 7, 3) := by decide +kernel
theorem dX9_dropAxle_39 : decode cX9_dropAxle 39 = .ok (.invokevirtual 60, 3) := by decide +kernel
theorem dX9_dropAxle_42 : decode cX9_dropAxle 42 = .ok (.aload_n 0, 1) := by decide +kernel
theorem dX9_dropAxle_43 : decode cX9_dropAxle 43 = .ok (.bipush 35, 2) := by decide +kernel
theorem dX9_dropAxle_45 : decode cX9_dropAxle 45 = .ok (.iconst 5, 1) := by decide +kernel
theorem dX9_dropAxle_46 : decode cX9_dropAxle 46 = .ok (.iload_n 1, 1) := by decide +kernel
theorem dX9_dropAxle_47 : decode cX9_dropAxle 47 = .ok (.invokevirtual 321, 3) := by decide +kernel
theorem dX9_dropAxle_50 : decode cX9_dropAxle 50 = .ok (.ireturn, 1) := by decide +kernel
set_option maxRecDepth 20000 in
theorem ggX9_setBearing_X9_isSupport : GoodIn wsX9_setBearing wsX9_isSupport := goodIn_r _ [8, 3, 9, 10, 7, 11, 25, 26, 27, 28, 29, 30, 31, 32, 33, 34, 35, 36, 37, 38, 39, 40, 41, 42, 43, 44, 45, 46] (by decide +kernel) (by decide +kernel)
set_option maxRecDepth 20000 in
theorem gX9_setBearing_X9_isSupport : GoodIn wsX9_setBearing (wsV RX9 243 RX9 yX9_isSupport wsX9_isSupport) := goodIn_app (goodIn_of _ (by decide +kernel)) ggX9_setBearing_X9_isSupport
set_option maxRecDepth 20000 in
theorem ggX9_setBearing_X9_isIn : GoodIn wsX9_setBearing wsX9_isIn := goodIn_r _ [11] (by decide +kernel) (by decide +kernel)
set_option maxRecDepth 20000 in
theorem gX9_setBearing_X9_isIn : GoodIn wsX9_setBearing (va_wsS RX9 56 yX9_isIn wsX9_isIn) := goodIn_app (goodIn_of _ (by decide +kernel)) ggX9_setBearing_X9_isIn
set_option maxRecDepth 20000 in
theorem ggX9_setBearing_X9_keeps : GoodIn wsX9_setBearing wsX9_keeps := goodIn_r _ [15, 16, 17, 18, 19, 7, 20, 25, 26, 27, 28, 29, 30, 31, 32, 33, 34, 35, 36, 37, 38, 39, 40, 41, 42, 43, 44, 45, 46] (by decide +kernel) (by decide +kernel)
set_option maxRecDepth 20000 in
theorem gX9_setBearing_X9_keeps : GoodIn wsX9_setBearing (wsV RX9 60 RX9 yX9_keeps wsX9_keeps) := goodIn_app (goodIn_of _ (by decide +kernel)) ggX9_setBearing_X9_keeps
set_option maxRecDepth 20000 in
theorem ggX9_setBearing_X9_bearsOf : GoodIn wsX9_setBearing wsX9_bearsOf := goodIn_r _ [24, 3, 25, 26, 27, 28, 29, 30, 31, 32, 33, 34, 35, 36, 37, 38, 39, 40, 41, 42, 43, 44, 45, 46] (by decide +kernel) (by decide +kernel)
set_option maxRecDepth 20000 in
theorem gX9_setBearing_X9_bearsOf : GoodIn wsX9_setBearing (wsV RX9 296 RX9 yX9_bearsOf wsX9_bearsOf) := goodIn_app (goodIn_of _ (by decide +kernel)) ggX9_setBearing_X9_bearsOf
theorem dX9_setBearing_0 : decode cX9_setBearing 0 = .ok (.aload_n 0, 1) := by decide +kernel
theorem dX9_setBearing_1 : decode cX9_setBearing 1 = .ok (.aload_n 0, 1) := by decide +kernel
theorem dX9_setBearing_2 : decode cX9_setBearing 2 = .ok (.iload_n 1, 1) := by decide +kernel
theorem dX9_setBearing_3 : decode cX9_setBearing 3 = .ok (.invokevirtual 243, 3) := by decide +kernel
theorem dX9_setBearing_6 : decode cX9_setBearing 6 = .ok (.ifCond .ne 7, 3) := by decide +kernel
theorem dX9_setBearing_9 : decode cX9_setBearing 9 = .ok (.iconst 1, 1) := by decide +kernel
theorem dX9_setBearing_10 : decode cX9_setBearing 10 = .ok (.goto 23, 3) := by decide +kernel
theorem dX9_setBearing_13 : decode cX9_setBearing 13 = .ok (.iload_n 2, 1) := by decide +kernel
theorem dX9_setBearing_14 : decode cX9_setBearing 14 = .ok (.iconst (-1), 1) := by decide +kernel
theorem dX9_setBearing_15 : decode cX9_setBearing 15 = .ok (.if_icmp .eq 13, 3) := by decide +kernel
theorem dX9_setBearing_18 : decode cX9_setBearing 18 = .ok (.iload_n 2, 1) := by decide +kernel
theorem dX9_setBearing_19 : decode cX9_setBearing 19 = .ok (.iconst 1, 1) := by decide +kernel
theorem dX9_setBearing_20 : decode cX9_setBearing 20 = .ok (.ldc 150, 2) := by decide +kernel
theorem dX9_setBearing_22 : decode cX9_setBearing 22 = .ok (.invokestatic 56, 3) := by decide +kernel
theorem dX9_setBearing_25 : decode cX9_setBearing 25 = .ok (.ifCond .eq 7, 3) := by decide +kernel
theorem dX9_setBearing_28 : decode cX9_setBearing 28 = .ok (.iconst 0, 1) := by decide +kernel
theorem dX9_setBearing_29 : decode cX9_setBearing 29 = .ok (.goto 4, 3) := by decide +kernel
theorem dX9_setBearing_32 : decode cX9_setBearing 32 = .ok (.iconst 2, 1) := by decide +kernel
theorem dX9_setBearing_33 : decode cX9_setBearing 33 = .ok (.putfield 46, 3) := by decide +kernel
theorem dX9_setBearing_36 : decode cX9_setBearing 36 = .ok (.aload_n 0, 1) := by decide +kernel
theorem dX9_setBearing_37 : decode cX9_setBearing 37 = .ok (.getfield 46, 3) := by decide +kernel
theorem dX9_setBearing_40 : decode cX9_setBearing 40 = .ok (.ifCond .le 5, 3) := by decide +kernel
theorem dX9_setBearing_43 : decode cX9_setBearing 43 = .ok (.iconst 0, 1) := by decide +kernel
theorem dX9_setBearing_44 : decode cX9_setBearing 44 = .ok (.ireturn, 1) := by decide +kernel
theorem dX9_setBearing_45 : decode cX9_setBearing 45 = .ok (.aload_n 0, 1) := by decide +kernel
theorem dX9_setBearing_46 : decode cX9_setBearing 46 = .ok (.aload_n 0, 1) := by decide +kernel
theorem dX9_setBearing_47 : decode cX9_setBearing 47 = .ok (.getfield 7, 3) := by decide +kernel
theorem dX9_setBearing_50 : decode cX9_setBearing 50 = .ok (.invokevirtual 60, 3) := by decide +kernel
theorem dX9_setBearing_53 : decode cX9_setBearing 53 = .ok (.aload_n 0, 1) := by decide +kernel
theorem dX9_setBearing_54 : decode cX9_setBearing 54 = .ok (.iload_n 1, 1) := by decide +kernel
theorem dX9_setBearing_55 : decode cX9_setBearing 55 = .ok (.invokevirtual 296, 3) := by decide +kernel
theorem dX9_setBearing_58 : decode cX9_setBearing 58 = .ok (.istore_n 3, 1) := by decide +kernel
theorem dX9_setBearing_59 : decode cX9_setBearing 59 = .ok (.aload_n 0, 1) := by decide +kernel
theorem dX9_setBearing_60 : decode cX9_setBearing 60 = .ok (.getfield 7, 3) := by decide +kernel
theorem dX9_setBearing_63 : decode cX9_setBearing 63 = .ok (.bipush 6, 2) := by decide +kernel
theorem dX9_setBearing_65 : decode cX9_setBearing 65 = .ok (.iconst 2, 1) := by decide +kernel
theorem dX9_setBearing_66 : decode cX9_setBearing 66 = .ok (.iload_n 1, 1) := by decide +kernel
theorem dX9_setBearing_67 : decode cX9_setBearing 67 = .ok (.imul, 1) := by decide +kernel
theorem dX9_setBearing_68 : decode cX9_setBearing 68 = .ok (.iadd, 1) := by decide +kernel
theorem dX9_setBearing_69 : decode cX9_setBearing 69 = .ok (.iconst 1, 1) := by decide +kernel
theorem dX9_setBearing_70 : decode cX9_setBearing 70 = .ok (.iadd, 1) := by decide +kernel
theorem dX9_setBearing_71 : decode cX9_setBearing 71 = .ok (.iload_n 2, 1) := by decide +kernel
theorem dX9_setBearing_72 : decode cX9_setBearing 72 = .ok (.iastore, 1) := by decide +kernel
theorem dX9_setBearing_73 : decode cX9_setBearing 73 = .ok (.iload_n 3, 1) := by decide +kernel
theorem dX9_setBearing_74 : decode cX9_setBearing 74 = .ok (.ireturn, 1) := by decide +kernel
set_option maxRecDepth 20000 in
theorem ggX9_setMost_X9_isIn : GoodIn wsX9_setMost wsX9_isIn := goodIn_r _ [7] (by decide +kernel) (by decide +kernel)
set_option maxRecDepth 20000 in
theorem gX9_setMost_X9_isIn : GoodIn wsX9_setMost (va_wsS RX9 56 yX9_isIn wsX9_isIn) := goodIn_app (goodIn_of _ (by decide +kernel)) ggX9_setMost_X9_isIn
set_option maxRecDepth 20000 in
theorem ggX9_setMost_X9_keeps : GoodIn wsX9_setMost wsX9_keeps := goodIn_r _ [11, 12, 13, 14, 15, 6, 16, 17, 18, 19, 20, 21, 22, 23, 24, 25, 26, 27, 28, 29, 30, 31, 32, 33, 34, 35, 36, 37, 38] (by decide +kernel) (by decide +kernel)
set_option maxRecDepth 20000 in
theorem gX9_setMost_X9_keeps : GoodIn wsX9_setMost (wsV RX9 60 RX9 yX9_keeps wsX9_keeps) := goodIn_app (goodIn_of _ (by decide +kernel)) ggX9_setMost_X9_keeps
theorem dX9_setMost_0 : decode cX9_setMost 0 = .ok (.aload_n 0, 1) := by decide +kernel
theorem dX9_setMost_1 : decode cX9_setMost 1 = .ok (.iload_n 1, 1) := by decide +kernel
theorem dX9_setMost_2 : decode cX9_setMost 2 = .ok (.iconst 1, 1) := by decide +kernel
theorem dX9_setMost_3 : decode cX9_setMost 3 = .ok (.ldc 187, 2) := by decide +kernel
theorem dX9_setMost_5 : decode cX9_setMost 5 = .ok (.invokestatic 56, 3) := by decide +kernel
theorem dX9_setMost_8 : decode cX9_setMost 8 = .ok (.ifCond .eq 7, 3) := by decide +kernel
theorem dX9_setMost_11 : decode cX9_setMost 11 = .ok (.iconst 0, 1) := by decide +kernel
theorem dX9_setMost_12 : decode cX9_setMost 12 = .ok (.goto 4, 3) := by decide +kernel
theorem dX9_setMost_15 : decode cX9_setMost 15 = .ok (.iconst 1, 1) := by decide +kernel
theorem dX9_setMost_16 : decode cX9_setMost 16 = .ok (.putfield 46, 3) := by decide +kernel
theorem dX9_setMost_19 : decode cX9_setMost 19 = .ok (.aload_n 0, 1) := by decide +kernel
theorem dX9_setMost_20 : decode cX9_setMost 20 = .ok (.getfield 46, 3) := by decide +kernel
theorem dX9_setMost_23 : decode cX9_setMost 23 = .ok (.ifCond .le 5, 3) := by decide +kernel
theorem dX9_setMost_26 : decode cX9_setMost 26 = .ok (.iconst 0, 1) := by decide +kernel
theorem dX9_setMost_27 : decode cX9_setMost 27 = .ok (.ireturn, 1) := by decide +kernel
theorem dX9_setMost_28 : decode cX9_setMost 28 = .ok (.aload_n 0, 1) := by decide +kernel
theorem dX9_setMost_29 : decode cX9_setMost 29 = .ok (.aload_n 0, 1) := by decide +kernel
theorem dX9_setMost_30 : decode cX9_setMost 30 = .ok (.getfield 7, 3) := by decide +kernel
theorem dX9_setMost_33 : decode cX9_setMost 33 = .ok (.invokevirtual 60, 3) := by decide +kernel
theorem dX9_setMost_36 : decode cX9_setMost 36 = .ok (.aload_n 0, 1) := by decide +kernel
theorem dX9_setMost_37 : decode cX9_setMost 37 = .ok (.getfield 7, 3) := by decide +kernel
theorem dX9_setMost_40 : decode cX9_setMost 40 = .ok (.iconst 1, 1) := by decide +kernel
theorem dX9_setMost_41 : decode cX9_setMost 41 = .ok (.iaload, 1) := by decide +kernel
theorem dX9_setMost_42 : decode cX9_setMost 42 = .ok (.istore_n 2, 1) := by decide +kernel
theorem dX9_setMost_43 : decode cX9_setMost 43 = .ok (.aload_n 0, 1) := by decide +kernel
theorem dX9_setMost_44 : decode cX9_setMost 44 = .ok (.getfield 7, 3) := by decide +kernel
theorem dX9_setMost_47 : decode cX9_setMost 47 = .ok (.iconst 1, 1) := by decide +kernel
theorem dX9_setMost_48 : decode cX9_setMost 48 = .ok (.iload_n 1, 1) := by decide +kernel
theorem dX9_setMost_49 : decode cX9_setMost 49 = .ok (.iastore, 1) := by decide +kernel
theorem dX9_setMost_50 : decode cX9_setMost 50 = .ok (.iload_n 2, 1) := by decide +kernel
theorem dX9_setMost_51 : decode cX9_setMost 51 = .ok (.ireturn, 1) := by decide +kernel
theorem dX9_hasLoad_0 : decode cX9_hasLoad 0 = .ok (.iconst 0, 1) := by decide +kernel
theorem dX9_hasLoad_1 : decode cX9_hasLoad 1 = .ok (.istore_n 2, 1) := by decide +kernel
theorem dX9_hasLoad_2 : decode cX9_hasLoad 2 = .ok (.iload_n 2, 1) := by decide +kernel
theorem dX9_hasLoad_3 : decode cX9_hasLoad 3 = .ok (.aload_n 0, 1) := by decide +kernel
theorem dX9_hasLoad_4 : decode cX9_hasLoad 4 = .ok (.getfield 7, 3) := by decide +kernel
theorem dX9_hasLoad_7 : decode cX9_hasLoad 7 = .ok (.iconst 4, 1) := by decide +kernel
theorem dX9_hasLoad_8 : decode cX9_hasLoad 8 = .ok (.iaload, 1) := by decide +kernel
theorem dX9_hasLoad_9 : decode cX9_hasLoad 9 = .ok (.if_icmp .ge 28, 3) := by decide +kernel
theorem dX9_hasLoad_12 : decode cX9_hasLoad 12 = .ok (.aload_n 0, 1) := by decide +kernel
theorem dX9_hasLoad_13 : decode cX9_hasLoad 13 = .ok (.getfield 7, 3) := by decide +kernel
theorem dX9_hasLoad_16 : decode cX9_hasLoad 16 = .ok (.bipush 19, 2) := by decide +kernel
theorem dX9_hasLoad_18 : decode cX9_hasLoad 18 = .ok (.iconst 2, 1) := by decide +kernel
theorem dX9_hasLoad_19 : decode cX9_hasLoad 19 = .ok (.iload_n 2, 1) := by decide +kernel
theorem dX9_hasLoad_20 : decode cX9_hasLoad 20 = .ok (.imul, 1) := by decide +kernel
theorem dX9_hasLoad_21 : decode cX9_hasLoad 21 = .ok (.iadd, 1) := by decide +kernel
theorem dX9_hasLoad_22 : decode cX9_hasLoad 22 = .ok (.iconst 1, 1) := by decide +kernel
theorem dX9_hasLoad_23 : decode cX9_hasLoad 23 = .ok (.iadd, 1) := by decide +kernel
theorem dX9_hasLoad_24 : decode cX9_hasLoad 24 = .ok (.iaload, 1) := by decide +kernel
theorem dX9_hasLoad_25 : decode cX9_hasLoad 25 = .ok (.iload_n 1, 1) := by decide +kernel
theorem dX9_hasLoad_26 : decode cX9_hasLoad 26 = .ok (.if_icmp .ne 5, 3) := by decide +kernel
theorem dX9_hasLoad_29 : decode cX9_hasLoad 29 = .ok (.iconst 1, 1) := by decide +kernel
theorem dX9_hasLoad_30 : decode cX9_hasLoad 30 = .ok (.ireturn, 1) := by decide +kernel
theorem dX9_hasLoad_31 : decode cX9_hasLoad 31 = .ok (.iinc 2 1, 3) := by decide +kernel
theorem dX9_hasLoad_34 : decode cX9_hasLoad 34 = .ok (.goto (-32), 3) := by decide +kernel
theorem dX9_hasLoad_37 : decode cX9_hasLoad 37 = .ok (.iconst 0, 1) := by decide +kernel
theorem dX9_hasLoad_38 : decode cX9_hasLoad 38 = .ok (.ireturn, 1) := by decide +kernel
set_option maxRecDepth 20000 in
theorem ggX9_writeBeam_X9_places : GoodIn wsX9_writeBeam wsX9_places := goodIn_r _ [8, 9, 26, 27, 28, 29, 30, 31, 32, 33, 34, 35, 36, 37, 38, 39, 40, 41, 42, 43, 44, 45, 46, 47] (by decide +kernel) (by decide +kernel)
set_option maxRecDepth 20000 in
theorem gX9_writeBeam_X9_places : GoodIn wsX9_writeBeam (wsV RX9 220 RX9 yX9_places wsX9_places) := goodIn_app (goodIn_of _ (by decide +kernel)) ggX9_writeBeam_X9_places
set_option maxRecDepth 20000 in
theorem ggX9_writeBeam_X9_supportAt : GoodIn wsX9_writeBeam wsX9_supportAt := goodIn_r _ [13, 9, 14, 15, 16, 7, 17, 26, 27, 28, 29, 30, 31, 32, 33, 34, 35, 36, 37, 38, 39, 40, 41, 42, 43, 44, 45, 46, 47] (by decide +kernel) (by decide +kernel)
set_option maxRecDepth 20000 in
theorem gX9_writeBeam_X9_supportAt : GoodIn wsX9_writeBeam (wsV RX9 131 RX9 yX9_supportAt wsX9_supportAt) := goodIn_app (goodIn_of _ (by decide +kernel)) ggX9_writeBeam_X9_supportAt
set_option maxRecDepth 20000 in
theorem ggX9_writeBeam_X9_hingeAt : GoodIn wsX9_writeBeam wsX9_hingeAt := goodIn_r _ [21, 9, 26, 27, 28, 29, 30, 31, 32, 33, 34, 35, 36, 37, 38, 39, 40, 41, 42, 43, 44, 45, 46, 47] (by decide +kernel) (by decide +kernel)
set_option maxRecDepth 20000 in
theorem gX9_writeBeam_X9_hingeAt : GoodIn wsX9_writeBeam (wsV RX9 134 RX9 yX9_hingeAt wsX9_hingeAt) := goodIn_app (goodIn_of _ (by decide +kernel)) ggX9_writeBeam_X9_hingeAt
set_option maxRecDepth 20000 in
theorem ggX9_writeBeam_X9_hasLoad : GoodIn wsX9_writeBeam wsX9_hasLoad := goodIn_r _ [25, 9, 26, 27, 28, 29, 30, 31, 32, 33, 34, 35, 36, 37, 38, 39, 40, 41, 42, 43, 44, 45, 46, 47] (by decide +kernel) (by decide +kernel)
set_option maxRecDepth 20000 in
theorem gX9_writeBeam_X9_hasLoad : GoodIn wsX9_writeBeam (wsV RX9 325 RX9 yX9_hasLoad wsX9_hasLoad) := goodIn_app (goodIn_of _ (by decide +kernel)) ggX9_writeBeam_X9_hasLoad
theorem dX9_writeBeam_0 : decode cX9_writeBeam 0 = .ok (.aload_n 0, 1) := by decide +kernel
theorem dX9_writeBeam_1 : decode cX9_writeBeam 1 = .ok (.iconst 0, 1) := by decide +kernel
theorem dX9_writeBeam_2 : decode cX9_writeBeam 2 = .ok (.putfield 46, 3) := by decide +kernel
theorem dX9_writeBeam_5 : decode cX9_writeBeam 5 = .ok (.iconst 0, 1) := by decide +kernel
theorem dX9_writeBeam_6 : decode cX9_writeBeam 6 = .ok (.istore_n 1, 1) := by decide +kernel
theorem dX9_writeBeam_7 : decode cX9_writeBeam 7 = .ok (.iload_n 1, 1) := by decide +kernel
theorem dX9_writeBeam_8 : decode cX9_writeBeam 8 = .ok (.aload_n 0, 1) := by decide +kernel
theorem dX9_writeBeam_9 : decode cX9_writeBeam 9 = .ok (.invokevirtual 220, 3) := by decide +kernel
theorem dX9_writeBeam_12 : decode cX9_writeBeam 12 = .ok (.if_icmp .ge 58, 3) := by decide +kernel
theorem dX9_writeBeam_15 : decode cX9_writeBeam 15 = .ok (.aload_n 0, 1) := by decide +kernel
theorem dX9_writeBeam_16 : decode cX9_writeBeam 16 = .ok (.getfield 43, 3) := by decide +kernel
theorem dX9_writeBeam_19 : decode cX9_writeBeam 19 = .ok (.iload_n 1, 1) := by decide +kernel
theorem dX9_writeBeam_20 : decode cX9_writeBeam 20 = .ok (.aload_n 0, 1) := by decide +kernel
theorem dX9_writeBeam_21 : decode cX9_writeBeam 21 = .ok (.iload_n 1, 1) := by decide +kernel
theorem dX9_writeBeam_22 : decode cX9_writeBeam 22 = .ok (.invokevirtual 131, 3) := by decide +kernel
theorem dX9_writeBeam_25 : decode cX9_writeBeam 25 = .ok (.iconst (-1), 1) := by decide +kernel
theorem dX9_writeBeam_26 : decode cX9_writeBeam 26 = .ok (.if_icmp .eq 8, 3) := by decide +kernel
theorem dX9_writeBeam_29 : decode cX9_writeBeam 29 = .ok (.bipush 94, 2) := by decide +kernel
theorem dX9_writeBeam_31 : decode cX9_writeBeam 31 = .ok (.goto 32, 3) := by decide +kernel
theorem dX9_writeBeam_34 : decode cX9_writeBeam 34 = .ok (.aload_n 0, 1) := by decide +kernel
theorem dX9_writeBeam_35 : decode cX9_writeBeam 35 = .ok (.iload_n 1, 1) := by decide +kernel
theorem dX9_writeBeam_36 : decode cX9_writeBeam 36 = .ok (.invokevirtual 134, 3) := by decide +kernel
theorem dX9_writeBeam_39 : decode cX9_writeBeam 39 = .ok (.iconst (-1), 1) := by decide +kernel
theorem dX9_writeBeam_40 : decode cX9_writeBeam 40 = .ok (.if_icmp .eq 8, 3) := by decide +kernel
theorem dX9_writeBeam_43 : decode cX9_writeBeam 43 = .ok (.bipush 111, 2) := by decide +kernel
theorem dX9_writeBeam_45 : decode cX9_writeBeam 45 = .ok (.goto 18, 3) := by decide +kernel
theorem dX9_writeBeam_48 : decode cX9_writeBeam 48 = .ok (.aload_n 0, 1) := by decide +kernel
theorem dX9_writeBeam_49 : decode cX9_writeBeam 49 = .ok (.iload_n 1, 1) := by decide +kernel
theorem dX9_writeBeam_50 : decode cX9_writeBeam 50 = .ok (.invokevirtual 325, 3) := by decide +kernel
theorem dX9_writeBeam_53 : decode cX9_writeBeam 53 = .ok (.ifCond .eq 8, 3) := by decide +kernel
theorem dX9_writeBeam_56 : decode cX9_writeBeam 56 = .ok (.bipush 118, 2) := by decide +kernel
theorem dX9_writeBeam_58 : decode cX9_writeBeam 58 = .ok (.goto 5, 3) := by decide +kernel
theorem dX9_writeBeam_61 : decode cX9_writeBeam 61 = .ok (.bipush 45, 2) := by decide +kernel
theorem dX9_writeBeam_63 : decode cX9_writeBeam 63 = .ok (.iastore, 1) := by decide +kernel
theorem dX9_writeBeam_64 : decode cX9_writeBeam 64 = .ok (.iinc 1 1, 3) := by decide +kernel
theorem dX9_writeBeam_67 : decode cX9_writeBeam 67 = .ok (.goto (-60), 3) := by decide +kernel
theorem dX9_writeBeam_70 : decode cX9_writeBeam 70 = .ok (.aload_n 0, 1) := by decide +kernel
theorem dX9_writeBeam_71 : decode cX9_writeBeam 71 = .ok (.aload_n 0, 1) := by decide +kernel
theorem dX9_writeBeam_72 : decode cX9_writeBeam 72 = .ok (.invokevirtual 220, 3) := by decide +kernel
theorem dX9_writeBeam_75 : decode cX9_writeBeam 75 = .ok (.putfield 328, 3) := by decide +kernel
theorem dX9_writeBeam_78 : decode cX9_writeBeam 78 = .ok (.aload_n 0, 1) := by decide +kernel
theorem dX9_writeBeam_79 : decode cX9_writeBeam 79 = .ok (.getfield 328, 3) := by decide +kernel
theorem dX9_writeBeam_82 : decode cX9_writeBeam 82 = .ok (.ireturn, 1) := by decide +kernel
set_option maxRecDepth 20000 in
theorem ggX9_writtenByte_X9_isIn : GoodIn wsX9_writtenByte wsX9_isIn := goodIn_r _ [7] (by decide +kernel) (by decide +kernel)
set_option maxRecDepth 20000 in
theorem gX9_writtenByte_X9_isIn : GoodIn wsX9_writtenByte (va_wsS RX9 56 yX9_isIn wsX9_isIn) := goodIn_app (goodIn_of _ (by decide +kernel)) ggX9_writtenByte_X9_isIn
theorem dX9_writtenByte_0 : decode cX9_writtenByte 0 = .ok (.aload_n 0, 1) := by decide +kernel
theorem dX9_writtenByte_1 : decode cX9_writtenByte 1 = .ok (.iload_n 1, 1) := by decide +kernel
theorem dX9_writtenByte_2 : decode cX9_writtenByte 2 = .ok (.iconst 0, 1) := by decide +kernel
theorem dX9_writtenByte_3 : decode cX9_writtenByte 3 = .ok (.aload_n 0, 1) := by decide +kernel
theorem dX9_writtenByte_4 : decode cX9_writtenByte 4 = .ok (.getfield 328, 3) := by decide +kernel
theorem dX9_writtenByte_7 : decode cX9_writtenByte 7 = .ok (.iconst 1, 1) := by decide +kernel
theorem dX9_writtenByte_8 : decode cX9_writtenByte 8 = .ok (.isub, 1) := by decide +kernel
theorem dX9_writtenByte_9 : decode cX9_writtenByte 9 = .ok (.invokestatic 56, 3) := by decide +kernel
theorem dX9_writtenByte_12 : decode cX9_writtenByte 12 = .ok (.ifCond .eq 7, 3) := by decide +kernel
theorem dX9_writtenByte_15 : decode cX9_writtenByte 15 = .ok (.iconst 0, 1) := by decide +kernel
theorem dX9_writtenByte_16 : decode cX9_writtenByte 16 = .ok (.goto 4, 3) := by decide +kernel
theorem dX9_writtenByte_19 : decode cX9_writtenByte 19 = .ok (.iconst 1, 1) := by decide +kernel
theorem dX9_writtenByte_20 : decode cX9_writtenByte 20 = .ok (.putfield 46, 3) := by decide +kernel
theorem dX9_writtenByte_23 : decode cX9_writtenByte 23 = .ok (.aload_n 0, 1) := by decide +kernel
theorem dX9_writtenByte_24 : decode cX9_writtenByte 24 = .ok (.getfield 46, 3) := by decide +kernel
theorem dX9_writtenByte_27 : decode cX9_writtenByte 27 = .ok (.ifCond .le 7, 3) := by decide +kernel
theorem dX9_writtenByte_30 : decode cX9_writtenByte 30 = .ok (.iconst 0, 1) := by decide +kernel
theorem dX9_writtenByte_31 : decode cX9_writtenByte 31 = .ok (.goto 9, 3) := by decide +kernel
theorem dX9_writtenByte_34 : decode cX9_writtenByte 34 = .ok (.aload_n 0, 1) := by decide +kernel
theorem dX9_writtenByte_35 : decode cX9_writtenByte 35 = .ok (.getfield 43, 3) := by decide +kernel
theorem dX9_writtenByte_38 : decode cX9_writtenByte 38 = .ok (.iload_n 1, 1) := by decide +kernel
theorem dX9_writtenByte_39 : decode cX9_writtenByte 39 = .ok (.iaload, 1) := by decide +kernel
theorem dX9_writtenByte_40 : decode cX9_writtenByte 40 = .ok (.ireturn, 1) := by decide +kernel
