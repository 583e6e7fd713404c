set_option maxRecDepth 20000 in
theorem ggX8_init_X5_init : GoodIn wsX8_init wsX5_init := goodIn_r _ [42, 43, 2, 3, 44, 45, 46, 47, 48, 10, 11, 49, 50, 51, 52, 53, 54, 55, 35, 56, 57, 58, 59, 60, 61, 62, 63, 64, 65, 66, 67, 68, 69, 70, 71, 72, 73, 74, 75, 76, 77, 78, 79, 80, 81, 82, 83, 84, 85, 86, 229, 230, 231, 232, 233, 234, 235, 190, 191, 192, 193, 194, 209, 210, 211, 212, 213, 214, 236, 237, 238] (by decide +kernel) (by decide +kernel)
set_option maxRecDepth 20000 in
theorem gX8_init_X5_init_n11 : GoodIn wsX8_init (wsX5_init) := ggX8_init_X5_init
set_option maxRecDepth 20000 in
theorem ggX8_init_X0_init : GoodIn wsX8_init wsX0_init := goodIn_r _ [65, 66, 2, 3, 67, 68, 69, 70, 71, 72, 73, 74, 75, 76, 77, 78, 79, 80, 81, 82, 83, 84, 58, 85, 86, 209, 210, 211, 212, 213, 214, 236, 237, 238] (by decide +kernel) (by decide +kernel)
set_option maxRecDepth 20000 in
theorem gX8_init_X0_init_n22 : GoodIn wsX8_init (wsX0_init) := ggX8_init_X0_init
set_option maxRecDepth 20000 in
theorem ggX8_init_X3_init : GoodIn wsX8_init wsX3_init := goodIn_r _ [88, 89, 2, 3, 90, 91, 92, 93, 94, 95, 96, 215, 216, 217, 218, 219] (by decide +kernel) (by decide +kernel)
set_option maxRecDepth 20000 in
theorem gX8_init_X3_init_n29 : GoodIn wsX8_init (wsX3_init) := ggX8_init_X3_init
set_option maxRecDepth 20000 in
theorem ggX8_init_X1_init : GoodIn wsX8_init wsX1_init := goodIn_r _ [98, 99, 2, 3, 58, 100, 91, 101, 102, 103, 104, 220, 221, 222, 223, 224] (by decide +kernel) (by decide +kernel)
set_option maxRecDepth 20000 in
theorem gX8_init_X1_init_n42 : GoodIn wsX8_init (wsX1_init) := ggX8_init_X1_init
set_option maxRecDepth 20000 in
theorem ggX8_init_X4_init : GoodIn wsX8_init wsX4_init := goodIn_r _ [106, 107, 2, 3, 108, 109, 225, 226] (by decide +kernel) (by decide +kernel)
set_option maxRecDepth 20000 in
theorem gX8_init_X4_init_n52 : GoodIn wsX8_init (wsX4_init) := ggX8_init_X4_init
set_option maxRecDepth 20000 in
theorem ggX8_init_X2_init : GoodIn wsX8_init wsX2_init := goodIn_r _ [112, 113, 2, 3, 114, 115, 116, 10, 11, 64, 65, 66, 67, 68, 69, 70, 71, 72, 73, 74, 75, 76, 77, 78, 79, 80, 81, 82, 83, 84, 58, 85, 86, 227, 228, 209, 210, 211, 212, 213, 214, 236, 237, 238] (by decide +kernel) (by decide +kernel)
set_option maxRecDepth 20000 in
theorem gX8_init_X2_init : GoodIn wsX8_init (wsX2_init) := ggX8_init_X2_init
set_option maxRecDepth 20000 in
theorem ggX8_init_X6_putInOrder : GoodIn wsX8_init wsX6_putInOrder := goodIn_r _ [120, 121, 122, 123, 71, 124, 80, 85, 125, 126, 127, 128, 86, 129, 130, 131, 132, 236, 237, 238] (by decide +kernel) (by decide +kernel)
set_option maxRecDepth 20000 in
theorem gX8_init_X6_putInOrder : GoodIn wsX8_init (wsV RX8 89 RX6 yX6_putInOrder wsX6_putInOrder) := goodIn_app (goodIn_of _ (by decide +kernel)) ggX8_init_X6_putInOrder
set_option maxRecDepth 20000 in
theorem ggX8_init_X3_reckon : GoodIn wsX8_init wsX3_reckon := goodIn_r _ [136, 137, 138, 139, 140, 83, 141, 94, 142, 95, 143, 144, 145, 15, 146, 92, 147, 148, 149, 71, 150, 85, 151, 152, 153, 154, 80, 86, 155, 156, 157, 158, 159, 82, 84, 160, 161, 162, 163, 164, 165, 166, 167, 168, 169, 170, 171, 172, 173, 174, 175, 176, 177, 178, 179, 93, 180, 181, 182, 183, 184, 185, 186, 96, 187, 188, 189, 209, 210, 211, 212, 213, 214, 236, 237, 238, 215, 216, 217, 218, 219] (by decide +kernel) (by decide +kernel)
set_option maxRecDepth 20000 in
theorem gX8_init_X3_reckon : GoodIn wsX8_init (wsV RX8 95 RX3 yX3_reckon wsX3_reckon) := goodIn_app (goodIn_of _ (by decide +kernel)) ggX8_init_X3_reckon
theorem dX8_init_0 : decode cX8_init 0 = .ok (.aload_n 0, 1) := by decide +kernel
theorem dX8_init_1 : decode cX8_init 1 = .ok (.invokespecial 3, 3) := by decide +kernel
theorem dX8_init_4 : decode cX8_init 4 = .ok (.aload_n 0, 1) := by decide +kernel
theorem dX8_init_5 : decode cX8_init 5 = .ok (.new 9, 3) := by decide +kernel
theorem dX8_init_8 : decode cX8_init 8 = .ok (.dup, 1) := by decide +kernel
theorem dX8_init_9 : decode cX8_init 9 = .ok (.invokespecial 11, 3) := by decide +kernel
theorem dX8_init_12 : decode cX8_init 12 = .ok (.putfield 12, 3) := by decide +kernel
theorem dX8_init_15 : decode cX8_init 15 = .ok (.aload_n 0, 1) := by decide +kernel
theorem dX8_init_16 : decode cX8_init 16 = .ok (.iconst (-1), 1) := by decide +kernel
theorem dX8_init_17 : decode cX8_init 17 = .ok (.putfield 16, 3) := by decide +kernel
theorem dX8_init_20 : decode cX8_init 20 = .ok (.aload_n 0, 1) := by decide +kernel
theorem dX8_init_21 : decode cX8_init 21 = .ok (.new 20, 3) := by decide +kernel
theorem dX8_init_24 : decode cX8_init 24 = .ok (.dup, 1) := by decide +kernel
theorem dX8_init_25 : decode cX8_init 25 = .ok (.invokespecial 22, 3) := by decide +kernel
theorem dX8_init_28 : decode cX8_init 28 = .ok (.putfield 23, 3) := by decide +kernel
theorem dX8_init_31 : decode cX8_init 31 = .ok (.aload_n 0, 1) := by decide +kernel
theorem dX8_init_32 : decode cX8_init 32 = .ok (.new 27, 3) := by decide +kernel
theorem dX8_init_35 : decode cX8_init 35 = .ok (.dup, 1) := by decide +kernel
theorem dX8_init_36 : decode cX8_init 36 = .ok (.invokespecial 29, 3) := by decide +kernel
theorem dX8_init_39 : decode cX8_init 39 = .ok (.putfield 30, 3) := by decide +kernel
theorem dX8_init_42 : decode cX8_init 42 = .ok (.aload_n 0, 1) := by decide +kernel
theorem dX8_init_43 : decode cX8_init 43 = .ok (.new 20, 3) := by decide +kernel
theorem dX8_init_46 : decode cX8_init 46 = .ok (.dup, 1) := by decide +kernel
theorem dX8_init_47 : decode cX8_init 47 = .ok (.invokespecial 22, 3) := by decide +kernel
theorem dX8_init_50 : decode cX8_init 50 = .ok (.putfield 34, 3) := by decide +kernel
theorem dX8_init_53 : decode cX8_init 53 = .ok (.aload_n 0, 1) := by decide +kernel
theorem dX8_init_54 : decode cX8_init 54 = .ok (.new 27, 3) := by decide +kernel
theorem dX8_init_57 : decode cX8_init 57 = .ok (.dup, 1) := by decide +kernel
theorem dX8_init_58 : decode cX8_init 58 = .ok (.invokespecial 29, 3) := by decide +kernel
theorem dX8_init_61 : decode cX8_init 61 = .ok (.putfield 37, 3) := by decide +kernel
theorem dX8_init_64 : decode cX8_init 64 = .ok (.aload_n 0, 1) := by decide +kernel
theorem dX8_init_65 : decode cX8_init 65 = .ok (.new 40, 3) := by decide +kernel
theorem dX8_init_68 : decode cX8_init 68 = .ok (.dup, 1) := by decide +kernel
theorem dX8_init_69 : decode cX8_init 69 = .ok (.invokespecial 42, 3) := by decide +kernel
theorem dX8_init_72 : decode cX8_init 72 = .ok (.putfield 43, 3) := by decide +kernel
theorem dX8_init_75 : decode cX8_init 75 = .ok (.aload_n 0, 1) := by decide +kernel
theorem dX8_init_76 : decode cX8_init 76 = .ok (.new 40, 3) := by decide +kernel
theorem dX8_init_79 : decode cX8_init 79 = .ok (.dup, 1) := by decide +kernel
theorem dX8_init_80 : decode cX8_init 80 = .ok (.invokespecial 42, 3) := by decide +kernel
theorem dX8_init_83 : decode cX8_init 83 = .ok (.putfield 47, 3) := by decide +kernel
theorem dX8_init_86 : decode cX8_init 86 = .ok (.aload_n 0, 1) := by decide +kernel
theorem dX8_init_87 : decode cX8_init 87 = .ok (.new 50, 3) := by decide +kernel
theorem dX8_init_90 : decode cX8_init 90 = .ok (.dup, 1) := by decide +kernel
theorem dX8_init_91 : decode cX8_init 91 = .ok (.invokespecial 52, 3) := by decide +kernel
theorem dX8_init_94 : decode cX8_init 94 = .ok (.putfield 53, 3) := by decide +kernel
theorem dX8_init_97 : decode cX8_init 97 = .ok (.aload_n 0, 1) := by decide +kernel
theorem dX8_init_98 : decode cX8_init 98 = .ok (.new 57, 3) := by decide +kernel
theorem dX8_init_101 : decode cX8_init 101 = .ok (.dup, 1) := by decide +kernel
theorem dX8_init_102 : decode cX8_init 102 = .ok (.invokespecial 59, 3) := by decide +kernel
theorem dX8_init_105 : decode cX8_init 105 = .ok (.putfield 60, 3) := by decide +kernel
theorem dX8_init_108 : decode cX8_init 108 = .ok (.aload_n 0, 1) := by decide +kernel
theorem dX8_init_109 : decode cX8_init 109 = .ok (.iconst 2, 1) := by decide +kernel
theorem dX8_init_110 : decode cX8_init 110 = .ok (.anewarray 20, 3) := by decide +kernel
theorem dX8_init_113 : decode cX8_init 113 = .ok (.putfield 64, 3) := by decide +kernel
theorem dX8_init_116 : decode cX8_init 116 = .ok (.aload_n 0, 1) := by decide +kernel
theorem dX8_init_117 : decode cX8_init 117 = .ok (.iconst 2, 1) := by decide +kernel
theorem dX8_init_118 : decode cX8_init 118 = .ok (.newarray .boolean, 2) := by decide +kernel
theorem dX8_init_120 : decode cX8_init 120 = .ok (.putfield 68, 3) := by decide +kernel
theorem dX8_init_123 : decode cX8_init 123 = .ok (.aload_n 0, 1) := by decide +kernel
theorem dX8_init_124 : decode cX8_init 124 = .ok (.bipush 31, 2) := by decide +kernel
theorem dX8_init_126 : decode cX8_init 126 = .ok (.newarray .char, 2) := by decide +kernel
theorem dX8_init_128 : decode cX8_init 128 = .ok (.putfield 72, 3) := by decide +kernel
theorem dX8_init_131 : decode cX8_init 131 = .ok (.aload_n 0, 1) := by decide +kernel
theorem dX8_init_132 : decode cX8_init 132 = .ok (.iconst 0, 1) := by decide +kernel
theorem dX8_init_133 : decode cX8_init 133 = .ok (.putfield 76, 3) := by decide +kernel
theorem dX8_init_136 : decode cX8_init 136 = .ok (.iconst 0, 1) := by decide +kernel
theorem dX8_init_137 : decode cX8_init 137 = .ok (.istore_n 1, 1) := by decide +kernel
theorem dX8_init_138 : decode cX8_init 138 = .ok (.iload_n 1, 1) := by decide +kernel
theorem dX8_init_139 : decode cX8_init 139 = .ok (.iconst 2, 1) := by decide +kernel
theorem dX8_init_140 : decode cX8_init 140 = .ok (.if_icmp .ge 22, 3) := by decide +kernel
theorem dX8_init_143 : decode cX8_init 143 = .ok (.aload_n 0, 1) := by decide +kernel
theorem dX8_init_144 : decode cX8_init 144 = .ok (.getfield 64, 3) := by decide +kernel
theorem dX8_init_147 : decode cX8_init 147 = .ok (.iload_n 1, 1) := by decide +kernel
theorem dX8_init_148 : decode cX8_init 148 = .ok (.new 20, 3) := by decide +kernel
theorem dX8_init_151 : decode cX8_init 151 = .ok (.dup, 1) := by decide +kernel
theorem dX8_init_152 : decode cX8_init 152 = .ok (.invokespecial 22, 3) := by decide +kernel
theorem dX8_init_155 : decode cX8_init 155 = .ok (.aastore, 1) := by decide +kernel
theorem dX8_init_156 : decode cX8_init 156 = .ok (.iinc 1 1, 3) := by decide +kernel
theorem dX8_init_159 : decode cX8_init 159 = .ok (.goto (-21), 3) := by decide +kernel
theorem dX8_init_162 : decode cX8_init 162 = .ok (.aload_n 0, 1) := by decide +kernel
theorem dX8_init_163 : decode cX8_init 163 = .ok (.getfield 23, 3) := by decide +kernel
theorem dX8_init_166 : decode cX8_init 166 = .ok (.bipush 10, 2) := by decide +kernel
theorem dX8_init_168 : decode cX8_init 168 = .ok (.putfield 79, 3) := by decide +kernel
theorem dX8_init_171 : decode cX8_init 171 = .ok (.aload_n 0, 1) := by decide +kernel
theorem dX8_init_172 : decode cX8_init 172 = .ok (.getfield 23, 3) := by decide +kernel
theorem dX8_init_175 : decode cX8_init 175 = .ok (.bipush 100, 2) := by decide +kernel
theorem dX8_init_177 : decode cX8_init 177 = .ok (.putfield 82, 3) := by decide +kernel
theorem dX8_init_180 : decode cX8_init 180 = .ok (.aload_n 0, 1) := by decide +kernel
theorem dX8_init_181 : decode cX8_init 181 = .ok (.getfield 23, 3) := by decide +kernel
theorem dX8_init_184 : decode cX8_init 184 = .ok (.getfield 85, 3) := by decide +kernel
theorem dX8_init_187 : decode cX8_init 187 = .ok (.iconst 0, 1) := by decide +kernel
theorem dX8_init_188 : decode cX8_init 188 = .ok (.iconst (-1), 1) := by decide +kernel
theorem dX8_init_189 : decode cX8_init 189 = .ok (.invokevirtual 89, 3) := by decide +kernel
theorem dX8_init_192 : decode cX8_init 192 = .ok (.pop, 1) := by decide +kernel
theorem dX8_init_193 : decode cX8_init 193 = .ok (.aload_n 0, 1) := by decide +kernel
theorem dX8_init_194 : decode cX8_init 194 = .ok (.getfield 23, 3) := by decide +kernel
theorem dX8_init_197 : decode cX8_init 197 = .ok (.getfield 85, 3) := by decide +kernel
theorem dX8_init_200 : decode cX8_init 200 = .ok (.bipush 10, 2) := by decide +kernel
theorem dX8_init_202 : decode cX8_init 202 = .ok (.iconst (-1), 1) := by decide +kernel
theorem dX8_init_203 : decode cX8_init 203 = .ok (.invokevirtual 89, 3) := by decide +kernel
theorem dX8_init_206 : decode cX8_init 206 = .ok (.pop, 1) := by decide +kernel
theorem dX8_init_207 : decode cX8_init 207 = .ok (.aload_n 0, 1) := by decide +kernel
theorem dX8_init_208 : decode cX8_init 208 = .ok (.getfield 30, 3) := by decide +kernel
theorem dX8_init_211 : decode cX8_init 211 = .ok (.aload_n 0, 1) := by decide +kernel
theorem dX8_init_212 : decode cX8_init 212 = .ok (.getfield 23, 3) := by decide +kernel
theorem dX8_init_215 : decode cX8_init 215 = .ok (.invokevirtual 95, 3) := by decide +kernel
theorem dX8_init_218 : decode cX8_init 218 = .ok (.pop, 1) := by decide +kernel
theorem dX8_init_219 : decode cX8_init 219 = .ok (.return_, 1) := by decide +kernel
set_option maxRecDepth 20000 in
theorem ggX8_append_X8_bytesIn : GoodIn wsX8_append wsX8_bytesIn := goodIn_r _ [9] (by decide +kernel) (by decide +kernel)
set_option maxRecDepth 20000 in
theorem gX8_append_X8_bytesIn : GoodIn wsX8_append (va_wsS RX8 99 yX8_bytesIn wsX8_bytesIn) := goodIn_app (goodIn_of _ (by decide +kernel)) ggX8_append_X8_bytesIn
set_option maxRecDepth 20000 in
theorem ggX8_append_X8_putBytes : GoodIn wsX8_append wsX8_putBytes := goodIn_r _ [13, 3, 4, 14, 15, 16, 17, 18, 19, 20, 21, 22, 23, 24, 25, 26, 27, 28, 29, 30, 31, 32, 33, 34, 35, 36, 37, 38, 39, 40, 41, 42, 43, 44, 45, 46] (by decide +kernel) (by decide +kernel)
set_option maxRecDepth 20000 in
theorem gX8_append_X8_putBytes : GoodIn wsX8_append (wsV RX8 113 RX8 yX8_putBytes wsX8_putBytes) := goodIn_app (goodIn_of _ (by decide +kernel)) ggX8_append_X8_putBytes
theorem dX8_append_0 : decode cX8_append 0 = .ok (.iload_n 1, 1) := by decide +kernel
theorem dX8_append_1 : decode cX8_append 1 = .ok (.invokestatic 99, 3) := by decide +kernel
theorem dX8_append_4 : decode cX8_append 4 = .ok (.iload_n 2, 1) := by decide +kernel
theorem dX8_append_5 : decode cX8_append 5 = .ok (.invokestatic 99, 3) := by decide +kernel
theorem dX8_append_8 : decode cX8_append 8 = .ok (.iadd, 1) := by decide +kernel
theorem dX8_append_9 : decode cX8_append 9 = .ok (.iload_n 3, 1) := by decide +kernel
theorem dX8_append_10 : decode cX8_append 10 = .ok (.invokestatic 99, 3) := by decide +kernel
theorem dX8_append_13 : decode cX8_append 13 = .ok (.iadd, 1) := by decide +kernel
theorem dX8_append_14 : decode cX8_append 14 = .ok (.iload 4, 2) := by decide +kernel
theorem dX8_append_16 : decode cX8_append 16 = .ok (.invokestatic 99, 3) := by decide +kernel
theorem dX8_append_19 : decode cX8_append 19 = .ok (.iadd, 1) := by decide +kernel
theorem dX8_append_20 : decode cX8_append 20 = .ok (.iload 5, 2) := by decide +kernel
theorem dX8_append_22 : decode cX8_append 22 = .ok (.invokestatic 99, 3) := by decide +kernel
theorem dX8_append_25 : decode cX8_append 25 = .ok (.iadd, 1) := by decide +kernel
theorem dX8_append_26 : decode cX8_append 26 = .ok (.istore 6, 2) := by decide +kernel
theorem dX8_append_28 : decode cX8_append 28 = .ok (.aload_n 0, 1) := by decide +kernel
theorem dX8_append_29 : decode cX8_append 29 = .ok (.getfield 12, 3) := by decide +kernel
theorem dX8_append_32 : decode cX8_append 32 = .ok (.getfield 103, 3) := by decide +kernel
theorem dX8_append_35 : decode cX8_append 35 = .ok (.getfield 107, 3) := by decide +kernel
theorem dX8_append_38 : decode cX8_append 38 = .ok (.iload 6, 2) := by decide +kernel
theorem dX8_append_40 : decode cX8_append 40 = .ok (.iadd, 1) := by decide +kernel
theorem dX8_append_41 : decode cX8_append 41 = .ok (.sipush 500, 3) := by decide +kernel
theorem dX8_append_44 : decode cX8_append 44 = .ok (.if_icmp .le 11, 3) := by decide +kernel
theorem dX8_append_47 : decode cX8_append 47 = .ok (.new 110, 3) := by decide +kernel
theorem dX8_append_50 : decode cX8_append 50 = .ok (.dup, 1) := by decide +kernel
theorem dX8_append_51 : decode cX8_append 51 = .ok (.invokespecial 112, 3) := by decide +kernel
theorem dX8_append_54 : decode cX8_append 54 = .ok (.athrow, 1) := by decide +kernel
theorem dX8_append_55 : decode cX8_append 55 = .ok (.aload_n 0, 1) := by decide +kernel
theorem dX8_append_56 : decode cX8_append 56 = .ok (.iload_n 1, 1) := by decide +kernel
theorem dX8_append_57 : decode cX8_append 57 = .ok (.invokevirtual 113, 3) := by decide +kernel
theorem dX8_append_60 : decode cX8_append 60 = .ok (.aload_n 0, 1) := by decide +kernel
theorem dX8_append_61 : decode cX8_append 61 = .ok (.iload_n 2, 1) := by decide +kernel
theorem dX8_append_62 : decode cX8_append 62 = .ok (.invokevirtual 113, 3) := by decide +kernel
theorem dX8_append_65 : decode cX8_append 65 = .ok (.aload_n 0, 1) := by decide +kernel
theorem dX8_append_66 : decode cX8_append 66 = .ok (.iload_n 3, 1) := by decide +kernel
theorem dX8_append_67 : decode cX8_append 67 = .ok (.invokevirtual 113, 3) := by decide +kernel
theorem dX8_append_70 : decode cX8_append 70 = .ok (.aload_n 0, 1) := by decide +kernel
theorem dX8_append_71 : decode cX8_append 71 = .ok (.iload 4, 2) := by decide +kernel
theorem dX8_append_73 : decode cX8_append 73 = .ok (.invokevirtual 113, 3) := by decide +kernel
theorem dX8_append_76 : decode cX8_append 76 = .ok (.aload_n 0, 1) := by decide +kernel
theorem dX8_append_77 : decode cX8_append 77 = .ok (.iload 5, 2) := by decide +kernel
theorem dX8_append_79 : decode cX8_append 79 = .ok (.invokevirtual 113, 3) := by decide +kernel
theorem dX8_append_82 : decode cX8_append 82 = .ok (.aload_n 0, 1) := by decide +kernel
theorem dX8_append_83 : decode cX8_append 83 = .ok (.getfield 12, 3) := by decide +kernel
theorem dX8_append_86 : decode cX8_append 86 = .ok (.getfield 103, 3) := by decide +kernel
theorem dX8_append_89 : decode cX8_append 89 = .ok (.getfield 107, 3) := by decide +kernel
theorem dX8_append_92 : decode cX8_append 92 = .ok (.ireturn, 1) := by decide +kernel
set_option maxRecDepth 20000 in
theorem ggX8_load_X5_readText : GoodIn wsX8_load wsX5_readText := goodIn_r _ [17, 18, 19, 20, 21, 22, 23, 24, 25, 26, 27, 28, 29, 30, 31, 32, 33, 34, 35, 36, 37, 38, 39, 40, 41, 42, 43, 44, 45, 46, 47, 48, 49, 50, 51, 52, 53, 54, 55, 56, 57, 58, 59, 60, 61, 62, 63, 64, 65, 66, 67, 68, 69, 70, 71, 72, 16, 73, 74, 75, 76, 77, 78, 79, 80, 81, 82, 83, 84, 85, 86, 87, 88, 89, 90, 91, 92, 93, 94, 95, 96, 97, 98, 99, 100, 101, 102, 103, 104, 105, 106, 107, 108, 109, 110, 111, 112, 113, 114, 115, 116, 117, 118, 119, 120, 121, 122, 123, 124, 125, 126, 127, 128, 129, 130, 131, 132, 133, 134, 135, 136, 137, 138, 139, 140, 141, 142, 143, 144, 145, 146, 147, 148, 149, 150, 151, 152, 153, 154, 155, 156, 157, 158, 159, 160, 161, 162, 163, 164, 165, 166, 167, 168, 169, 170, 171, 172, 173, 174, 175, 176, 177, 178, 179, 180, 181, 182, 183, 184, 185, 186, 187, 188, 189, 190, 191, 192, 193, 194, 195, 196, 197, 198, 199, 200, 201, 202, 203, 204, 205, 206, 207, 208, 209, 210, 211, 212, 213, 214, 215, 216, 217, 218, 219, 220, 221, 222, 223, 224, 225, 338, 339, 340, 341, 342, 343, 344, 345, 346, 347, 348, 349, 350, 351, 352, 353, 354, 355, 356, 357, 358] (by decide +kernel) (by decide +kernel)
set_option maxRecDepth 20000 in
theorem gX8_load_X5_readText : GoodIn wsX8_load (wsV RX8 117 RX5 yX5_readText wsX5_readText) := goodIn_app (goodIn_of _ (by decide +kernel)) ggX8_load_X5_readText
set_option maxRecDepth 20000 in
theorem ggX8_load_X0_copyFrom : GoodIn wsX8_load wsX0_copyFrom := goodIn_r _ [229, 230, 231, 29, 31, 32, 33, 232, 233, 234, 177, 235, 179, 180, 181, 236, 63, 64, 65, 237, 238, 239, 240, 241, 242, 243, 244, 245, 246, 247, 248, 350, 351, 352, 353, 354, 355, 356, 357, 358] (by decide +kernel) (by decide +kernel)
set_option maxRecDepth 20000 in
theorem gX8_load_X0_copyFrom : GoodIn wsX8_load (wsV RX8 128 RX0 yX0_copyFrom wsX0_copyFrom) := goodIn_app (goodIn_of _ (by decide +kernel)) ggX8_load_X0_copyFrom
set_option maxRecDepth 20000 in
theorem ggX8_load_X3_reckon : GoodIn wsX8_load wsX3_reckon := goodIn_r _ [253, 254, 255, 256, 63, 64, 65, 257, 258, 259, 260, 261, 262, 252, 263, 264, 265, 238, 239, 177, 240, 180, 241, 242, 243, 244, 179, 181, 266, 267, 268, 269, 270, 271, 272, 273, 274, 275, 276, 277, 278, 279, 280, 281, 282, 283, 284, 285, 286, 287, 288, 289, 290, 291, 292, 293, 294, 295, 296, 297, 298, 299, 300, 301, 302, 303, 304, 350, 351, 352, 353, 354, 355, 356, 357, 358, 359, 360, 361, 362, 363] (by decide +kernel) (by decide +kernel)
set_option maxRecDepth 20000 in
theorem gX8_load_X3_reckon : GoodIn wsX8_load (wsV RX8 95 RX3 yX3_reckon wsX3_reckon) := goodIn_app (goodIn_of _ (by decide +kernel)) ggX8_load_X3_reckon
set_option maxRecDepth 20000 in
theorem ggX8_load_X8_takeTrial : GoodIn wsX8_load wsX8_takeTrial := goodIn_r _ [309, 310, 10, 7, 311, 312, 313, 314, 315, 316, 317, 318, 319, 320, 321, 322, 323, 227, 228, 27, 229, 230, 231, 29, 31, 32, 33, 232, 233, 234, 177, 235, 179, 180, 181, 236, 63, 64, 65, 237, 238, 239, 240, 241, 242, 243, 244, 245, 246, 247, 248, 226, 249, 250, 251, 252, 253, 254, 255, 256, 257, 258, 259, 260, 261, 262, 263, 264, 265, 266, 267, 268, 269, 270, 271, 272, 273, 274, 275, 276, 277, 278, 279, 280, 281, 282, 283, 284, 285, 286, 287, 288, 289, 290, 291, 292, 293, 294, 295, 296, 297, 298, 299, 300, 301, 302, 303, 304, 324, 325, 326, 327, 328, 329, 330, 331, 332, 333, 334, 335, 336, 337, 364, 365, 350, 351, 352, 353, 354, 355, 356, 357, 358, 359, 360, 361, 362, 363] (by decide +kernel) (by decide +kernel)
set_option maxRecDepth 20000 in
theorem gX8_load_X8_takeTrial : GoodIn wsX8_load (wsV RX8 132 RX8 yX8_takeTrial wsX8_takeTrial) := goodIn_app (goodIn_of _ (by decide +kernel)) ggX8_load_X8_takeTrial
theorem dX8_load_0 : decode cX8_load 0 = .ok (.aload_n 0, 1) := by decide +kernel
theorem dX8_load_1 : decode cX8_load 1 = .ok (.getfield 12, 3) := by decide +kernel
theorem dX8_load_4 : decode cX8_load 4 = .ok (.getfield 103, 3) := by decide +kernel
theorem dX8_load_7 : decode cX8_load 7 = .ok (.getfield 107, 3) := by decide +kernel
theorem dX8_load_10 : decode cX8_load 10 = .ok (.istore_n 1, 1) := by decide +kernel
theorem dX8_load_11 : decode cX8_load 11 = .ok (.aload_n 0, 1) := by decide +kernel
theorem dX8_load_12 : decode cX8_load 12 = .ok (.getfield 12, 3) := by decide +kernel
theorem dX8_load_15 : decode cX8_load 15 = .ok (.invokevirtual 117, 3) := by decide +kernel
theorem dX8_load_18 : decode cX8_load 18 = .ok (.istore_n 2, 1) := by decide +kernel
theorem dX8_load_19 : decode cX8_load 19 = .ok (.aload_n 0, 1) := by decide +kernel
theorem dX8_load_20 : decode cX8_load 20 = .ok (.getfield 12, 3) := by decide +kernel
theorem dX8_load_23 : decode cX8_load 23 = .ok (.getfield 103, 3) := by decide +kernel
theorem dX8_load_26 : decode cX8_load 26 = .ok (.iconst 0, 1) := by decide +kernel
theorem dX8_load_27 : decode cX8_load 27 = .ok (.putfield 107, 3) := by decide +kernel
theorem dX8_load_30 : decode cX8_load 30 = .ok (.iload_n 2, 1) := by decide +kernel
theorem dX8_load_31 : decode cX8_load 31 = .ok (.ifCond .ne 22, 3) := by decide +kernel
theorem dX8_load_34 : decode cX8_load 34 = .ok (.aload_n 0, 1) := by decide +kernel
theorem dX8_load_35 : decode cX8_load 35 = .ok (.aload_n 0, 1) := by decide +kernel
theorem dX8_load_36 : decode cX8_load 36 = .ok (.getfield 12, 3) := by decide +kernel
theorem dX8_load_39 : decode cX8_load 39 = .ok (.getfield 121, 3) := by decide +kernel
theorem dX8_load_42 : decode cX8_load 42 = .ok (.putfield 16, 3) := by decide +kernel
theorem dX8_load_45 : decode cX8_load 45 = .ok (.aload_n 0, 1) := by decide +kernel
theorem dX8_load_46 : decode cX8_load 46 = .ok (.getfield 12, 3) := by decide +kernel
theorem dX8_load_49 : decode cX8_load 49 = .ok (.getfield 122, 3) := by decide +kernel
theorem dX8_load_52 : decode cX8_load 52 = .ok (.ireturn, 1) := by decide +kernel
theorem dX8_load_53 : decode cX8_load 53 = .ok (.aload_n 0, 1) := by decide +kernel
theorem dX8_load_54 : decode cX8_load 54 = .ok (.getfield 34, 3) := by decide +kernel
theorem dX8_load_57 : decode cX8_load 57 = .ok (.aload_n 0, 1) := by decide +kernel
theorem dX8_load_58 : decode cX8_load 58 = .ok (.getfield 12, 3) := by decide +kernel
theorem dX8_load_61 : decode cX8_load 61 = .ok (.getfield 125, 3) := by decide +kernel
theorem dX8_load_64 : decode cX8_load 64 = .ok (.invokevirtual 128, 3) := by decide +kernel
theorem dX8_load_67 : decode cX8_load 67 = .ok (.aload_n 0, 1) := by decide +kernel
theorem dX8_load_68 : decode cX8_load 68 = .ok (.getfield 37, 3) := by decide +kernel
theorem dX8_load_71 : decode cX8_load 71 = .ok (.aload_n 0, 1) := by decide +kernel
theorem dX8_load_72 : decode cX8_load 72 = .ok (.getfield 34, 3) := by decide +kernel
theorem dX8_load_75 : decode cX8_load 75 = .ok (.invokevirtual 95, 3) := by decide +kernel
theorem dX8_load_78 : decode cX8_load 78 = .ok (.ifCond .ne 11, 3) := by decide +kernel
theorem dX8_load_81 : decode cX8_load 81 = .ok (.aload_n 0, 1) := by decide +kernel
theorem dX8_load_82 : decode cX8_load 82 = .ok (.iload_n 1, 1) := by decide +kernel
theorem dX8_load_83 : decode cX8_load 83 = .ok (.putfield 16, 3) := by decide +kernel
theorem dX8_load_86 : decode cX8_load 86 = .ok (.bipush (-7), 2) := by decide +kernel
theorem dX8_load_88 : decode cX8_load 88 = .ok (.ireturn, 1) := by decide +kernel
theorem dX8_load_89 : decode cX8_load 89 = .ok (.aload_n 0, 1) := by decide +kernel
theorem dX8_load_90 : decode cX8_load 90 = .ok (.iconst (-1), 1) := by decide +kernel
theorem dX8_load_91 : decode cX8_load 91 = .ok (.putfield 16, 3) := by decide +kernel
theorem dX8_load_94 : decode cX8_load 94 = .ok (.aload_n 0, 1) := by decide +kernel
theorem dX8_load_95 : decode cX8_load 95 = .ok (.invokevirtual 132, 3) := by decide +kernel
theorem dX8_load_98 : decode cX8_load 98 = .ok (.aload_n 0, 1) := by decide +kernel
theorem dX8_load_99 : decode cX8_load 99 = .ok (.getfield 23, 3) := by decide +kernel
theorem dX8_load_102 : decode cX8_load 102 = .ok (.getfield 85, 3) := by decide +kernel
theorem dX8_load_105 : decode cX8_load 105 = .ok (.getfield 135, 3) := by decide +kernel
theorem dX8_load_108 : decode cX8_load 108 = .ok (.ireturn, 1) := by decide +kernel
theorem dX8_errorPosition_0 : decode cX8_errorPosition 0 = .ok (.aload_n 0, 1) := by decide +kernel
theorem dX8_errorPosition_1 : decode cX8_errorPosition 1 = .ok (.getfield 16, 3) := by decide +kernel
theorem dX8_errorPosition_4 : decode cX8_errorPosition 4 = .ok (.ireturn, 1) := by decide +kernel
set_option maxRecDepth 20000 in
theorem ggX8_count_X6_sumOfFirsts : GoodIn wsX8_count wsX6_sumOfFirsts := goodIn_r _ [15, 16, 17, 18, 19, 14, 20, 21, 22, 23, 24, 25, 26, 67, 68, 69] (by decide +kernel) (by decide +kernel)
set_option maxRecDepth 20000 in
theorem gX8_count_X6_sumOfFirsts : GoodIn wsX8_count (wsV RX8 147 RX6 yX6_sumOfFirsts wsX6_sumOfFirsts) := goodIn_app (goodIn_of _ (by decide +kernel)) ggX8_count_X6_sumOfFirsts
set_option maxRecDepth 20000 in
theorem ggX8_count_X0_lastHead : GoodIn wsX8_count wsX0_lastHead := goodIn_r _ [31, 32, 33, 34, 35, 36, 37, 14, 38, 16, 39, 40, 41, 42, 43, 44, 45, 46, 26, 22, 23, 24, 25, 21, 61, 62, 63, 64, 65, 66, 67, 68, 69] (by decide +kernel) (by decide +kernel)
set_option maxRecDepth 20000 in
theorem gX8_count_X0_lastHead : GoodIn wsX8_count (wsV RX8 151 RX0 yX0_lastHead wsX0_lastHead) := goodIn_app (goodIn_of _ (by decide +kernel)) ggX8_count_X0_lastHead
theorem dX8_count_0 : decode cX8_count 0 = .ok (.iload_n 1, 1) := by decide +kernel
theorem dX8_count_1 : decode cX8_count 1 = .ok (.tableswitch 141 0 8 #[51, 59, 70, 81, 92, 103, 111, 122, 133], 51) := by decide +kernel
theorem dX8_count_52 : decode cX8_count 52 = .ok (.aload_n 0, 1) := by decide +kernel
theorem dX8_count_53 : decode cX8_count 53 = .ok (.getfield 23, 3) := by decide +kernel
theorem dX8_count_56 : decode cX8_count 56 = .ok (.getfield 79, 3) := by decide +kernel
theorem dX8_count_59 : decode cX8_count 59 = .ok (.ireturn, 1) := by decide +kernel
theorem dX8_count_60 : decode cX8_count 60 = .ok (.aload_n 0, 1) := by decide +kernel
theorem dX8_count_61 : decode cX8_count 61 = .ok (.getfield 23, 3) := by decide +kernel
theorem dX8_count_64 : decode cX8_count 64 = .ok (.getfield 85, 3) := by decide +kernel
theorem dX8_count_67 : decode cX8_count 67 = .ok (.getfield 135, 3) := by decide +kernel
theorem dX8_count_70 : decode cX8_count 70 = .ok (.ireturn, 1) := by decide +kernel
theorem dX8_count_71 : decode cX8_count 71 = .ok (.aload_n 0, 1) := by decide +kernel
theorem dX8_count_72 : decode cX8_count 72 = .ok (.getfield 23, 3) := by decide +kernel
theorem dX8_count_75 : decode cX8_count 75 = .ok (.getfield 138, 3) := by decide +kernel
theorem dX8_count_78 : decode cX8_count 78 = .ok (.getfield 135, 3) := by decide +kernel
theorem dX8_count_81 : decode cX8_count 81 = .ok (.ireturn, 1) := by decide +kernel
theorem dX8_count_82 : decode cX8_count 82 = .ok (.aload_n 0, 1) := by decide +kernel
theorem dX8_count_83 : decode cX8_count 83 = .ok (.getfield 23, 3) := by decide +kernel
theorem dX8_count_86 : decode cX8_count 86 = .ok (.getfield 141, 3) := by decide +kernel
theorem dX8_count_89 : decode cX8_count 89 = .ok (.getfield 135, 3) := by decide +kernel
theorem dX8_count_92 : decode cX8_count 92 = .ok (.ireturn, 1) := by decide +kernel
theorem dX8_count_93 : decode cX8_count 93 = .ok (.aload_n 0, 1) := by decide +kernel
theorem dX8_count_94 : decode cX8_count 94 = .ok (.getfield 23, 3) := by decide +kernel
theorem dX8_count_97 : decode cX8_count 97 = .ok (.getfield 144, 3) := by decide +kernel
theorem dX8_count_100 : decode cX8_count 100 = .ok (.getfield 135, 3) := by decide +kernel
theorem dX8_count_103 : decode cX8_count 103 = .ok (.ireturn, 1) := by decide +kernel
theorem dX8_count_104 : decode cX8_count 104 = .ok (.aload_n 0, 1) := by decide +kernel
theorem dX8_count_105 : decode cX8_count 105 = .ok (.getfield 23, 3) := by decide +kernel
theorem dX8_count_108 : decode cX8_count 108 = .ok (.getfield 82, 3) := by decide +kernel
theorem dX8_count_111 : decode cX8_count 111 = .ok (.ireturn, 1) := by decide +kernel
theorem dX8_count_112 : decode cX8_count 112 = .ok (.aload_n 0, 1) := by decide +kernel
theorem dX8_count_113 : decode cX8_count 113 = .ok (.getfield 23, 3) := by decide +kernel
theorem dX8_count_116 : decode cX8_count 116 = .ok (.getfield 141, 3) := by decide +kernel
theorem dX8_count_119 : decode cX8_count 119 = .ok (.invokevirtual 147, 3) := by decide +kernel
theorem dX8_count_122 : decode cX8_count 122 = .ok (.ireturn, 1) := by decide +kernel
theorem dX8_count_123 : decode cX8_count 123 = .ok (.aload_n 0, 1) := by decide +kernel
theorem dX8_count_124 : decode cX8_count 124 = .ok (.getfield 23, 3) := by decide +kernel
theorem dX8_count_127 : decode cX8_count 127 = .ok (.getfield 144, 3) := by decide +kernel
theorem dX8_count_130 : decode cX8_count 130 = .ok (.invokevirtual 147, 3) := by decide +kernel
theorem dX8_count_133 : decode cX8_count 133 = .ok (.ireturn, 1) := by decide +kernel
theorem dX8_count_134 : decode cX8_count 134 = .ok (.aload_n 0, 1) := by decide +kernel
theorem dX8_count_135 : decode cX8_count 135 = .ok (.getfield 23, 3) := by decide +kernel
theorem dX8_count_138 : decode cX8_count 138 = .ok (.invokevirtual 151, 3) := by decide +kernel
theorem dX8_count_141 : decode cX8_count 141 = .ok (.ireturn, 1) := by decide +kernel
theorem dX8_count_142 : decode cX8_count 142 = .ok (.new 154, 3) := by decide +kernel
theorem dX8_count_145 : decode cX8_count 145 = .ok (.dup, 1) := by decide +kernel
theorem dX8_count_146 : decode cX8_count 146 = .ok (.invokespecial 156, 3) := by decide +kernel
theorem dX8_count_149 : decode cX8_count 149 = .ok (.athrow, 1) := by decide +kernel
theorem dX8_unit_0 : decode cX8_unit 0 = .ok (.aload_n 0, 1) := by decide +kernel
theorem dX8_unit_1 : decode cX8_unit 1 = .ok (.getfield 30, 3) := by decide +kernel
theorem dX8_unit_4 : decode cX8_unit 4 = .ok (.getfield 157, 3) := by decide +kernel
theorem dX8_unit_7 : decode cX8_unit 7 = .ok (.lreturn, 1) := by decide +kernel
set_option maxRecDepth 20000 in
theorem ggX8_support_X8_pairNumber : GoodIn wsX8_support wsX8_pairNumber := goodIn_ca (goodIn_ca (goodIn_r _ [7, 8, 9, 10, 6, 11, 12, 13, 14, 15, 16, 17, 18, 19, 20, 21, 22, 23, 24, 25, 26, 27, 28, 29, 30, 31, 32, 33, 34, 35, 36, 57, 58, 59] (by decide +kernel) (by decide +kernel)) (goodIn_sub (fun _ h => List.mem_cons_of_mem _ (List.mem_append_left _ (List.mem_append_right _ h))) (by decide +kernel))) (goodIn_sub (fun _ h => List.mem_cons_of_mem _ (List.mem_append_right _ h)) (by decide +kernel))
set_option maxRecDepth 20000 in
theorem gX8_support_X8_pairNumber : GoodIn wsX8_support (wsV RX8 161 RX8 yX8_pairNumber wsX8_pairNumber) := goodIn_app (goodIn_of _ (by decide +kernel)) ggX8_support_X8_pairNumber
theorem dX8_support_0 : decode cX8_support 0 = .ok (.aload_n 0, 1) := by decide +kernel
theorem dX8_support_1 : decode cX8_support 1 = .ok (.aload_n 0, 1) := by decide +kernel
theorem dX8_support_2 : decode cX8_support 2 = .ok (.getfield 23, 3) := by decide +kernel
theorem dX8_support_5 : decode cX8_support 5 = .ok (.getfield 85, 3) := by decide +kernel
theorem dX8_support_8 : decode cX8_support 8 = .ok (.iload_n 1, 1) := by decide +kernel
theorem dX8_support_9 : decode cX8_support 9 = .ok (.iload_n 2, 1) := by decide +kernel
theorem dX8_support_10 : decode cX8_support 10 = .ok (.invokevirtual 161, 3) := by decide +kernel
theorem dX8_support_13 : decode cX8_support 13 = .ok (.ireturn, 1) := by decide +kernel
set_option maxRecDepth 20000 in
theorem ggX8_hinge_X8_pairNumber : GoodIn wsX8_hinge wsX8_pairNumber := goodIn_ca (goodIn_ca (goodIn_r _ [7, 8, 9, 10, 6, 11, 12, 13, 14, 15, 16, 17, 18, 19, 20, 21, 22, 23, 24, 25, 26, 27, 28, 29, 30, 31, 32, 33, 34, 35, 36, 57, 58, 59] (by decide +kernel) (by decide +kernel)) (goodIn_sub (fun _ h => List.mem_cons_of_mem _ (List.mem_append_left _ (List.mem_append_right _ h))) (by decide +kernel))) (goodIn_sub (fun _ h => List.mem_cons_of_mem _ (List.mem_append_right _ h)) (by decide +kernel))
set_option maxRecDepth 20000 in
theorem gX8_hinge_X8_pairNumber : GoodIn wsX8_hinge (wsV RX8 161 RX8 yX8_pairNumber wsX8_pairNumber) := goodIn_app (goodIn_of _ (by decide +kernel)) ggX8_hinge_X8_pairNumber
theorem dX8_hinge_0 : decode cX8_hinge 0 = .ok (.aload_n 0, 1) := by decide +kernel
theorem dX8_hinge_1 : decode cX8_hinge 1 = .ok (.aload_n 0, 1) := by decide +kernel
theorem dX8_hinge_2 : decode cX8_hinge 2 = .ok (.getfield 23, 3) := by decide +kernel
theorem dX8_hinge_5 : decode cX8_hinge 5 = .ok (.getfield 138, 3) := by decide +kernel
theorem dX8_hinge_8 : decode cX8_hinge 8 = .ok (.iload_n 1, 1) := by decide +kernel
theorem dX8_hinge_9 : decode cX8_hinge 9 = .ok (.iconst 0, 1) := by decide +kernel
theorem dX8_hinge_10 : decode cX8_hinge 10 = .ok (.invokevirtual 161, 3) := by decide +kernel
theorem dX8_hinge_13 : decode cX8_hinge 13 = .ok (.ireturn, 1) := by decide +kernel
set_option maxRecDepth 20000 in
theorem ggX8_weight_X8_pairNumber : GoodIn wsX8_weight wsX8_pairNumber := goodIn_ca (goodIn_ca (goodIn_r _ [7, 8, 9, 10, 6, 11, 12, 13, 14, 15, 16, 17, 18, 19, 20, 21, 22, 23, 24, 25, 26, 27, 28, 29, 30, 31, 32, 33, 34, 35, 36, 57, 58, 59] (by decide +kernel) (by decide +kernel)) (goodIn_sub (fun _ h => List.mem_cons_of_mem _ (List.mem_append_left _ (List.mem_append_right _ h))) (by decide +kernel))) (goodIn_sub (fun _ h => List.mem_cons_of_mem _ (List.mem_append_right _ h)) (by decide +kernel))
set_option maxRecDepth 20000 in
theorem gX8_weight_X8_pairNumber : GoodIn wsX8_weight (wsV RX8 161 RX8 yX8_pairNumber wsX8_pairNumber) := goodIn_app (goodIn_of _ (by decide +kernel)) ggX8_weight_X8_pairNumber
theorem dX8_weight_0 : decode cX8_weight 0 = .ok (.aload_n 0, 1) := by decide +kernel
theorem dX8_weight_1 : decode cX8_weight 1 = .ok (.aload_n 0, 1) := by decide +kernel
theorem dX8_weight_2 : decode cX8_weight 2 = .ok (.getfield 23, 3) := by decide +kernel
theorem dX8_weight_5 : decode cX8_weight 5 = .ok (.getfield 141, 3) := by decide +kernel
theorem dX8_weight_8 : decode cX8_weight 8 = .ok (.iload_n 1, 1) := by decide +kernel
theorem dX8_weight_9 : decode cX8_weight 9 = .ok (.iload_n 2, 1) := by decide +kernel
theorem dX8_weight_10 : decode cX8_weight 10 = .ok (.invokevirtual 161, 3) := by decide +kernel
theorem dX8_weight_13 : decode cX8_weight 13 = .ok (.ireturn, 1) := by decide +kernel
set_option maxRecDepth 20000 in
theorem ggX8_axle_X8_pairNumber : GoodIn wsX8_axle wsX8_pairNumber := goodIn_ca (goodIn_ca (goodIn_r _ [7, 8, 9, 10, 6, 11, 12, 13, 14, 15, 16, 17, 18, 19, 20, 21, 22, 23, 24, 25, 26, 27, 28, 29, 30, 31, 32, 33, 34, 35, 36, 57, 58, 59] (by decide +kernel) (by decide +kernel)) (goodIn_sub (fun _ h => List.mem_cons_of_mem _ (List.mem_append_left _ (List.mem_append_right _ h))) (by decide +kernel))) (goodIn_sub (fun _ h => List.mem_cons_of_mem _ (List.mem_append_right _ h)) (by decide +kernel))
set_option maxRecDepth 20000 in
theorem gX8_axle_X8_pairNumber : GoodIn wsX8_axle (wsV RX8 161 RX8 yX8_pairNumber wsX8_pairNumber) := goodIn_app (goodIn_of _ (by decide +kernel)) ggX8_axle_X8_pairNumber
theorem dX8_axle_0 : decode cX8_axle 0 = .ok (.aload_n 0, 1) := by decide +kernel
theorem dX8_axle_1 : decode cX8_axle 1 = .ok (.aload_n 0, 1) := by decide +kernel
theorem dX8_axle_2 : decode cX8_axle 2 = .ok (.getfield 23, 3) := by decide +kernel
theorem dX8_axle_5 : decode cX8_axle 5 = .ok (.getfield 144, 3) := by decide +kernel
theorem dX8_axle_8 : decode cX8_axle 8 = .ok (.iload_n 1, 1) := by decide +kernel
theorem dX8_axle_9 : decode cX8_axle 9 = .ok (.iload_n 2, 1) := by decide +kernel
theorem dX8_axle_10 : decode cX8_axle 10 = .ok (.invokevirtual 161, 3) := by decide +kernel
theorem dX8_axle_13 : decode cX8_axle 13 = .ok (.ireturn, 1) := by decide +kernel
set_option maxRecDepth 20000 in
theorem ggX8_part_X8_needPlace : GoodIn wsX8_part wsX8_needPlace := goodIn_ca (goodIn_r _ [7, 8, 9, 1, 10, 11, 12, 13, 14, 15, 23, 24, 25, 26, 27, 28, 29, 30, 31, 32, 33, 34, 35, 36, 37, 38, 39, 40, 41, 42] (by decide +kernel) (by decide +kernel)) (goodIn_sub (fun _ h => List.mem_cons_of_mem _ (List.mem_append_right _ h)) (by decide +kernel))
set_option maxRecDepth 20000 in
theorem gX8_part_X8_needPlace : GoodIn wsX8_part (wsV RX8 165 RX8 yX8_needPlace wsX8_needPlace) := goodIn_app (goodIn_of _ (by decide +kernel)) ggX8_part_X8_needPlace
set_option maxRecDepth 20000 in
theorem ggX8_part_X6_countUpTo : GoodIn wsX8_part wsX6_countUpTo := goodIn_r _ [20, 21, 22, 43, 44, 45] (by decide +kernel) (by decide +kernel)
set_option maxRecDepth 20000 in
theorem gX8_part_X6_countUpTo : GoodIn wsX8_part (wsV RX8 168 RX6 yX6_countUpTo wsX6_countUpTo) := goodIn_app (goodIn_of _ (by decide +kernel)) ggX8_part_X6_countUpTo
theorem dX8_part_0 : decode cX8_part 0 = .ok (.aload_n 0, 1) := by decide +kernel
theorem dX8_part_1 : decode cX8_part 1 = .ok (.iload_n 1, 1) := by decide +kernel
theorem dX8_part_2 : decode cX8_part 2 = .ok (.invokevirtual 165, 3) := by decide +kernel
theorem dX8_part_5 : decode cX8_part 5 = .ok (.aload_n 0, 1) := by decide +kernel
theorem dX8_part_6 : decode cX8_part 6 = .ok (.getfield 23, 3) := by decide +kernel
theorem dX8_part_9 : decode cX8_part 9 = .ok (.getfield 138, 3) := by decide +kernel
theorem dX8_part_12 : decode cX8_part 12 = .ok (.iload_n 1, 1) := by decide +kernel
theorem dX8_part_13 : decode cX8_part 13 = .ok (.invokevirtual 168, 3) := by decide +kernel
theorem dX8_part_16 : decode cX8_part 16 = .ok (.ireturn, 1) := by decide +kernel
set_option maxRecDepth 20000 in
theorem ggX8_reactionLine_X8_needNumber : GoodIn wsX8_reactionLine wsX8_needNumber := goodIn_ca (goodIn_r _ [8, 9, 10, 11, 12, 13, 14, 15, 16, 17, 18, 57, 58, 59] (by decide +kernel) (by decide +kernel)) (goodIn_sub (fun _ h => List.mem_cons_of_mem _ (List.mem_append_right _ h)) (by decide +kernel))
set_option maxRecDepth 20000 in
theorem gX8_reactionLine_X8_needNumber : GoodIn wsX8_reactionLine (wsV RX8 171 RX8 yX8_needNumber wsX8_needNumber) := goodIn_app (goodIn_of _ (by decide +kernel)) ggX8_reactionLine_X8_needNumber
set_option maxRecDepth 20000 in
theorem ggX8_reactionLine_X8_needPlace : GoodIn wsX8_reactionLine wsX8_needPlace := goodIn_ca (goodIn_r _ [22, 9, 10, 1, 23, 24, 25, 26, 27, 28, 37, 38, 39, 40, 41, 42, 43, 44, 45, 46, 47, 48, 49, 50, 51, 52, 53, 54, 55, 56] (by decide +kernel) (by decide +kernel)) (goodIn_sub (fun _ h => List.mem_cons_of_mem _ (List.mem_append_right _ h)) (by decide +kernel))
set_option maxRecDepth 20000 in
theorem gX8_reactionLine_X8_needPlace : GoodIn wsX8_reactionLine (wsV RX8 165 RX8 yX8_needPlace wsX8_needPlace) := goodIn_app (goodIn_of _ (by decide +kernel)) ggX8_reactionLine_X8_needPlace
set_option maxRecDepth 20000 in
theorem ggX8_reactionLine_X3_at : GoodIn wsX8_reactionLine wsX3_at := goodIn_r _ [33, 34, 35, 36, 60, 61, 62, 63, 64] (by decide +kernel) (by decide +kernel)
set_option maxRecDepth 20000 in
theorem gX8_reactionLine_X3_at : GoodIn wsX8_reactionLine (wsV RX8 175 RX3 yX3_at wsX3_at) := goodIn_app (goodIn_of _ (by decide +kernel)) ggX8_reactionLine_X3_at
theorem dX8_reactionLine_0 : decode cX8_reactionLine 0 = .ok (.aload_n 0, 1) := by decide +kernel
theorem dX8_reactionLine_1 : decode cX8_reactionLine 1 = .ok (.aload_n 0, 1) := by decide +kernel
theorem dX8_reactionLine_2 : decode cX8_reactionLine 2 = .ok (.getfield 23, 3) := by decide +kernel
theorem dX8_reactionLine_5 : decode cX8_reactionLine 5 = .ok (.getfield 85, 3) := by decide +kernel
theorem dX8_reactionLine_8 : decode cX8_reactionLine 8 = .ok (.iload_n 1, 1) := by decide +kernel
theorem dX8_reactionLine_9 : decode cX8_reactionLine 9 = .ok (.invokevirtual 171, 3) := by decide +kernel
theorem dX8_reactionLine_12 : decode cX8_reactionLine 12 = .ok (.aload_n 0, 1) := by decide +kernel
theorem dX8_reactionLine_13 : decode cX8_reactionLine 13 = .ok (.iload_n 2, 1) := by decide +kernel
theorem dX8_reactionLine_14 : decode cX8_reactionLine 14 = .ok (.invokevirtual 165, 3) := by decide +kernel
theorem dX8_reactionLine_17 : decode cX8_reactionLine 17 = .ok (.aload_n 0, 1) := by decide +kernel
theorem dX8_reactionLine_18 : decode cX8_reactionLine 18 = .ok (.getfield 30, 3) := by decide +kernel
theorem dX8_reactionLine_21 : decode cX8_reactionLine 21 = .ok (.iload_n 1, 1) := by decide +kernel
theorem dX8_reactionLine_22 : decode cX8_reactionLine 22 = .ok (.iload_n 2, 1) := by decide +kernel
theorem dX8_reactionLine_23 : decode cX8_reactionLine 23 = .ok (.invokevirtual 175, 3) := by decide +kernel
theorem dX8_reactionLine_26 : decode cX8_reactionLine 26 = .ok (.lreturn, 1) := by decide +kernel
set_option maxRecDepth 20000 in
theorem ggX8_shearLine_X8_needField : GoodIn wsX8_shearLine wsX8_needField := goodIn_ca (goodIn_r _ [8, 9, 10, 2, 11, 85, 86, 87, 88, 89, 90, 91, 92, 93, 94, 95, 96, 97, 98, 99, 100, 101, 102, 103, 104] (by decide +kernel) (by decide +kernel)) (goodIn_sub (fun _ h => List.mem_cons_of_mem _ (List.mem_append_right _ h)) (by decide +kernel))
set_option maxRecDepth 20000 in
theorem gX8_shearLine_X8_needField : GoodIn wsX8_shearLine (wsV RX8 179 RX8 yX8_needField wsX8_needField) := goodIn_app (goodIn_of _ (by decide +kernel)) ggX8_shearLine_X8_needField
set_option maxRecDepth 20000 in
theorem ggX8_shearLine_X8_needPlace : GoodIn wsX8_shearLine wsX8_needPlace := goodIn_ca (goodIn_r _ [15, 9, 10, 2, 16, 17, 18, 19, 20, 21, 85, 86, 87, 88, 89, 90, 91, 92, 93, 94, 95, 96, 97, 98, 99, 100, 101, 102, 103, 104] (by decide +kernel) (by decide +kernel)) (goodIn_sub (fun _ h => List.mem_cons_of_mem _ (List.mem_append_right _ h)) (by decide +kernel))
set_option maxRecDepth 20000 in
theorem gX8_shearLine_X8_needPlace : GoodIn wsX8_shearLine (wsV RX8 165 RX8 yX8_needPlace wsX8_needPlace) := goodIn_app (goodIn_of _ (by decide +kernel)) ggX8_shearLine_X8_needPlace
set_option maxRecDepth 20000 in
theorem ggX8_shearLine_X1_underOne : GoodIn wsX8_shearLine wsX1_underOne := goodIn_r _ [26, 27, 28, 29, 25, 30, 31, 32, 33, 34, 35, 36, 37, 38, 17, 18, 19, 20, 21, 39, 40, 41, 42, 43, 44, 45, 46, 47, 48, 49, 50, 51, 52, 53, 54, 55, 56, 57, 58, 59, 60, 61, 62, 63, 64, 65, 66, 67, 68, 69, 70, 71, 72, 73, 74, 75, 76, 77, 78, 79, 80, 105, 106, 107, 108, 109, 99, 100, 101, 102, 103, 104, 110, 111, 112, 113, 114, 115, 116, 117] (by decide +kernel) (by decide +kernel)
set_option maxRecDepth 20000 in
theorem gX8_shearLine_X1_underOne : GoodIn wsX8_shearLine (wsV RX8 182 RX1 yX1_underOne wsX1_underOne) := goodIn_app (goodIn_of _ (by decide +kernel)) ggX8_shearLine_X1_underOne
set_option maxRecDepth 20000 in
theorem ggX8_shearLine_X1_shearIn : GoodIn wsX8_shearLine wsX1_shearIn := goodIn_r _ [84, 63, 105, 106, 107, 108, 109] (by decide +kernel) (by decide +kernel)
set_option maxRecDepth 20000 in
theorem gX8_shearLine_X1_shearIn : GoodIn wsX8_shearLine (wsV RX8 186 RX1 yX1_shearIn wsX1_shearIn) := goodIn_app (goodIn_of _ (by decide +kernel)) ggX8_shearLine_X1_shearIn
theorem dX8_shearLine_0 : decode cX8_shearLine 0 = .ok (.aload_n 0, 1) := by decide +kernel
theorem dX8_shearLine_1 : decode cX8_shearLine 1 = .ok (.iload_n 1, 1) := by decide +kernel
theorem dX8_shearLine_2 : decode cX8_shearLine 2 = .ok (.invokevirtual 179, 3) := by decide +kernel
theorem dX8_shearLine_5 : decode cX8_shearLine 5 = .ok (.aload_n 0, 1) := by decide +kernel
theorem dX8_shearLine_6 : decode cX8_shearLine 6 = .ok (.iload_n 2, 1) := by decide +kernel
theorem dX8_shearLine_7 : decode cX8_shearLine 7 = .ok (.invokevirtual 165, 3) := by decide +kernel
theorem dX8_shearLine_10 : decode cX8_shearLine 10 = .ok (.aload_n 0, 1) := by decide +kernel
theorem dX8_shearLine_11 : decode cX8_shearLine 11 = .ok (.getfield 43, 3) := by decide +kernel
theorem dX8_shearLine_14 : decode cX8_shearLine 14 = .ok (.aload_n 0, 1) := by decide +kernel
theorem dX8_shearLine_15 : decode cX8_shearLine 15 = .ok (.getfield 23, 3) := by decide +kernel
theorem dX8_shearLine_18 : decode cX8_shearLine 18 = .ok (.aload_n 0, 1) := by decide +kernel
theorem dX8_shearLine_19 : decode cX8_shearLine 19 = .ok (.getfield 30, 3) := by decide +kernel
theorem dX8_shearLine_22 : decode cX8_shearLine 22 = .ok (.iload_n 2, 1) := by decide +kernel
theorem dX8_shearLine_23 : decode cX8_shearLine 23 = .ok (.invokevirtual 182, 3) := by decide +kernel
theorem dX8_shearLine_26 : decode cX8_shearLine 26 = .ok (.aload_n 0, 1) := by decide +kernel
theorem dX8_shearLine_27 : decode cX8_shearLine 27 = .ok (.getfield 43, 3) := by decide +kernel
theorem dX8_shearLine_30 : decode cX8_shearLine 30 = .ok (.iload_n 1, 1) := by decide +kernel
theorem dX8_shearLine_31 : decode cX8_shearLine 31 = .ok (.invokevirtual 186, 3) := by decide +kernel
theorem dX8_shearLine_34 : decode cX8_shearLine 34 = .ok (.lreturn, 1) := by decide +kernel
set_option maxRecDepth 20000 in
theorem ggX8_momentLine_X8_needPlace : GoodIn wsX8_momentLine wsX8_needPlace := goodIn_ca (goodIn_r _ [5, 6, 7, 8, 9, 10, 11, 12, 13, 14, 84, 85, 86, 87, 88, 89, 90, 91, 92, 93, 94, 95, 96, 97, 98, 99, 100, 101, 102, 103] (by decide +kernel) (by decide +kernel)) (goodIn_sub (fun _ h => List.mem_cons_of_mem _ (List.mem_append_right _ h)) (by decide +kernel))
set_option maxRecDepth 20000 in
theorem gX8_momentLine_X8_needPlace : GoodIn wsX8_momentLine (wsV RX8 165 RX8 yX8_needPlace wsX8_needPlace) := goodIn_app (goodIn_of _ (by decide +kernel)) ggX8_momentLine_X8_needPlace
set_option maxRecDepth 20000 in
theorem ggX8_momentLine_X8_influenceOnMoment : GoodIn wsX8_momentLine wsX8_influenceOnMoment := goodIn_r _ [18, 19, 8, 20, 21, 22, 23, 24, 25, 26, 27, 28, 29, 30, 31, 32, 33, 34, 35, 36, 37, 10, 11, 12, 13, 14, 38, 39, 40, 41, 42, 43, 44, 45, 46, 47, 48, 49, 50, 51, 52, 53, 54, 55, 56, 57, 58, 59, 60, 61, 62, 63, 64, 65, 66, 67, 68, 69, 70, 71, 72, 73, 74, 75, 76, 77, 78, 79, 80, 81, 82, 83, 84, 85, 86, 87, 88, 89, 90, 91, 92, 93, 94, 95, 96, 97, 104, 105, 106, 107, 108, 98, 99, 100, 101, 102, 103, 109, 110, 111, 112, 113, 114, 115, 116] (by decide +kernel) (by decide +kernel)
set_option maxRecDepth 20000 in
theorem gX8_momentLine_X8_influenceOnMoment : GoodIn wsX8_momentLine (wsV RX8 190 RX8 yX8_influenceOnMoment wsX8_influenceOnMoment) := goodIn_app (goodIn_of _ (by decide +kernel)) ggX8_momentLine_X8_influenceOnMoment
theorem dX8_momentLine_0 : decode cX8_momentLine 0 = .ok (.aload_n 0, 1) := by decide +kernel
theorem dX8_momentLine_1 : decode cX8_momentLine 1 = .ok (.iload_n 1, 1) := by decide +kernel
theorem dX8_momentLine_2 : decode cX8_momentLine 2 = .ok (.invokevirtual 165, 3) := by decide +kernel
theorem dX8_momentLine_5 : decode cX8_momentLine 5 = .ok (.aload_n 0, 1) := by decide +kernel
theorem dX8_momentLine_6 : decode cX8_momentLine 6 = .ok (.iload_n 2, 1) := by decide +kernel
theorem dX8_momentLine_7 : decode cX8_momentLine 7 = .ok (.invokevirtual 165, 3) := by decide +kernel
theorem dX8_momentLine_10 : decode cX8_momentLine 10 = .ok (.aload_n 0, 1) := by decide +kernel
theorem dX8_momentLine_11 : decode cX8_momentLine 11 = .ok (.iload_n 1, 1) := by decide +kernel
theorem dX8_momentLine_12 : decode cX8_momentLine 12 = .ok (.iload_n 2, 1) := by decide +kernel
theorem dX8_momentLine_13 : decode cX8_momentLine 13 = .ok (.invokevirtual 190, 3) := by decide +kernel
theorem dX8_momentLine_16 : decode cX8_momentLine 16 = .ok (.lreturn, 1) := by decide +kernel
set_option maxRecDepth 20000 in
theorem ggX8_area_X8_needPlace : GoodIn wsX8_area wsX8_needPlace := goodIn_ca (goodIn_r _ [7, 8, 9, 1, 10, 11, 12, 13, 14, 15, 85, 86, 87, 88, 89, 90, 91, 92, 93, 94, 95, 96, 97, 98, 99, 100, 101, 102, 103, 104] (by decide +kernel) (by decide +kernel)) (goodIn_sub (fun _ h => List.mem_cons_of_mem _ (List.mem_append_right _ h)) (by decide +kernel))
set_option maxRecDepth 20000 in
theorem gX8_area_X8_needPlace : GoodIn wsX8_area (wsV RX8 165 RX8 yX8_needPlace wsX8_needPlace) := goodIn_app (goodIn_of _ (by decide +kernel)) ggX8_area_X8_needPlace
set_option maxRecDepth 20000 in
theorem ggX8_area_X8_influenceOnMoment : GoodIn wsX8_area wsX8_influenceOnMoment := goodIn_r _ [19, 20, 1, 21, 22, 23, 24, 25, 26, 27, 28, 29, 30, 31, 32, 33, 34, 35, 36, 37, 38, 11, 12, 13, 14, 15, 39, 40, 41, 42, 43, 44, 45, 46, 47, 48, 49, 50, 51, 52, 53, 54, 55, 56, 57, 58, 59, 60, 61, 62, 63, 64, 65, 66, 67, 68, 69, 70, 71, 72, 73, 74, 75, 76, 77, 78, 79, 80, 81, 82, 83, 84, 85, 86, 87, 88, 89, 90, 91, 92, 93, 94, 95, 96, 97, 98, 105, 106, 107, 108, 109, 99, 100, 101, 102, 103, 104, 110, 111, 112, 113, 114, 115, 116, 117] (by decide +kernel) (by decide +kernel)
set_option maxRecDepth 20000 in
theorem gX8_area_X8_influenceOnMoment : GoodIn wsX8_area (wsV RX8 190 RX8 yX8_influenceOnMoment wsX8_influenceOnMoment) := goodIn_app (goodIn_of _ (by decide +kernel)) ggX8_area_X8_influenceOnMoment
theorem dX8_area_0 : decode cX8_area 0 = .ok (.aload_n 0, 1) := by decide +kernel
theorem dX8_area_1 : decode cX8_area 1 = .ok (.iload_n 1, 1) := by decide +kernel
theorem dX8_area_2 : decode cX8_area 2 = .ok (.invokevirtual 165, 3) := by decide +kernel
theorem dX8_area_5 : decode cX8_area 5 = .ok (.lconst 0, 1) := by decide +kernel
theorem dX8_area_6 : decode cX8_area 6 = .ok (.lstore_n 2, 1) := by decide +kernel
theorem dX8_area_7 : decode cX8_area 7 = .ok (.iconst 0, 1) := by decide +kernel
theorem dX8_area_8 : decode cX8_area 8 = .ok (.istore 4, 2) := by decide +kernel
theorem dX8_area_10 : decode cX8_area 10 = .ok (.iload 4, 2) := by decide +kernel
theorem dX8_area_12 : decode cX8_area 12 = .ok (.aload_n 0, 1) := by decide +kernel
theorem dX8_area_13 : decode cX8_area 13 = .ok (.getfield 23, 3) := by decide +kernel
theorem dX8_area_16 : decode cX8_area 16 = .ok (.getfield 79, 3) := by decide +kernel
theorem dX8_area_19 : decode cX8_area 19 = .ok (.if_icmp .gt 19, 3) := by decide +kernel
theorem dX8_area_22 : decode cX8_area 22 = .ok (.lload_n 2, 1) := by decide +kernel
theorem dX8_area_23 : decode cX8_area 23 = .ok (.aload_n 0, 1) := by decide +kernel
theorem dX8_area_24 : decode cX8_area 24 = .ok (.iload_n 1, 1) := by decide +kernel
theorem dX8_area_25 : decode cX8_area 25 = .ok (.iload 4, 2) := by decide +kernel
theorem dX8_area_27 : decode cX8_area 27 = .ok (.invokevirtual 190, 3) := by decide +kernel
theorem dX8_area_30 : decode cX8_area 30 = .ok (.ladd, 1) := by decide +kernel
theorem dX8_area_31 : decode cX8_area 31 = .ok (.lstore_n 2, 1) := by decide +kernel
theorem dX8_area_32 : decode cX8_area 32 = .ok (.iinc 4 1, 3) := by decide +kernel
theorem dX8_area_35 : decode cX8_area 35 = .ok (.goto (-25), 3) := by decide +kernel
theorem dX8_area_38 : decode cX8_area 38 = .ok (.lload_n 2, 1) := by decide +kernel
theorem dX8_area_39 : decode cX8_area 39 = .ok (.lreturn, 1) := by decide +kernel
set_option maxRecDepth 20000 in
theorem ggX8_still_X8_needPlace : GoodIn wsX8_still wsX8_needPlace := goodIn_ca (goodIn_r _ [7, 8, 9, 1, 10, 11, 12, 13, 14, 15, 85, 86, 87, 88, 89, 90, 91, 92, 93, 94, 95, 96, 97, 98, 99, 100, 101, 102, 103, 104] (by decide +kernel) (by decide +kernel)) (goodIn_sub (fun _ h => List.mem_cons_of_mem _ (List.mem_append_right _ h)) (by decide +kernel))
set_option maxRecDepth 20000 in
theorem gX8_still_X8_needPlace : GoodIn wsX8_still (wsV RX8 165 RX8 yX8_needPlace wsX8_needPlace) := goodIn_app (goodIn_of _ (by decide +kernel)) ggX8_still_X8_needPlace
set_option maxRecDepth 20000 in
theorem ggX8_still_X8_influenceOnMoment : GoodIn wsX8_still wsX8_influenceOnMoment := goodIn_r _ [19, 20, 1, 21, 22, 23, 24, 25, 26, 27, 28, 29, 30, 31, 32, 33, 34, 35, 36, 37, 38, 11, 12, 13, 14, 15, 39, 40, 41, 42, 43, 44, 45, 46, 47, 48, 49, 50, 51, 52, 53, 54, 55, 56, 57, 58, 59, 60, 61, 62, 63, 64, 65, 66, 67, 68, 69, 70, 71, 72, 73, 74, 75, 76, 77, 78, 79, 80, 81, 82, 83, 84, 85, 86, 87, 88, 89, 90, 91, 92, 93, 94, 95, 96, 97, 98, 105, 106, 107, 108, 109, 99, 100, 101, 102, 103, 104, 110, 111, 112, 113, 114, 115, 116, 117] (by decide +kernel) (by decide +kernel)
set_option maxRecDepth 20000 in
theorem gX8_still_X8_influenceOnMoment : GoodIn wsX8_still (wsV RX8 190 RX8 yX8_influenceOnMoment wsX8_influenceOnMoment) := goodIn_app (goodIn_of _ (by decide +kernel)) ggX8_still_X8_influenceOnMoment
theorem dX8_still_0 : decode cX8_still 0 = .ok (.aload_n 0, 1) := by decide +kernel
theorem dX8_still_1 : decode cX8_still 1 = .ok (.iload_n 1, 1) := by decide +kernel
theorem dX8_still_2 : decode cX8_still 2 = .ok (.invokevirtual 165, 3) := by decide +kernel
theorem dX8_still_5 : decode cX8_still 5 = .ok (.iconst 0, 1) := by decide +kernel
theorem dX8_still_6 : decode cX8_still 6 = .ok (.istore_n 2, 1) := by decide +kernel
theorem dX8_still_7 : decode cX8_still 7 = .ok (.iconst 0, 1) := by decide +kernel
theorem dX8_still_8 : decode cX8_still 8 = .ok (.istore_n 3, 1) := by decide +kernel
theorem dX8_still_9 : decode cX8_still 9 = .ok (.iload_n 3, 1) := by decide +kernel
theorem dX8_still_10 : decode cX8_still 10 = .ok (.aload_n 0, 1) := by decide +kernel
theorem dX8_still_11 : decode cX8_still 11 = .ok (.getfield 23, 3) := by decide +kernel
theorem dX8_still_14 : decode cX8_still 14 = .ok (.getfield 79, 3) := by decide +kernel
theorem dX8_still_17 : decode cX8_still 17 = .ok (.if_icmp .gt 26, 3) := by decide +kernel
theorem dX8_still_20 : decode cX8_still 20 = .ok (.aload_n 0, 1) := by decide +kernel
theorem dX8_still_21 : decode cX8_still 21 = .ok (.iload_n 1, 1) := by decide +kernel
theorem dX8_still_22 : decode cX8_still 22 = .ok (.iload_n 3, 1) := by decide +kernel
theorem dX8_still_23 : decode cX8_still 23 = .ok (.invokevirtual 190, 3) := by decide +kernel
theorem dX8_still_26 : decode cX8_still 26 = .ok (.lconst 0, 1) := by decide +kernel
theorem dX8_still_27 : decode cX8_still 27 = .ok (.lcmp, 1) := by decide +kernel
theorem dX8_still_28 : decode cX8_still 28 = .ok (.ifCond .ne 9, 3) := by decide +kernel
theorem dX8_still_31 : decode cX8_still 31 = .ok (.iload_n 2, 1) := by decide +kernel
theorem dX8_still_32 : decode cX8_still 32 = .ok (.iconst 1, 1) := by decide +kernel
theorem dX8_still_33 : decode cX8_still 33 = .ok (.iload_n 3, 1) := by decide +kernel
theorem dX8_still_34 : decode cX8_still 34 = .ok (.ishl, 1) := by decide +kernel
theorem dX8_still_35 : decode cX8_still 35 = .ok (.ior, 1) := by decide +kernel
theorem dX8_still_36 : decode cX8_still 36 = .ok (.istore_n 2, 1) := by decide +kernel
theorem dX8_still_37 : decode cX8_still 37 = .ok (.iinc 3 1, 3) := by decide +kernel
theorem dX8_still_40 : decode cX8_still 40 = .ok (.goto (-31), 3) := by decide +kernel
theorem dX8_still_43 : decode cX8_still 43 = .ok (.iload_n 2, 1) := by decide +kernel
theorem dX8_still_44 : decode cX8_still 44 = .ok (.ireturn, 1) := by decide +kernel
set_option maxRecDepth 20000 in
theorem ggX8_gap_X8_needPlace : GoodIn wsX8_gap wsX8_needPlace := goodIn_ca (goodIn_r _ [5, 6, 7, 8, 9, 10, 11, 12, 13, 14, 93, 94, 95, 96, 97, 98, 99, 100, 101, 102, 103, 104, 105, 106, 107, 108, 109, 110, 111, 112] (by decide +kernel) (by decide +kernel)) (goodIn_sub (fun _ h => List.mem_cons_of_mem _ (List.mem_append_right _ h)) (by decide +kernel))
set_option maxRecDepth 20000 in
theorem gX8_gap_X8_needPlace : GoodIn wsX8_gap (wsV RX8 165 RX8 yX8_needPlace wsX8_needPlace) := goodIn_app (goodIn_of _ (by decide +kernel)) ggX8_gap_X8_needPlace
set_option maxRecDepth 20000 in
theorem ggX8_gap_X8_influenceOnMoment : GoodIn wsX8_gap wsX8_influenceOnMoment := goodIn_r _ [18, 19, 8, 20, 21, 22, 23, 24, 25, 26, 27, 28, 29, 30, 31, 32, 33, 34, 35, 36, 37, 10, 11, 12, 13, 14, 38, 39, 40, 41, 42, 43, 44, 45, 46, 47, 48, 49, 50, 51, 52, 53, 54, 55, 56, 57, 58, 59, 60, 61, 62, 63, 64, 65, 66, 67, 68, 69, 70, 71, 72, 73, 74, 75, 76, 77, 78, 79, 80, 81, 82, 83, 93, 94, 95, 96, 97, 98, 99, 100, 101, 102, 103, 104, 105, 106, 113, 114, 115, 116, 117, 107, 108, 109, 110, 111, 112, 118, 119, 120, 121, 122, 123, 124, 125] (by decide +kernel) (by decide +kernel)
set_option maxRecDepth 20000 in
theorem gX8_gap_X8_influenceOnMoment : GoodIn wsX8_gap (wsV RX8 190 RX8 yX8_influenceOnMoment wsX8_influenceOnMoment) := goodIn_app (goodIn_of _ (by decide +kernel)) ggX8_gap_X8_influenceOnMoment
set_option maxRecDepth 20000 in
theorem ggX8_gap_X8_influenceFromRight : GoodIn wsX8_gap wsX8_influenceFromRight := goodIn_r _ [87, 8, 88, 89, 20, 90, 91, 72, 73, 66, 74, 69, 75, 64, 65, 67, 68, 70, 92, 48, 49, 50, 51, 52, 53, 54, 93, 94, 95, 96, 97, 98, 99, 100, 101, 102, 103, 104, 105, 106, 107, 108, 109, 110, 111, 112, 123, 124, 125, 118, 119, 120, 121, 122] (by decide +kernel) (by decide +kernel)
set_option maxRecDepth 20000 in
theorem gX8_gap_X8_influenceFromRight : GoodIn wsX8_gap (wsV RX8 193 RX8 yX8_influenceFromRight wsX8_influenceFromRight) := goodIn_app (goodIn_of _ (by decide +kernel)) ggX8_gap_X8_influenceFromRight
theorem dX8_gap_0 : decode cX8_gap 0 = .ok (.aload_n 0, 1) := by decide +kernel
theorem dX8_gap_1 : decode cX8_gap 1 = .ok (.iload_n 1, 1) := by decide +kernel
theorem dX8_gap_2 : decode cX8_gap 2 = .ok (.invokevirtual 165, 3) := by decide +kernel
theorem dX8_gap_5 : decode cX8_gap 5 = .ok (.aload_n 0, 1) := by decide +kernel
theorem dX8_gap_6 : decode cX8_gap 6 = .ok (.iload_n 2, 1) := by decide +kernel
theorem dX8_gap_7 : decode cX8_gap 7 = .ok (.invokevirtual 165, 3) := by decide +kernel
theorem dX8_gap_10 : decode cX8_gap 10 = .ok (.aload_n 0, 1) := by decide +kernel
theorem dX8_gap_11 : decode cX8_gap 11 = .ok (.iload_n 1, 1) := by decide +kernel
theorem dX8_gap_12 : decode cX8_gap 12 = .ok (.iload_n 2, 1) := by decide +kernel
theorem dX8_gap_13 : decode cX8_gap 13 = .ok (.invokevirtual 190, 3) := by decide +kernel
theorem dX8_gap_16 : decode cX8_gap 16 = .ok (.aload_n 0, 1) := by decide +kernel
theorem dX8_gap_17 : decode cX8_gap 17 = .ok (.iload_n 1, 1) := by decide +kernel
theorem dX8_gap_18 : decode cX8_gap 18 = .ok (.iload_n 2, 1) := by decide +kernel
theorem dX8_gap_19 : decode cX8_gap 19 = .ok (.invokevirtual 193, 3) := by decide +kernel
theorem dX8_gap_22 : decode cX8_gap 22 = .ok (.lsub, 1) := by decide +kernel
theorem dX8_gap_23 : decode cX8_gap 23 = .ok (.lreturn, 1) := by decide +kernel
set_option maxRecDepth 20000 in
theorem ggX8_reaction_X8_needNumber : GoodIn wsX8_reaction wsX8_needNumber := goodIn_ca (goodIn_r _ [9, 10, 11, 12, 13, 14, 15, 16, 17, 18, 19, 134, 135, 136] (by decide +kernel) (by decide +kernel)) (goodIn_sub (fun _ h => List.mem_cons_of_mem _ (List.mem_append_left _ (List.mem_append_right _ h))) (by decide +kernel))
set_option maxRecDepth 20000 in
theorem gX8_reaction_X8_needNumber : GoodIn wsX8_reaction (wsV RX8 171 RX8 yX8_needNumber wsX8_needNumber) := goodIn_app (goodIn_of _ (by decide +kernel)) ggX8_reaction_X8_needNumber
set_option maxRecDepth 20000 in
theorem ggX8_reaction_X8_needHead : GoodIn wsX8_reaction wsX8_needHead := goodIn_ca (goodIn_r _ [23, 1, 24, 25, 26, 27, 28, 29, 30, 31, 32, 33, 34, 15, 35, 17, 36, 37, 38, 39, 40, 41, 42, 43, 19, 44, 13, 14, 16, 18, 45, 46, 47, 8, 48, 49, 50, 114, 115, 116, 117, 118, 119, 120, 121, 122, 123, 124, 125, 126, 127, 128, 129, 130, 131, 132, 133, 134, 135, 136] (by decide +kernel) (by decide +kernel)) (goodIn_sub (fun _ h => List.mem_cons_of_mem _ (List.mem_append_right _ h)) (by decide +kernel))
set_option maxRecDepth 20000 in
theorem gX8_reaction_X8_needHead : GoodIn wsX8_reaction (wsV RX8 196 RX8 yX8_needHead wsX8_needHead) := goodIn_app (goodIn_of _ (by decide +kernel)) ggX8_reaction_X8_needHead
set_option maxRecDepth 20000 in
theorem ggX8_reaction_X1_underAll : GoodIn wsX8_reaction wsX1_underAll := goodIn_r _ [55, 56, 57, 58, 59, 60, 54, 61, 62, 63, 64, 65, 66, 67, 15, 68, 18, 44, 13, 14, 16, 17, 19, 69, 41, 42, 43, 70, 71, 72, 73, 74, 75, 76, 27, 77, 31, 78, 79, 80, 81, 82, 83, 84, 85, 86, 87, 88, 89, 90, 91, 92, 93, 94, 95, 96, 97, 98, 99, 100, 101, 102, 103, 104, 105, 106, 107, 108, 109, 110, 111, 112, 128, 129, 130, 131, 132, 133, 134, 135, 136, 137, 138, 139, 140, 141, 142, 143, 144, 145, 146] (by decide +kernel) (by decide +kernel)
set_option maxRecDepth 20000 in
theorem gX8_reaction_X1_underAll : GoodIn wsX8_reaction (wsV RX8 199 RX1 yX1_underAll wsX1_underAll) := goodIn_app (goodIn_of _ (by decide +kernel)) ggX8_reaction_X1_underAll
set_option maxRecDepth 20000 in
theorem ggX8_reaction_X1_reactionOf : GoodIn wsX8_reaction wsX1_reactionOf := goodIn_r _ [112, 63, 137, 138, 139, 140, 141] (by decide +kernel) (by decide +kernel)
set_option maxRecDepth 20000 in
theorem gX8_reaction_X1_reactionOf : GoodIn wsX8_reaction (wsV RX8 202 RX1 yX1_reactionOf wsX1_reactionOf) := goodIn_app (goodIn_of _ (by decide +kernel)) ggX8_reaction_X1_reactionOf
theorem dX8_reaction_0 : decode cX8_reaction 0 = .ok (.aload_n 0, 1) := by decide +kernel
theorem dX8_reaction_1 : decode cX8_reaction 1 = .ok (.aload_n 0, 1) := by decide +kernel
theorem dX8_reaction_2 : decode cX8_reaction 2 = .ok (.getfield 23, 3) := by decide +kernel
theorem dX8_reaction_5 : decode cX8_reaction 5 = .ok (.getfield 85, 3) := by decide +kernel
theorem dX8_reaction_8 : decode cX8_reaction 8 = .ok (.iload_n 1, 1) := by decide +kernel
theorem dX8_reaction_9 : decode cX8_reaction 9 = .ok (.invokevirtual 171, 3) := by decide +kernel
theorem dX8_reaction_12 : decode cX8_reaction 12 = .ok (.aload_n 0, 1) := by decide +kernel
theorem dX8_reaction_13 : decode cX8_reaction 13 = .ok (.iload_n 2, 1) := by decide +kernel
theorem dX8_reaction_14 : decode cX8_reaction 14 = .ok (.invokevirtual 196, 3) := by decide +kernel
theorem dX8_reaction_17 : decode cX8_reaction 17 = .ok (.aload_n 0, 1) := by decide +kernel
theorem dX8_reaction_18 : decode cX8_reaction 18 = .ok (.getfield 43, 3) := by decide +kernel
theorem dX8_reaction_21 : decode cX8_reaction 21 = .ok (.aload_n 0, 1) := by decide +kernel
theorem dX8_reaction_22 : decode cX8_reaction 22 = .ok (.getfield 23, 3) := by decide +kernel
theorem dX8_reaction_25 : decode cX8_reaction 25 = .ok (.aload_n 0, 1) := by decide +kernel
theorem dX8_reaction_26 : decode cX8_reaction 26 = .ok (.getfield 30, 3) := by decide +kernel
theorem dX8_reaction_29 : decode cX8_reaction 29 = .ok (.iload_n 2, 1) := by decide +kernel
theorem dX8_reaction_30 : decode cX8_reaction 30 = .ok (.invokevirtual 199, 3) := by decide +kernel
theorem dX8_reaction_33 : decode cX8_reaction 33 = .ok (.aload_n 0, 1) := by decide +kernel
theorem dX8_reaction_34 : decode cX8_reaction 34 = .ok (.getfield 43, 3) := by decide +kernel
theorem dX8_reaction_37 : decode cX8_reaction 37 = .ok (.iload_n 1, 1) := by decide +kernel
theorem dX8_reaction_38 : decode cX8_reaction 38 = .ok (.invokevirtual 202, 3) := by decide +kernel
theorem dX8_reaction_41 : decode cX8_reaction 41 = .ok (.lreturn, 1) := by decide +kernel
set_option maxRecDepth 20000 in
theorem ggX8_shear_X8_needField : GoodIn wsX8_shear wsX8_needField := goodIn_ca (goodIn_r _ [8, 9, 10, 2, 11, 116, 117, 118, 119, 120, 121, 122, 123, 124, 125, 126, 127, 128, 129, 130, 131, 132, 133, 134, 135] (by decide +kernel) (by decide +kernel)) (goodIn_sub (fun _ h => List.mem_cons_of_mem _ (List.mem_append_left _ (List.mem_append_right _ h))) (by decide +kernel))
set_option maxRecDepth 20000 in
theorem gX8_shear_X8_needField : GoodIn wsX8_shear (wsV RX8 179 RX8 yX8_needField wsX8_needField) := goodIn_app (goodIn_of _ (by decide +kernel)) ggX8_shear_X8_needField
set_option maxRecDepth 20000 in
theorem ggX8_shear_X8_needHead : GoodIn wsX8_shear wsX8_needHead := goodIn_ca (goodIn_r _ [15, 2, 16, 17, 18, 19, 20, 21, 22, 23, 24, 25, 26, 27, 28, 29, 30, 31, 32, 33, 34, 35, 36, 37, 38, 39, 40, 41, 42, 43, 44, 45, 46, 7, 47, 48, 49, 116, 117, 118, 119, 120, 121, 122, 123, 124, 125, 126, 127, 128, 129, 130, 131, 132, 133, 134, 135, 136, 137, 138] (by decide +kernel) (by decide +kernel)) (goodIn_sub (fun _ h => List.mem_cons_of_mem _ (List.mem_append_right _ h)) (by decide +kernel))
set_option maxRecDepth 20000 in
theorem gX8_shear_X8_needHead : GoodIn wsX8_shear (wsV RX8 196 RX8 yX8_needHead wsX8_needHead) := goodIn_app (goodIn_of _ (by decide +kernel)) ggX8_shear_X8_needHead
set_option maxRecDepth 20000 in
theorem ggX8_shear_X1_underAll : GoodIn wsX8_shear wsX1_underAll := goodIn_r _ [54, 55, 56, 57, 58, 59, 53, 60, 61, 62, 63, 64, 65, 66, 27, 67, 43, 39, 40, 41, 42, 29, 38, 68, 35, 36, 37, 69, 70, 71, 72, 73, 74, 75, 19, 76, 23, 77, 78, 79, 80, 81, 82, 83, 84, 85, 86, 87, 88, 89, 90, 91, 92, 93, 94, 95, 96, 97, 98, 99, 100, 101, 102, 103, 104, 105, 106, 107, 108, 109, 110, 111, 130, 131, 132, 133, 134, 135, 136, 137, 138, 139, 140, 141, 142, 143, 144, 145, 146, 147, 148] (by decide +kernel) (by decide +kernel)
set_option maxRecDepth 20000 in
theorem gX8_shear_X1_underAll : GoodIn wsX8_shear (wsV RX8 199 RX1 yX1_underAll wsX1_underAll) := goodIn_app (goodIn_of _ (by decide +kernel)) ggX8_shear_X1_underAll
set_option maxRecDepth 20000 in
theorem ggX8_shear_X1_shearIn : GoodIn wsX8_shear wsX1_shearIn := goodIn_r _ [115, 106, 139, 140, 141, 142, 143] (by decide +kernel) (by decide +kernel)
set_option maxRecDepth 20000 in
theorem gX8_shear_X1_shearIn : GoodIn wsX8_shear (wsV RX8 186 RX1 yX1_shearIn wsX1_shearIn) := goodIn_app (goodIn_of _ (by decide +kernel)) ggX8_shear_X1_shearIn
theorem dX8_shear_0 : decode cX8_shear 0 = .ok (.aload_n 0, 1) := by decide +kernel
theorem dX8_shear_1 : decode cX8_shear 1 = .ok (.iload_n 1, 1) := by decide +kernel
theorem dX8_shear_2 : decode cX8_shear 2 = .ok (.invokevirtual 179, 3) := by decide +kernel
theorem dX8_shear_5 : decode cX8_shear 5 = .ok (.aload_n 0, 1) := by decide +kernel
theorem dX8_shear_6 : decode cX8_shear 6 = .ok (.iload_n 2, 1) := by decide +kernel
theorem dX8_shear_7 : decode cX8_shear 7 = .ok (.invokevirtual 196, 3) := by decide +kernel
theorem dX8_shear_10 : decode cX8_shear 10 = .ok (.aload_n 0, 1) := by decide +kernel
theorem dX8_shear_11 : decode cX8_shear 11 = .ok (.getfield 43, 3) := by decide +kernel
theorem dX8_shear_14 : decode cX8_shear 14 = .ok (.aload_n 0, 1) := by decide +kernel
theorem dX8_shear_15 : decode cX8_shear 15 = .ok (.getfield 23, 3) := by decide +kernel
theorem dX8_shear_18 : decode cX8_shear 18 = .ok (.aload_n 0, 1) := by decide +kernel
theorem dX8_shear_19 : decode cX8_shear 19 = .ok (.getfield 30, 3) := by decide +kernel
theorem dX8_shear_22 : decode cX8_shear 22 = .ok (.iload_n 2, 1) := by decide +kernel
theorem dX8_shear_23 : decode cX8_shear 23 = .ok (.invokevirtual 199, 3) := by decide +kernel
theorem dX8_shear_26 : decode cX8_shear 26 = .ok (.aload_n 0, 1) := by decide +kernel
theorem dX8_shear_27 : decode cX8_shear 27 = .ok (.getfield 43, 3) := by decide +kernel
theorem dX8_shear_30 : decode cX8_shear 30 = .ok (.iload_n 1, 1) := by decide +kernel
theorem dX8_shear_31 : decode cX8_shear 31 = .ok (.invokevirtual 186, 3) := by decide +kernel
theorem dX8_shear_34 : decode cX8_shear 34 = .ok (.lreturn, 1) := by decide +kernel
set_option maxRecDepth 20000 in
theorem ggX8_moment_X8_needPlace : GoodIn wsX8_moment wsX8_needPlace := goodIn_ca (goodIn_r _ [8, 9, 10, 2, 11, 12, 13, 14, 15, 16, 116, 117, 118, 119, 120, 121, 122, 123, 124, 125, 126, 127, 128, 129, 130, 131, 132, 133, 134, 135] (by decide +kernel) (by decide +kernel)) (goodIn_sub (fun _ h => List.mem_cons_of_mem _ (List.mem_append_left _ (List.mem_append_right _ h))) (by decide +kernel))
set_option maxRecDepth 20000 in
theorem gX8_moment_X8_needPlace : GoodIn wsX8_moment (wsV RX8 165 RX8 yX8_needPlace wsX8_needPlace) := goodIn_app (goodIn_of _ (by decide +kernel)) ggX8_moment_X8_needPlace
set_option maxRecDepth 20000 in
theorem ggX8_moment_X8_needHead : GoodIn wsX8_moment wsX8_needHead := goodIn_ca (goodIn_r _ [20, 2, 21, 22, 23, 14, 24, 25, 26, 16, 27, 28, 29, 30, 31, 32, 33, 34, 35, 36, 37, 38, 39, 40, 41, 42, 43, 44, 45, 46, 47, 48, 49, 7, 50, 51, 52, 116, 117, 118, 119, 120, 121, 122, 123, 124, 125, 126, 127, 128, 129, 130, 131, 132, 133, 134, 135, 136, 137, 138] (by decide +kernel) (by decide +kernel)) (goodIn_sub (fun _ h => List.mem_cons_of_mem _ (List.mem_append_right _ h)) (by decide +kernel))
set_option maxRecDepth 20000 in
theorem gX8_moment_X8_needHead : GoodIn wsX8_moment (wsV RX8 196 RX8 yX8_needHead wsX8_needHead) := goodIn_app (goodIn_of _ (by decide +kernel)) ggX8_moment_X8_needHead
set_option maxRecDepth 20000 in
theorem ggX8_moment_X1_underAll : GoodIn wsX8_moment wsX1_underAll := goodIn_r _ [57, 58, 59, 60, 61, 62, 56, 63, 64, 65, 66, 67, 68, 69, 30, 70, 46, 42, 43, 44, 45, 32, 41, 71, 38, 39, 40, 72, 73, 74, 75, 76, 12, 13, 14, 15, 16, 77, 78, 79, 80, 81, 82, 83, 84, 85, 86, 87, 88, 89, 90, 91, 92, 93, 94, 95, 96, 97, 98, 99, 100, 101, 102, 103, 104, 105, 106, 107, 108, 109, 110, 111, 130, 131, 132, 133, 134, 135, 136, 137, 138, 139, 140, 141, 142, 143, 144, 145, 146, 147, 148] (by decide +kernel) (by decide +kernel)
set_option maxRecDepth 20000 in
theorem gX8_moment_X1_underAll : GoodIn wsX8_moment (wsV RX8 199 RX1 yX1_underAll wsX1_underAll) := goodIn_app (goodIn_of _ (by decide +kernel)) ggX8_moment_X1_underAll
set_option maxRecDepth 20000 in
theorem ggX8_moment_X1_momentAt : GoodIn wsX8_moment wsX1_momentAt := goodIn_r _ [115, 105, 139, 140, 141, 142, 143] (by decide +kernel) (by decide +kernel)
set_option maxRecDepth 20000 in
theorem gX8_moment_X1_momentAt : GoodIn wsX8_moment (wsV RX8 205 RX1 yX1_momentAt wsX1_momentAt) := goodIn_app (goodIn_of _ (by decide +kernel)) ggX8_moment_X1_momentAt
theorem dX8_moment_0 : decode cX8_moment 0 = .ok (.aload_n 0, 1) := by decide +kernel
theorem dX8_moment_1 : decode cX8_moment 1 = .ok (.iload_n 1, 1) := by decide +kernel
theorem dX8_moment_2 : decode cX8_moment 2 = .ok (.invokevirtual 165, 3) := by decide +kernel
theorem dX8_moment_5 : decode cX8_moment 5 = .ok (.aload_n 0, 1) := by decide +kernel
theorem dX8_moment_6 : decode cX8_moment 6 = .ok (.iload_n 2, 1) := by decide +kernel
theorem dX8_moment_7 : decode cX8_moment 7 = .ok (.invokevirtual 196, 3) := by decide +kernel
theorem dX8_moment_10 : decode cX8_moment 10 = .ok (.aload_n 0, 1) := by decide +kernel
theorem dX8_moment_11 : decode cX8_moment 11 = .ok (.getfield 43, 3) := by decide +kernel
theorem dX8_moment_14 : decode cX8_moment 14 = .ok (.aload_n 0, 1) := by decide +kernel
theorem dX8_moment_15 : decode cX8_moment 15 = .ok (.getfield 23, 3) := by decide +kernel
theorem dX8_moment_18 : decode cX8_moment 18 = .ok (.aload_n 0, 1) := by decide +kernel
theorem dX8_moment_19 : decode cX8_moment 19 = .ok (.getfield 30, 3) := by decide +kernel
theorem dX8_moment_22 : decode cX8_moment 22 = .ok (.iload_n 2, 1) := by decide +kernel
theorem dX8_moment_23 : decode cX8_moment 23 = .ok (.invokevirtual 199, 3) := by decide +kernel
theorem dX8_moment_26 : decode cX8_moment 26 = .ok (.aload_n 0, 1) := by decide +kernel
theorem dX8_moment_27 : decode cX8_moment 27 = .ok (.getfield 43, 3) := by decide +kernel
theorem dX8_moment_30 : decode cX8_moment 30 = .ok (.iload_n 1, 1) := by decide +kernel
theorem dX8_moment_31 : decode cX8_moment 31 = .ok (.invokevirtual 205, 3) := by decide +kernel
theorem dX8_moment_34 : decode cX8_moment 34 = .ok (.lreturn, 1) := by decide +kernel
set_option maxRecDepth 20000 in
theorem ggX8_worstForReaction_X8_needNumber : GoodIn wsX8_worstForReaction wsX8_needNumber := goodIn_ca (goodIn_r _ [7, 8, 9, 10, 11, 12, 13, 14, 15, 16, 17, 139, 140, 141] (by decide +kernel) (by decide +kernel)) (goodIn_sub (fun _ h => List.mem_cons_of_mem _ (List.mem_append_right _ h)) (by decide +kernel))
set_option maxRecDepth 20000 in
theorem gX8_worstForReaction_X8_needNumber : GoodIn wsX8_worstForReaction (wsV RX8 171 RX8 yX8_needNumber wsX8_needNumber) := goodIn_app (goodIn_of _ (by decide +kernel)) ggX8_worstForReaction_X8_needNumber
set_option maxRecDepth 20000 in
theorem ggX8_worstForReaction_X8_worstHead : GoodIn wsX8_worstForReaction wsX8_worstHead := goodIn_r _ [21, 1, 22, 23, 24, 25, 26, 27, 28, 29, 30, 31, 32, 33, 34, 13, 35, 15, 36, 37, 38, 39, 40, 41, 42, 43, 17, 44, 11, 12, 14, 16, 45, 46, 47, 48, 49, 50, 51, 52, 53, 54, 55, 56, 57, 58, 59, 60, 61, 62, 63, 64, 65, 66, 67, 68, 69, 70, 71, 72, 73, 74, 75, 76, 77, 78, 79, 80, 81, 82, 83, 84, 85, 86, 87, 88, 89, 90, 91, 92, 93, 94, 95, 96, 97, 98, 99, 100, 101, 102, 103, 104, 105, 106, 107, 108, 109, 110, 111, 112, 113, 114, 115, 116, 117, 118, 119, 120, 121, 122, 123, 124, 125, 126, 127, 128, 129, 130, 131, 132, 133, 134, 135, 136, 137, 138, 139, 140, 141, 142, 143, 144, 145, 146, 147, 148, 149, 150, 151] (by decide +kernel) (by decide +kernel)
set_option maxRecDepth 20000 in
theorem gX8_worstForReaction_X8_worstHead : GoodIn wsX8_worstForReaction (wsV RX8 208 RX8 yX8_worstHead wsX8_worstHead) := goodIn_app (goodIn_of _ (by decide +kernel)) ggX8_worstForReaction_X8_worstHead
theorem dX8_worstForReaction_0 : decode cX8_worstForReaction 0 = .ok (.aload_n 0, 1) := by decide +kernel
theorem dX8_worstForReaction_1 : decode cX8_worstForReaction 1 = .ok (.aload_n 0, 1) := by decide +kernel
theorem dX8_worstForReaction_2 : decode cX8_worstForReaction 2 = .ok (.getfield 23, 3) := by decide +kernel
theorem dX8_worstForReaction_5 : decode cX8_worstForReaction 5 = .ok (.getfield 85, 3) := by decide +kernel
theorem dX8_worstForReaction_8 : decode cX8_worstForReaction 8 = .ok (.iload_n 1, 1) := by decide +kernel
theorem dX8_worstForReaction_9 : decode cX8_worstForReaction 9 = .ok (.invokevirtual 171, 3) := by decide +kernel
theorem dX8_worstForReaction_12 : decode cX8_worstForReaction 12 = .ok (.aload_n 0, 1) := by decide +kernel
theorem dX8_worstForReaction_13 : decode cX8_worstForReaction 13 = .ok (.iconst 0, 1) := by decide +kernel
theorem dX8_worstForReaction_14 : decode cX8_worstForReaction 14 = .ok (.iload_n 1, 1) := by decide +kernel
theorem dX8_worstForReaction_15 : decode cX8_worstForReaction 15 = .ok (.iload_n 2, 1) := by decide +kernel
theorem dX8_worstForReaction_16 : decode cX8_worstForReaction 16 = .ok (.invokevirtual 208, 3) := by decide +kernel
theorem dX8_worstForReaction_19 : decode cX8_worstForReaction 19 = .ok (.ireturn, 1) := by decide +kernel
set_option maxRecDepth 20000 in
theorem ggX8_worstForShear_X8_needField : GoodIn wsX8_worstForShear wsX8_needField := goodIn_ca (goodIn_r _ [5, 6, 7, 8, 9, 118, 119, 120, 121, 122, 123, 124, 125, 126, 127, 128, 129, 130, 131, 132, 133, 134, 135, 136, 137] (by decide +kernel) (by decide +kernel)) (goodIn_sub (fun _ h => List.mem_cons_of_mem _ (List.mem_append_right _ h)) (by decide +kernel))
set_option maxRecDepth 20000 in
theorem gX8_worstForShear_X8_needField : GoodIn wsX8_worstForShear (wsV RX8 179 RX8 yX8_needField wsX8_needField) := goodIn_app (goodIn_of _ (by decide +kernel)) ggX8_worstForShear_X8_needField
set_option maxRecDepth 20000 in
theorem ggX8_worstForShear_X8_worstHead : GoodIn wsX8_worstForShear wsX8_worstHead := goodIn_r _ [13, 8, 14, 15, 16, 17, 18, 19, 20, 21, 22, 23, 24, 25, 26, 27, 28, 29, 30, 31, 32, 33, 34, 35, 36, 37, 38, 39, 40, 41, 42, 43, 44, 45, 46, 47, 48, 49, 50, 51, 52, 53, 54, 55, 56, 57, 58, 59, 60, 61, 62, 63, 64, 65, 66, 67, 68, 69, 70, 71, 72, 73, 74, 75, 76, 77, 78, 79, 80, 81, 82, 83, 84, 85, 86, 87, 88, 89, 90, 91, 92, 93, 94, 95, 96, 97, 98, 99, 100, 101, 102, 103, 104, 105, 106, 107, 108, 109, 110, 111, 112, 113, 114, 115, 116, 117, 118, 119, 120, 121, 122, 123, 124, 125, 126, 127, 128, 129, 130, 131, 132, 133, 134, 135, 136, 137, 138, 139, 140, 141, 142, 143, 144, 145, 146, 147, 148, 149, 150] (by decide +kernel) (by decide +kernel)
set_option maxRecDepth 20000 in
theorem gX8_worstForShear_X8_worstHead : GoodIn wsX8_worstForShear (wsV RX8 208 RX8 yX8_worstHead wsX8_worstHead) := goodIn_app (goodIn_of _ (by decide +kernel)) ggX8_worstForShear_X8_worstHead
theorem dX8_worstForShear_0 : decode cX8_worstForShear 0 = .ok (.aload_n 0, 1) := by decide +kernel
theorem dX8_worstForShear_1 : decode cX8_worstForShear 1 = .ok (.iload_n 1, 1) := by decide +kernel
theorem dX8_worstForShear_2 : decode cX8_worstForShear 2 = .ok (.invokevirtual 179, 3) := by decide +kernel
theorem dX8_worstForShear_5 : decode cX8_worstForShear 5 = .ok (.aload_n 0, 1) := by decide +kernel
theorem dX8_worstForShear_6 : decode cX8_worstForShear 6 = .ok (.iconst 1, 1) := by decide +kernel
theorem dX8_worstForShear_7 : decode cX8_worstForShear 7 = .ok (.iload_n 1, 1) := by decide +kernel
theorem dX8_worstForShear_8 : decode cX8_worstForShear 8 = .ok (.iload_n 2, 1) := by decide +kernel
theorem dX8_worstForShear_9 : decode cX8_worstForShear 9 = .ok (.invokevirtual 208, 3) := by decide +kernel
theorem dX8_worstForShear_12 : decode cX8_worstForShear 12 = .ok (.ireturn, 1) := by decide +kernel
set_option maxRecDepth 20000 in
theorem ggX8_worstForMoment_X8_needPlace : GoodIn wsX8_worstForMoment wsX8_needPlace := goodIn_ca (goodIn_r _ [5, 6, 7, 8, 9, 10, 11, 12, 13, 14, 118, 119, 120, 121, 122, 123, 124, 125, 126, 127, 128, 129, 130, 131, 132, 133, 134, 135, 136, 137] (by decide +kernel) (by decide +kernel)) (goodIn_sub (fun _ h => List.mem_cons_of_mem _ (List.mem_append_right _ h)) (by decide +kernel))
set_option maxRecDepth 20000 in
theorem gX8_worstForMoment_X8_needPlace : GoodIn wsX8_worstForMoment (wsV RX8 165 RX8 yX8_needPlace wsX8_needPlace) := goodIn_app (goodIn_of _ (by decide +kernel)) ggX8_worstForMoment_X8_needPlace
set_option maxRecDepth 20000 in
theorem ggX8_worstForMoment_X8_worstHead : GoodIn wsX8_worstForMoment wsX8_worstHead := goodIn_r _ [18, 8, 19, 20, 21, 22, 23, 12, 24, 25, 26, 14, 27, 28, 29, 30, 31, 32, 33, 34, 35, 36, 37, 38, 39, 40, 41, 42, 43, 44, 45, 46, 47, 48, 49, 50, 51, 52, 53, 54, 55, 56, 57, 58, 59, 60, 61, 62, 63, 64, 65, 66, 67, 68, 69, 70, 10, 11, 13, 71, 72, 73, 74, 75, 76, 77, 78, 79, 80, 81, 82, 83, 84, 85, 86, 87, 88, 89, 90, 91, 92, 93, 94, 95, 96, 97, 98, 99, 100, 101, 102, 103, 104, 105, 106, 107, 108, 109, 110, 111, 112, 113, 114, 115, 116, 117, 118, 119, 120, 121, 122, 123, 124, 125, 126, 127, 128, 129, 130, 131, 132, 133, 134, 135, 136, 137, 138, 139, 140, 141, 142, 143, 144, 145, 146, 147, 148, 149, 150] (by decide +kernel) (by decide +kernel)
set_option maxRecDepth 20000 in
theorem gX8_worstForMoment_X8_worstHead : GoodIn wsX8_worstForMoment (wsV RX8 208 RX8 yX8_worstHead wsX8_worstHead) := goodIn_app (goodIn_of _ (by decide +kernel)) ggX8_worstForMoment_X8_worstHead
theorem dX8_worstForMoment_0 : decode cX8_worstForMoment 0 = .ok (.aload_n 0, 1) := by decide +kernel
theorem dX8_worstForMoment_1 : decode cX8_worstForMoment 1 = .ok (.iload_n 1, 1) := by decide +kernel
theorem dX8_worstForMoment_2 : decode cX8_worstForMoment 2 = .ok (.invokevirtual 165, 3) := by decide +kernel
theorem dX8_worstForMoment_5 : decode cX8_worstForMoment 5 = .ok (.aload_n 0, 1) := by decide +kernel
theorem dX8_worstForMoment_6 : decode cX8_worstForMoment 6 = .ok (.iconst 2, 1) := by decide +kernel
theorem dX8_worstForMoment_7 : decode cX8_worstForMoment 7 = .ok (.iload_n 1, 1) := by decide +kernel
theorem dX8_worstForMoment_8 : decode cX8_worstForMoment 8 = .ok (.iload_n 2, 1) := by decide +kernel
theorem dX8_worstForMoment_9 : decode cX8_worstForMoment 9 = .ok (.invokevirtual 208, 3) := by decide +kernel
theorem dX8_worstForMoment_12 : decode cX8_worstForMoment 12 = .ok (.ireturn, 1) := by decide +kernel
set_option maxRecDepth 20000 in
theorem ggX8_worstSection_X4_find : GoodIn wsX8_worstSection wsX4_find := goodIn_r _ [10, 11, 12, 13, 14, 15, 16, 17, 18, 19, 20, 21, 22, 23, 24, 25, 26, 27, 28, 29, 30, 31, 32, 33, 34, 35, 36, 37, 38, 39, 40, 41, 42, 43, 44, 45, 46, 47, 48, 49, 50, 51, 52, 53, 54, 55, 56, 57, 58, 59, 60, 61, 62, 63, 64, 65, 66, 67, 68, 69, 70, 71, 72, 73, 74, 75, 76, 77, 78, 79, 80, 81, 82, 83, 84, 85, 86, 87, 88, 89, 90, 91, 92, 93, 94, 95, 96, 97, 98, 99, 100, 101, 102, 103, 104, 105, 106, 107, 108, 109, 110, 111, 112, 113, 9, 114, 129, 130, 131, 132, 133, 134, 135, 136, 137, 138, 139, 140, 141, 142, 143, 144, 145, 146, 147, 148, 149] (by decide +kernel) (by decide +kernel)
set_option maxRecDepth 20000 in
theorem gX8_worstSection_X4_find : GoodIn wsX8_worstSection (wsV RX8 212 RX4 yX4_find wsX4_find) := goodIn_app (goodIn_of _ (by decide +kernel)) ggX8_worstSection_X4_find
theorem dX8_worstSection_0 : decode cX8_worstSection 0 = .ok (.aload_n 0, 1) := by decide +kernel
theorem dX8_worstSection_1 : decode cX8_worstSection 1 = .ok (.getfield 53, 3) := by decide +kernel
theorem dX8_worstSection_4 : decode cX8_worstSection 4 = .ok (.aload_n 0, 1) := by decide +kernel
theorem dX8_worstSection_5 : decode cX8_worstSection 5 = .ok (.getfield 23, 3) := by decide +kernel
theorem dX8_worstSection_8 : decode cX8_worstSection 8 = .ok (.aload_n 0, 1) := by decide +kernel
theorem dX8_worstSection_9 : decode cX8_worstSection 9 = .ok (.getfield 30, 3) := by decide +kernel
theorem dX8_worstSection_12 : decode cX8_worstSection 12 = .ok (.aload_n 0, 1) := by decide +kernel
theorem dX8_worstSection_13 : decode cX8_worstSection 13 = .ok (.getfield 43, 3) := by decide +kernel
theorem dX8_worstSection_16 : decode cX8_worstSection 16 = .ok (.invokevirtual 212, 3) := by decide +kernel
theorem dX8_worstSection_19 : decode cX8_worstSection 19 = .ok (.aload_n 0, 1) := by decide +kernel
theorem dX8_worstSection_20 : decode cX8_worstSection 20 = .ok (.getfield 53, 3) := by decide +kernel
theorem dX8_worstSection_23 : decode cX8_worstSection 23 = .ok (.getfield 216, 3) := by decide +kernel
theorem dX8_worstSection_26 : decode cX8_worstSection 26 = .ok (.ireturn, 1) := by decide +kernel
set_option maxRecDepth 20000 in
theorem ggX8_danger_X8_needHead : GoodIn wsX8_danger wsX8_needHead := goodIn_ca (goodIn_r _ [5, 6, 7, 8, 9, 10, 11, 12, 13, 14, 15, 16, 17, 18, 19, 20, 21, 22, 23, 24, 25, 26, 27, 28, 29, 30, 31, 32, 33, 34, 35, 36, 37, 4, 38, 39, 40, 133, 134, 135, 136, 137, 138, 139, 140, 141, 142, 143, 144, 145, 146, 147, 148, 149, 150, 151, 152, 153, 154, 155] (by decide +kernel) (by decide +kernel)) (goodIn_sub (fun _ h => List.mem_cons_of_mem _ (List.mem_append_right _ h)) (by decide +kernel))
set_option maxRecDepth 20000 in
theorem gX8_danger_X8_needHead : GoodIn wsX8_danger (wsV RX8 196 RX8 yX8_needHead wsX8_needHead) := goodIn_app (goodIn_of _ (by decide +kernel)) ggX8_danger_X8_needHead
set_option maxRecDepth 20000 in
theorem ggX8_danger_X8_reasonWithHead : GoodIn wsX8_danger wsX8_reasonWithHead := goodIn_r _ [44, 45, 6, 46, 47, 48, 49, 50, 51, 52, 53, 54, 55, 56, 57, 58, 59, 60, 61, 62, 63, 18, 64, 34, 30, 31, 32, 33, 20, 29, 65, 26, 27, 28, 66, 67, 68, 69, 70, 71, 72, 10, 73, 14, 74, 75, 76, 77, 78, 79, 80, 81, 82, 83, 84, 85, 86, 87, 88, 89, 90, 91, 92, 93, 94, 95, 96, 97, 98, 99, 100, 101, 102, 103, 104, 105, 106, 107, 108, 109, 110, 111, 112, 113, 114, 115, 116, 117, 118, 119, 120, 121, 122, 123, 124, 125, 126, 127, 23, 128, 129, 130, 131, 132, 133, 134, 135, 136, 137, 138, 139, 140, 141, 142, 143, 144, 145, 146, 147, 148, 149, 150, 151, 152, 153, 154, 155, 156, 157, 158, 159, 160, 161, 162, 163, 164, 165] (by decide +kernel) (by decide +kernel)
set_option maxRecDepth 20000 in
theorem gX8_danger_X8_reasonWithHead : GoodIn wsX8_danger (wsV RX8 219 RX8 yX8_reasonWithHead wsX8_reasonWithHead) := goodIn_app (goodIn_of _ (by decide +kernel)) ggX8_danger_X8_reasonWithHead
theorem dX8_danger_0 : decode cX8_danger 0 = .ok (.aload_n 0, 1) := by decide +kernel
theorem dX8_danger_1 : decode cX8_danger 1 = .ok (.iload_n 1, 1) := by decide +kernel
theorem dX8_danger_2 : decode cX8_danger 2 = .ok (.invokevirtual 196, 3) := by decide +kernel
theorem dX8_danger_5 : decode cX8_danger 5 = .ok (.aload_n 0, 1) := by decide +kernel
theorem dX8_danger_6 : decode cX8_danger 6 = .ok (.iload_n 1, 1) := by decide +kernel
theorem dX8_danger_7 : decode cX8_danger 7 = .ok (.invokevirtual 219, 3) := by decide +kernel
theorem dX8_danger_10 : decode cX8_danger 10 = .ok (.ireturn, 1) := by decide +kernel
set_option maxRecDepth 20000 in
theorem ggX8_firstDanger_X0_lastHead : GoodIn wsX8_firstDanger wsX0_lastHead := goodIn_r _ [6, 7, 8, 9, 10, 11, 12, 13, 14, 15, 16, 17, 18, 19, 20, 21, 22, 23, 24, 25, 26, 27, 28, 29, 137, 138, 139, 140, 141, 142, 143, 144, 145] (by decide +kernel) (by decide +kernel)
set_option maxRecDepth 20000 in
theorem gX8_firstDanger_X0_lastHead : GoodIn wsX8_firstDanger (wsV RX8 151 RX0 yX0_lastHead wsX0_lastHead) := goodIn_app (goodIn_of _ (by decide +kernel)) ggX8_firstDanger_X0_lastHead
set_option maxRecDepth 20000 in
theorem ggX8_firstDanger_X8_reasonWithHead : GoodIn wsX8_firstDanger wsX8_reasonWithHead := goodIn_r _ [34, 35, 1, 36, 37, 38, 39, 40, 41, 42, 43, 44, 45, 46, 47, 48, 49, 50, 51, 52, 53, 13, 54, 29, 25, 26, 27, 28, 15, 24, 55, 21, 22, 23, 56, 57, 58, 59, 60, 61, 62, 5, 63, 9, 64, 65, 66, 67, 68, 69, 70, 71, 72, 73, 74, 75, 76, 77, 78, 79, 80, 81, 82, 83, 84, 85, 86, 87, 88, 89, 90, 91, 92, 93, 94, 95, 96, 97, 98, 99, 100, 101, 102, 103, 104, 105, 106, 107, 108, 109, 110, 111, 112, 113, 114, 115, 116, 117, 18, 118, 119, 120, 121, 122, 123, 124, 125, 126, 127, 128, 129, 130, 131, 132, 133, 134, 135, 136, 137, 138, 139, 140, 141, 142, 143, 144, 145, 146, 147, 148, 149, 150, 151, 152, 153, 154, 155] (by decide +kernel) (by decide +kernel)
set_option maxRecDepth 20000 in
theorem gX8_firstDanger_X8_reasonWithHead : GoodIn wsX8_firstDanger (wsV RX8 219 RX8 yX8_reasonWithHead wsX8_reasonWithHead) := goodIn_app (goodIn_of _ (by decide +kernel)) ggX8_firstDanger_X8_reasonWithHead
theorem dX8_firstDanger_0 : decode cX8_firstDanger 0 = .ok (.aload_n 0, 1) := by decide +kernel
theorem dX8_firstDanger_1 : decode cX8_firstDanger 1 = .ok (.getfield 23, 3) := by decide +kernel
theorem dX8_firstDanger_4 : decode cX8_firstDanger 4 = .ok (.invokevirtual 151, 3) := by decide +kernel
theorem dX8_firstDanger_7 : decode cX8_firstDanger 7 = .ok (.istore_n 1, 1) := by decide +kernel
theorem dX8_firstDanger_8 : decode cX8_firstDanger 8 = .ok (.iconst 0, 1) := by decide +kernel
theorem dX8_firstDanger_9 : decode cX8_firstDanger 9 = .ok (.istore_n 2, 1) := by decide +kernel
theorem dX8_firstDanger_10 : decode cX8_firstDanger 10 = .ok (.iload_n 2, 1) := by decide +kernel
theorem dX8_firstDanger_11 : decode cX8_firstDanger 11 = .ok (.iload_n 1, 1) := by decide +kernel
theorem dX8_firstDanger_12 : decode cX8_firstDanger 12 = .ok (.if_icmp .gt 19, 3) := by decide +kernel
theorem dX8_firstDanger_15 : decode cX8_firstDanger 15 = .ok (.aload_n 0, 1) := by decide +kernel
theorem dX8_firstDanger_16 : decode cX8_firstDanger 16 = .ok (.iload_n 2, 1) := by decide +kernel
theorem dX8_firstDanger_17 : decode cX8_firstDanger 17 = .ok (.invokevirtual 219, 3) := by decide +kernel
theorem dX8_firstDanger_20 : decode cX8_firstDanger 20 = .ok (.ifCond .eq 5, 3) := by decide +kernel
theorem dX8_firstDanger_23 : decode cX8_firstDanger 23 = .ok (.iload_n 2, 1) := by decide +kernel
theorem dX8_firstDanger_24 : decode cX8_firstDanger 24 = .ok (.ireturn, 1) := by decide +kernel
theorem dX8_firstDanger_25 : decode cX8_firstDanger 25 = .ok (.iinc 2 1, 3) := by decide +kernel
theorem dX8_firstDanger_28 : decode cX8_firstDanger 28 = .ok (.goto (-18), 3) := by decide +kernel
theorem dX8_firstDanger_31 : decode cX8_firstDanger 31 = .ok (.iconst (-1), 1) := by decide +kernel
theorem dX8_firstDanger_32 : decode cX8_firstDanger 32 = .ok (.ireturn, 1) := by decide +kernel
set_option maxRecDepth 20000 in
theorem ggX8_lifting_X0_lastHead : GoodIn wsX8_lifting wsX0_lastHead := goodIn_r _ [8, 9, 10, 11, 12, 13, 14, 15, 16, 17, 18, 19, 20, 21, 22, 23, 24, 25, 26, 27, 28, 29, 30, 31, 112, 113, 114, 115, 116, 117, 118, 119, 120] (by decide +kernel) (by decide +kernel)
set_option maxRecDepth 20000 in
theorem gX8_lifting_X0_lastHead : GoodIn wsX8_lifting (wsV RX8 151 RX0 yX0_lastHead wsX0_lastHead) := goodIn_app (goodIn_of _ (by decide +kernel)) ggX8_lifting_X0_lastHead
set_option maxRecDepth 20000 in
theorem ggX8_lifting_X1_underAll : GoodIn wsX8_lifting wsX1_underAll := goodIn_r _ [36, 37, 38, 39, 40, 41, 35, 42, 43, 44, 45, 46, 47, 48, 15, 49, 31, 27, 28, 29, 30, 17, 26, 50, 23, 24, 25, 51, 52, 53, 54, 55, 56, 57, 7, 58, 11, 59, 60, 61, 62, 63, 64, 65, 66, 67, 68, 69, 70, 71, 72, 73, 74, 75, 76, 77, 78, 79, 80, 81, 82, 83, 84, 85, 86, 87, 88, 89, 90, 91, 92, 93, 112, 113, 114, 115, 116, 117, 118, 119, 120, 121, 122, 123, 124, 125, 126, 127, 128, 129, 130] (by decide +kernel) (by decide +kernel)
set_option maxRecDepth 20000 in
theorem gX8_lifting_X1_underAll : GoodIn wsX8_lifting (wsV RX8 199 RX1 yX1_underAll wsX1_underAll) := goodIn_app (goodIn_of _ (by decide +kernel)) ggX8_lifting_X1_underAll
set_option maxRecDepth 20000 in
theorem ggX8_lifting_X1_liftedSet : GoodIn wsX8_lifting wsX1_liftedSet := goodIn_r _ [97, 44, 121, 122, 123, 124, 125] (by decide +kernel) (by decide +kernel)
set_option maxRecDepth 20000 in
theorem gX8_lifting_X1_liftedSet : GoodIn wsX8_lifting (wsV RX8 222 RX1 yX1_liftedSet wsX1_liftedSet) := goodIn_app (goodIn_of _ (by decide +kernel)) ggX8_lifting_X1_liftedSet
theorem dX8_lifting_0 : decode cX8_lifting 0 = .ok (.iconst 0, 1) := by decide +kernel
theorem dX8_lifting_1 : decode cX8_lifting 1 = .ok (.istore_n 1, 1) := by decide +kernel
theorem dX8_lifting_2 : decode cX8_lifting 2 = .ok (.aload_n 0, 1) := by decide +kernel
theorem dX8_lifting_3 : decode cX8_lifting 3 = .ok (.getfield 23, 3) := by decide +kernel
theorem dX8_lifting_6 : decode cX8_lifting 6 = .ok (.invokevirtual 151, 3) := by decide +kernel
theorem dX8_lifting_9 : decode cX8_lifting 9 = .ok (.istore_n 2, 1) := by decide +kernel
theorem dX8_lifting_10 : decode cX8_lifting 10 = .ok (.iconst 0, 1) := by decide +kernel
theorem dX8_lifting_11 : decode cX8_lifting 11 = .ok (.istore_n 3, 1) := by decide +kernel
theorem dX8_lifting_12 : decode cX8_lifting 12 = .ok (.iload_n 3, 1) := by decide +kernel
theorem dX8_lifting_13 : decode cX8_lifting 13 = .ok (.iload_n 2, 1) := by decide +kernel
theorem dX8_lifting_14 : decode cX8_lifting 14 = .ok (.if_icmp .gt 35, 3) := by decide +kernel
theorem dX8_lifting_17 : decode cX8_lifting 17 = .ok (.aload_n 0, 1) := by decide +kernel
theorem dX8_lifting_18 : decode cX8_lifting 18 = .ok (.getfield 43, 3) := by decide +kernel
theorem dX8_lifting_21 : decode cX8_lifting 21 = .ok (.aload_n 0, 1) := by decide +kernel
theorem dX8_lifting_22 : decode cX8_lifting 22 = .ok (.getfield 23, 3) := by decide +kernel
theorem dX8_lifting_25 : decode cX8_lifting 25 = .ok (.aload_n 0, 1) := by decide +kernel
theorem dX8_lifting_26 : decode cX8_lifting 26 = .ok (.getfield 30, 3) := by decide +kernel
theorem dX8_lifting_29 : decode cX8_lifting 29 = .ok (.iload_n 3, 1) := by decide +kernel
theorem dX8_lifting_30 : decode cX8_lifting 30 = .ok (.invokevirtual 199, 3) := by decide +kernel
theorem dX8_lifting_33 : decode cX8_lifting 33 = .ok (.iload_n 1, 1) := by decide +kernel
theorem dX8_lifting_34 : decode cX8_lifting 34 = .ok (.aload_n 0, 1) := by decide +kernel
theorem dX8_lifting_35 : decode cX8_lifting 35 = .ok (.getfield 43, 3) := by decide +kernel
theorem dX8_lifting_38 : decode cX8_lifting 38 = .ok (.invokevirtual 222, 3) := by decide +kernel
theorem dX8_lifting_41 : decode cX8_lifting 41 = .ok (.ior, 1) := by decide +kernel
theorem dX8_lifting_42 : decode cX8_lifting 42 = .ok (.istore_n 1, 1) := by decide +kernel
theorem dX8_lifting_43 : decode cX8_lifting 43 = .ok (.iinc 3 1, 3) := by decide +kernel
theorem dX8_lifting_46 : decode cX8_lifting 46 = .ok (.goto (-34), 3) := by decide +kernel
theorem dX8_lifting_49 : decode cX8_lifting 49 = .ok (.iload_n 1, 1) := by decide +kernel
theorem dX8_lifting_50 : decode cX8_lifting 50 = .ok (.ireturn, 1) := by decide +kernel
set_option maxRecDepth 20000 in
theorem ggX8_share_X8_needNumber : GoodIn wsX8_share wsX8_needNumber := goodIn_ca (goodIn_r _ [11, 12, 13, 14, 15, 16, 17, 18, 19, 20, 21, 146, 147, 148] (by decide +kernel) (by decide +kernel)) (goodIn_sub (fun _ h => List.mem_cons_of_mem _ (List.mem_append_left _ (List.mem_append_right _ h))) (by decide +kernel))
set_option maxRecDepth 20000 in
theorem gX8_share_X8_needNumber : GoodIn wsX8_share (wsV RX8 171 RX8 yX8_needNumber wsX8_needNumber) := goodIn_app (goodIn_of _ (by decide +kernel)) ggX8_share_X8_needNumber
set_option maxRecDepth 20000 in
theorem ggX8_share_X8_needHead : GoodIn wsX8_share wsX8_needHead := goodIn_ca (goodIn_r _ [25, 1, 26, 27, 28, 29, 30, 31, 32, 33, 34, 35, 36, 17, 37, 19, 38, 39, 40, 41, 42, 43, 44, 45, 21, 46, 15, 16, 18, 20, 47, 48, 49, 10, 50, 51, 52, 116, 117, 118, 119, 120, 121, 122, 123, 124, 125, 126, 127, 128, 129, 130, 131, 132, 133, 134, 135, 146, 147, 148] (by decide +kernel) (by decide +kernel)) (goodIn_sub (fun _ h => List.mem_cons_of_mem _ (List.mem_append_right _ h)) (by decide +kernel))
set_option maxRecDepth 20000 in
theorem gX8_share_X8_needHead : GoodIn wsX8_share (wsV RX8 196 RX8 yX8_needHead wsX8_needHead) := goodIn_app (goodIn_of _ (by decide +kernel)) ggX8_share_X8_needHead
set_option maxRecDepth 20000 in
theorem ggX8_share_X1_underAll : GoodIn wsX8_share wsX1_underAll := goodIn_r _ [57, 58, 59, 60, 61, 62, 56, 63, 64, 65, 66, 67, 68, 69, 17, 70, 20, 46, 15, 16, 18, 19, 21, 71, 43, 44, 45, 72, 73, 74, 75, 76, 77, 78, 29, 79, 33, 80, 81, 82, 83, 84, 85, 86, 87, 88, 89, 90, 91, 92, 93, 94, 95, 96, 97, 98, 99, 100, 101, 102, 103, 104, 105, 106, 107, 108, 109, 110, 111, 112, 113, 114, 130, 131, 132, 133, 134, 135, 146, 147, 148, 141, 142, 143, 144, 145, 136, 137, 138, 139, 140] (by decide +kernel) (by decide +kernel)
set_option maxRecDepth 20000 in
theorem gX8_share_X1_underAll : GoodIn wsX8_share (wsV RX8 199 RX1 yX1_underAll wsX1_underAll) := goodIn_app (goodIn_of _ (by decide +kernel)) ggX8_share_X1_underAll
set_option maxRecDepth 20000 in
theorem ggX8_share_X1_reactionOf : GoodIn wsX8_share wsX1_reactionOf := goodIn_r _ [114, 65, 141, 142, 143, 144, 145] (by decide +kernel) (by decide +kernel)
set_option maxRecDepth 20000 in
theorem gX8_share_X1_reactionOf : GoodIn wsX8_share (wsV RX8 202 RX1 yX1_reactionOf wsX1_reactionOf) := goodIn_app (goodIn_of _ (by decide +kernel)) ggX8_share_X1_reactionOf
theorem dX8_share_0 : decode cX8_share 0 = .ok (.aload_n 0, 1) := by decide +kernel
theorem dX8_share_1 : decode cX8_share 1 = .ok (.aload_n 0, 1) := by decide +kernel
theorem dX8_share_2 : decode cX8_share 2 = .ok (.getfield 23, 3) := by decide +kernel
theorem dX8_share_5 : decode cX8_share 5 = .ok (.getfield 85, 3) := by decide +kernel
theorem dX8_share_8 : decode cX8_share 8 = .ok (.iload_n 1, 1) := by decide +kernel
theorem dX8_share_9 : decode cX8_share 9 = .ok (.invokevirtual 171, 3) := by decide +kernel
theorem dX8_share_12 : decode cX8_share 12 = .ok (.aload_n 0, 1) := by decide +kernel
theorem dX8_share_13 : decode cX8_share 13 = .ok (.iload_n 2, 1) := by decide +kernel
theorem dX8_share_14 : decode cX8_share 14 = .ok (.invokevirtual 196, 3) := by decide +kernel
theorem dX8_share_17 : decode cX8_share 17 = .ok (.aload_n 0, 1) := by decide +kernel
theorem dX8_share_18 : decode cX8_share 18 = .ok (.getfield 43, 3) := by decide +kernel
theorem dX8_share_21 : decode cX8_share 21 = .ok (.aload_n 0, 1) := by decide +kernel
theorem dX8_share_22 : decode cX8_share 22 = .ok (.getfield 23, 3) := by decide +kernel
theorem dX8_share_25 : decode cX8_share 25 = .ok (.aload_n 0, 1) := by decide +kernel
theorem dX8_share_26 : decode cX8_share 26 = .ok (.getfield 30, 3) := by decide +kernel
theorem dX8_share_29 : decode cX8_share 29 = .ok (.iload_n 2, 1) := by decide +kernel
theorem dX8_share_30 : decode cX8_share 30 = .ok (.invokevirtual 199, 3) := by decide +kernel
theorem dX8_share_33 : decode cX8_share 33 = .ok (.aload_n 0, 1) := by decide +kernel
theorem dX8_share_34 : decode cX8_share 34 = .ok (.getfield 30, 3) := by decide +kernel
theorem dX8_share_37 : decode cX8_share 37 = .ok (.getfield 157, 3) := by decide +kernel
theorem dX8_share_40 : decode cX8_share 40 = .ok (.aload_n 0, 1) := by decide +kernel
theorem dX8_share_41 : decode cX8_share 41 = .ok (.getfield 43, 3) := by decide +kernel
theorem dX8_share_44 : decode cX8_share 44 = .ok (.getfield 225, 3) := by decide +kernel
theorem dX8_share_47 : decode cX8_share 47 = .ok (.i2l, 1) := by decide +kernel
theorem dX8_share_48 : decode cX8_share 48 = .ok (.lmul, 1) := by decide +kernel
theorem dX8_share_49 : decode cX8_share 49 = .ok (.l2d, 1) := by decide +kernel
theorem dX8_share_50 : decode cX8_share 50 = .ok (.dstore_n 3, 1) := by decide +kernel
theorem dX8_share_51 : decode cX8_share 51 = .ok (.dload_n 3, 1) := by decide +kernel
theorem dX8_share_52 : decode cX8_share 52 = .ok (.dconst 0, 1) := by decide +kernel
theorem dX8_share_53 : decode cX8_share 53 = .ok (.dcmp .l, 1) := by decide +kernel
theorem dX8_share_54 : decode cX8_share 54 = .ok (.ifCond .ne 5, 3) := by decide +kernel
theorem dX8_share_57 : decode cX8_share 57 = .ok (.dconst 0, 1) := by decide +kernel
theorem dX8_share_58 : decode cX8_share 58 = .ok (.dreturn, 1) := by decide +kernel
theorem dX8_share_59 : decode cX8_share 59 = .ok (.aload_n 0, 1) := by decide +kernel
theorem dX8_share_60 : decode cX8_share 60 = .ok (.getfield 43, 3) := by decide +kernel
theorem dX8_share_63 : decode cX8_share 63 = .ok (.iload_n 1, 1) := by decide +kernel
theorem dX8_share_64 : decode cX8_share 64 = .ok (.invokevirtual 202, 3) := by decide +kernel
theorem dX8_share_67 : decode cX8_share 67 = .ok (.l2d, 1) := by decide +kernel
theorem dX8_share_68 : decode cX8_share 68 = .ok (.dload_n 3, 1) := by decide +kernel
theorem dX8_share_69 : decode cX8_share 69 = .ok (.ddiv, 1) := by decide +kernel
theorem dX8_share_70 : decode cX8_share 70 = .ok (.dreturn, 1) := by decide +kernel
set_option maxRecDepth 20000 in
theorem ggX8_used_X4_find : GoodIn wsX8_used wsX4_find := goodIn_r _ [12, 13, 14, 15, 16, 17, 18, 19, 20, 21, 22, 23, 24, 25, 26, 27, 28, 29, 30, 31, 32, 33, 34, 35, 36, 37, 38, 39, 40, 41, 42, 43, 44, 45, 46, 47, 48, 49, 50, 51, 52, 53, 54, 55, 56, 57, 58, 59, 60, 61, 62, 63, 64, 65, 66, 67, 68, 69, 70, 71, 72, 73, 74, 75, 76, 77, 78, 79, 80, 81, 82, 83, 84, 85, 86, 87, 88, 89, 90, 91, 92, 93, 94, 95, 96, 97, 98, 99, 100, 101, 102, 103, 104, 105, 106, 107, 108, 109, 110, 111, 112, 113, 114, 115, 11, 116, 142, 143, 136, 137, 138, 139, 140, 141, 144, 145, 146, 147, 148, 149, 150, 151, 131, 132, 133, 134, 135] (by decide +kernel) (by decide +kernel)
set_option maxRecDepth 20000 in
theorem gX8_used_X4_find : GoodIn wsX8_used (wsV RX8 212 RX4 yX4_find wsX4_find) := goodIn_app (goodIn_of _ (by decide +kernel)) ggX8_used_X4_find
theorem dX8_used_0 : decode cX8_used 0 = .ok (.aload_n 0, 1) := by decide +kernel
theorem dX8_used_1 : decode cX8_used 1 = .ok (.getfield 53, 3) := by decide +kernel
theorem dX8_used_4 : decode cX8_used 4 = .ok (.aload_n 0, 1) := by decide +kernel
theorem dX8_used_5 : decode cX8_used 5 = .ok (.getfield 23, 3) := by decide +kernel
theorem dX8_used_8 : decode cX8_used 8 = .ok (.aload_n 0, 1) := by decide +kernel
theorem dX8_used_9 : decode cX8_used 9 = .ok (.getfield 30, 3) := by decide +kernel
theorem dX8_used_12 : decode cX8_used 12 = .ok (.aload_n 0, 1) := by decide +kernel
theorem dX8_used_13 : decode cX8_used 13 = .ok (.getfield 43, 3) := by decide +kernel
theorem dX8_used_16 : decode cX8_used 16 = .ok (.invokevirtual 212, 3) := by decide +kernel
theorem dX8_used_19 : decode cX8_used 19 = .ok (.aload_n 0, 1) := by decide +kernel
theorem dX8_used_20 : decode cX8_used 20 = .ok (.getfield 30, 3) := by decide +kernel
theorem dX8_used_23 : decode cX8_used 23 = .ok (.getfield 157, 3) := by decide +kernel
theorem dX8_used_26 : decode cX8_used 26 = .ok (.aload_n 0, 1) := by decide +kernel
theorem dX8_used_27 : decode cX8_used 27 = .ok (.getfield 23, 3) := by decide +kernel
theorem dX8_used_30 : decode cX8_used 30 = .ok (.getfield 82, 3) := by decide +kernel
theorem dX8_used_33 : decode cX8_used 33 = .ok (.i2l, 1) := by decide +kernel
theorem dX8_used_34 : decode cX8_used 34 = .ok (.lmul, 1) := by decide +kernel
theorem dX8_used_35 : decode cX8_used 35 = .ok (.l2f, 1) := by decide +kernel
theorem dX8_used_36 : decode cX8_used 36 = .ok (.fstore_n 1, 1) := by decide +kernel
theorem dX8_used_37 : decode cX8_used 37 = .ok (.fload_n 1, 1) := by decide +kernel
theorem dX8_used_38 : decode cX8_used 38 = .ok (.fconst 0, 1) := by decide +kernel
theorem dX8_used_39 : decode cX8_used 39 = .ok (.fcmp .l, 1) := by decide +kernel
theorem dX8_used_40 : decode cX8_used 40 = .ok (.ifCond .ne 5, 3) := by decide +kernel
theorem dX8_used_43 : decode cX8_used 43 = .ok (.fconst 0, 1) := by decide +kernel
theorem dX8_used_44 : decode cX8_used 44 = .ok (.freturn, 1) := by decide +kernel
theorem dX8_used_45 : decode cX8_used 45 = .ok (.aload_n 0, 1) := by decide +kernel
theorem dX8_used_46 : decode cX8_used 46 = .ok (.getfield 53, 3) := by decide +kernel
theorem dX8_used_49 : decode cX8_used 49 = .ok (.getfield 228, 3) := by decide +kernel
theorem dX8_used_52 : decode cX8_used 52 = .ok (.l2f, 1) := by decide +kernel
theorem dX8_used_53 : decode cX8_used 53 = .ok (.fload_n 1, 1) := by decide +kernel
theorem dX8_used_54 : decode cX8_used 54 = .ok (.fdiv, 1) := by decide +kernel
theorem dX8_used_55 : decode cX8_used 55 = .ok (.freturn, 1) := by decide +kernel
set_option maxRecDepth 20000 in
theorem ggX8_tryHinge_X8_needNumber : GoodIn wsX8_tryHinge wsX8_needNumber := goodIn_ca (goodIn_r _ [7, 8, 9, 10, 11, 12, 13, 14, 15, 16, 17, 167, 168, 169] (by decide +kernel) (by decide +kernel)) (goodIn_sub (fun _ h => List.mem_cons_of_mem _ (List.mem_append_left _ (List.mem_append_right _ h))) (by decide +kernel))
set_option maxRecDepth 20000 in
theorem gX8_tryHinge_X8_needNumber : GoodIn wsX8_tryHinge (wsV RX8 171 RX8 yX8_needNumber wsX8_needNumber) := goodIn_app (goodIn_of _ (by decide +kernel)) ggX8_tryHinge_X8_needNumber
set_option maxRecDepth 20000 in
theorem ggX8_tryHinge_X8_needHingePlace : GoodIn wsX8_tryHinge wsX8_needHingePlace := goodIn_ca (goodIn_r _ [21, 1, 22, 23, 24, 25, 6, 26, 27, 28, 147, 148, 149, 150, 151, 152, 153, 154, 155, 156, 157, 158, 159, 160, 161, 162, 163, 164, 165, 166] (by decide +kernel) (by decide +kernel)) (goodIn_sub (fun _ h => List.mem_cons_of_mem _ (List.mem_append_right _ h)) (by decide +kernel))
set_option maxRecDepth 20000 in
theorem gX8_tryHinge_X8_needHingePlace : GoodIn wsX8_tryHinge (wsV RX8 230 RX8 yX8_needHingePlace wsX8_needHingePlace) := goodIn_app (goodIn_of _ (by decide +kernel)) ggX8_tryHinge_X8_needHingePlace
set_option maxRecDepth 20000 in
theorem ggX8_tryHinge_X8_tryHingeAt : GoodIn wsX8_tryHinge wsX8_tryHingeAt := goodIn_r _ [32, 33, 1, 2, 34, 35, 36, 37, 38, 39, 40, 41, 42, 43, 44, 45, 46, 47, 48, 13, 49, 15, 16, 17, 50, 51, 52, 53, 54, 55, 56, 57, 58, 11, 12, 14, 59, 60, 61, 62, 63, 64, 65, 66, 67, 68, 69, 70, 71, 72, 73, 74, 75, 76, 77, 78, 79, 80, 81, 82, 83, 84, 85, 86, 87, 88, 89, 90, 91, 92, 93, 94, 95, 96, 97, 98, 99, 100, 101, 102, 103, 104, 105, 106, 107, 108, 109, 110, 111, 112, 113, 114, 115, 116, 117, 118, 119, 120, 121, 122, 123, 124, 125, 126, 127, 128, 129, 130, 131, 132, 133, 134, 135, 136, 137, 138, 139, 140, 141, 142, 143, 144, 145, 146, 147, 148, 149, 150, 151, 152, 153, 154, 155, 156, 157, 158, 159, 160, 161, 162, 163, 164, 165, 166, 167, 168, 169, 170, 171, 172, 173, 174] (by decide +kernel) (by decide +kernel)
set_option maxRecDepth 20000 in
theorem gX8_tryHinge_X8_tryHingeAt : GoodIn wsX8_tryHinge (wsV RX8 233 RX8 yX8_tryHingeAt wsX8_tryHingeAt) := goodIn_app (goodIn_of _ (by decide +kernel)) ggX8_tryHinge_X8_tryHingeAt
theorem dX8_tryHinge_0 : decode cX8_tryHinge 0 = .ok (.aload_n 0, 1) := by decide +kernel
theorem dX8_tryHinge_1 : decode cX8_tryHinge 1 = .ok (.aload_n 0, 1) := by decide +kernel
theorem dX8_tryHinge_2 : decode cX8_tryHinge 2 = .ok (.getfield 23, 3) := by decide +kernel
theorem dX8_tryHinge_5 : decode cX8_tryHinge 5 = .ok (.getfield 138, 3) := by decide +kernel
theorem dX8_tryHinge_8 : decode cX8_tryHinge 8 = .ok (.iload_n 1, 1) := by decide +kernel
theorem dX8_tryHinge_9 : decode cX8_tryHinge 9 = .ok (.invokevirtual 171, 3) := by decide +kernel
theorem dX8_tryHinge_12 : decode cX8_tryHinge 12 = .ok (.aload_n 0, 1) := by decide +kernel
theorem dX8_tryHinge_13 : decode cX8_tryHinge 13 = .ok (.iload_n 2, 1) := by decide +kernel
theorem dX8_tryHinge_14 : decode cX8_tryHinge 14 = .ok (.invokevirtual 230, 3) := by decide +kernel
theorem dX8_tryHinge_17 : decode cX8_tryHinge 17 = .ok (.aload_n 0, 1) := by decide +kernel
theorem dX8_tryHinge_18 : decode cX8_tryHinge 18 = .ok (.iload_n 1, 1) := by decide +kernel
theorem dX8_tryHinge_19 : decode cX8_tryHinge 19 = .ok (.iload_n 2, 1) := by decide +kernel
theorem dX8_tryHinge_20 : decode cX8_tryHinge 20 = .ok (.invokevirtual 233, 3) := by decide +kernel
theorem dX8_tryHinge_23 : decode cX8_tryHinge 23 = .ok (.istore_n 3, 1) := by decide +kernel
theorem dX8_tryHinge_24 : decode cX8_tryHinge 24 = .ok (.iload_n 3, 1) := by decide +kernel
theorem dX8_tryHinge_25 : decode cX8_tryHinge 25 = .ok (.ifCond .ge 7, 3) := by decide +kernel
theorem dX8_tryHinge_28 : decode cX8_tryHinge 28 = .ok (.iload_n 3, 1) := by decide +kernel
theorem dX8_tryHinge_29 : decode cX8_tryHinge 29 = .ok (.goto 4, 3) := by decide +kernel
theorem dX8_tryHinge_32 : decode cX8_tryHinge 32 = .ok (.iconst 0, 1) := by decide +kernel
theorem dX8_tryHinge_33 : decode cX8_tryHinge 33 = .ok (.ireturn, 1) := by decide +kernel
set_option maxRecDepth 20000 in
theorem ggX8_bestHinge_X8_needNumber : GoodIn wsX8_bestHinge wsX8_needNumber := goodIn_ca (goodIn_r _ [14, 15, 16, 17, 18, 19, 20, 21, 22, 23, 24, 253, 254, 255] (by decide +kernel) (by decide +kernel)) (goodIn_sub (fun _ h => List.mem_cons_of_mem _ (List.mem_append_right _ h)) (by decide +kernel))
set_option maxRecDepth 20000 in
theorem gX8_bestHinge_X8_needNumber : GoodIn wsX8_bestHinge (wsV RX8 171 RX8 yX8_needNumber wsX8_needNumber) := goodIn_app (goodIn_of _ (by decide +kernel)) ggX8_bestHinge_X8_needNumber
set_option maxRecDepth 20000 in
theorem ggX8_bestHinge_X8_tryHingeAt : GoodIn wsX8_bestHinge wsX8_tryHingeAt := goodIn_r _ [28, 5, 1, 2, 6, 29, 30, 31, 32, 33, 34, 35, 36, 37, 38, 39, 40, 41, 42, 20, 43, 22, 23, 24, 44, 45, 46, 47, 48, 49, 50, 51, 52, 18, 19, 21, 53, 54, 55, 56, 57, 58, 59, 60, 61, 62, 63, 64, 65, 66, 67, 68, 69, 70, 71, 72, 73, 74, 75, 76, 77, 78, 79, 80, 81, 82, 83, 84, 85, 86, 87, 88, 89, 90, 91, 92, 93, 94, 95, 96, 97, 98, 99, 100, 101, 102, 103, 104, 105, 106, 107, 108, 109, 110, 111, 112, 113, 114, 115, 116, 117, 118, 119, 120, 121, 122, 123, 124, 125, 126, 127, 128, 129, 130, 131, 132, 133, 134, 135, 136, 137, 138, 139, 140, 226, 227, 228, 229, 230, 231, 232, 233, 234, 235, 236, 237, 238, 239, 240, 241, 242, 243, 244, 245, 253, 254, 255, 248, 249, 250, 251, 252] (by decide +kernel) (by decide +kernel)
set_option maxRecDepth 20000 in
theorem gX8_bestHinge_X8_tryHingeAt : GoodIn wsX8_bestHinge (wsV RX8 233 RX8 yX8_tryHingeAt wsX8_tryHingeAt) := goodIn_app (goodIn_of _ (by decide +kernel)) ggX8_bestHinge_X8_tryHingeAt
set_option maxRecDepth 20000 in
theorem ggX8_bestHinge_X4_find : GoodIn wsX8_bestHinge wsX4_find := goodIn_r _ [145, 146, 147, 148, 149, 135, 46, 136, 150, 151, 152, 32, 153, 39, 154, 34, 155, 156, 157, 20, 158, 22, 159, 107, 108, 53, 54, 55, 56, 24, 52, 18, 19, 21, 23, 160, 161, 162, 163, 164, 165, 166, 167, 168, 169, 170, 171, 172, 173, 174, 49, 50, 51, 175, 176, 177, 178, 179, 180, 181, 182, 183, 184, 185, 186, 187, 188, 189, 190, 191, 192, 193, 194, 195, 196, 197, 198, 199, 200, 88, 201, 93, 95, 129, 202, 203, 204, 205, 206, 207, 208, 209, 210, 211, 212, 213, 214, 215, 216, 217, 218, 219, 220, 221, 144, 222, 246, 247, 240, 241, 242, 243, 244, 245, 253, 254, 255, 256, 257, 258, 259, 260, 248, 249, 250, 251, 252] (by decide +kernel) (by decide +kernel)
set_option maxRecDepth 20000 in
theorem gX8_bestHinge_X4_find : GoodIn wsX8_bestHinge (wsV RX8 212 RX4 yX4_find wsX4_find) := goodIn_app (goodIn_of _ (by decide +kernel)) ggX8_bestHinge_X4_find
set_option maxRecDepth 20000 in
theorem ggX8_bestHinge_X8_isLess : GoodIn wsX8_bestHinge wsX8_isLess := goodIn_r _ [225] (by decide +kernel) (by decide +kernel)
set_option maxRecDepth 20000 in
theorem gX8_bestHinge_X8_isLess : GoodIn wsX8_bestHinge (va_wsS RX8 236 yX8_isLess wsX8_isLess) := goodIn_app (goodIn_of _ (by decide +kernel)) ggX8_bestHinge_X8_isLess
theorem dX8_bestHinge_0 : decode cX8_bestHinge 0 = .ok (.aload_n 0, 1) := by decide +kernel
theorem dX8_bestHinge_1 : decode cX8_bestHinge 1 = .ok (.aload_n 0, 1) := by decide +kernel
theorem dX8_bestHinge_2 : decode cX8_bestHinge 2 = .ok (.getfield 23, 3) := by decide +kernel
theorem dX8_bestHinge_5 : decode cX8_bestHinge 5 = .ok (.getfield 138, 3) := by decide +kernel
theorem dX8_bestHinge_8 : decode cX8_bestHinge 8 = .ok (.iload_n 1, 1) := by decide +kernel
theorem dX8_bestHinge_9 : decode cX8_bestHinge 9 = .ok (.invokevirtual 171, 3) := by decide +kernel
theorem dX8_bestHinge_12 : decode cX8_bestHinge 12 = .ok (.iconst (-1), 1) := by decide +kernel
theorem dX8_bestHinge_13 : decode cX8_bestHinge 13 = .ok (.istore_n 2, 1) := by decide +kernel
theorem dX8_bestHinge_14 : decode cX8_bestHinge 14 = .ok (.lconst 0, 1) := by decide +kernel
theorem dX8_bestHinge_15 : decode cX8_bestHinge 15 = .ok (.lstore_n 3, 1) := by decide +kernel
theorem dX8_bestHinge_16 : decode cX8_bestHinge 16 = .ok (.lconst 1, 1) := by decide +kernel
theorem dX8_bestHinge_17 : decode cX8_bestHinge 17 = .ok (.lstore 5, 2) := by decide +kernel
theorem dX8_bestHinge_19 : decode cX8_bestHinge 19 = .ok (.iconst 1, 1) := by decide +kernel
theorem dX8_bestHinge_20 : decode cX8_bestHinge 20 = .ok (.istore 7, 2) := by decide +kernel
theorem dX8_bestHinge_22 : decode cX8_bestHinge 22 = .ok (.iload 7, 2) := by decide +kernel
theorem dX8_bestHinge_24 : decode cX8_bestHinge 24 = .ok (.aload_n 0, 1) := by decide +kernel
theorem dX8_bestHinge_25 : decode cX8_bestHinge 25 = .ok (.getfield 23, 3) := by decide +kernel
theorem dX8_bestHinge_28 : decode cX8_bestHinge 28 = .ok (.getfield 79, 3) := by decide +kernel
theorem dX8_bestHinge_31 : decode cX8_bestHinge 31 = .ok (.if_icmp .ge 89, 3) := by decide +kernel
theorem dX8_bestHinge_34 : decode cX8_bestHinge 34 = .ok (.aload_n 0, 1) := by decide +kernel
theorem dX8_bestHinge_35 : decode cX8_bestHinge 35 = .ok (.iload_n 1, 1) := by decide +kernel
theorem dX8_bestHinge_36 : decode cX8_bestHinge 36 = .ok (.iload 7, 2) := by decide +kernel
theorem dX8_bestHinge_38 : decode cX8_bestHinge 38 = .ok (.invokevirtual 233, 3) := by decide +kernel
theorem dX8_bestHinge_41 : decode cX8_bestHinge 41 = .ok (.ifCond .ge 6, 3) := by decide +kernel
theorem dX8_bestHinge_44 : decode cX8_bestHinge 44 = .ok (.goto 70, 3) := by decide +kernel
theorem dX8_bestHinge_47 : decode cX8_bestHinge 47 = .ok (.aload_n 0, 1) := by decide +kernel
theorem dX8_bestHinge_48 : decode cX8_bestHinge 48 = .ok (.getfield 53, 3) := by decide +kernel
theorem dX8_bestHinge_51 : decode cX8_bestHinge 51 = .ok (.aload_n 0, 1) := by decide +kernel
theorem dX8_bestHinge_52 : decode cX8_bestHinge 52 = .ok (.getfield 34, 3) := by decide +kernel
theorem dX8_bestHinge_55 : decode cX8_bestHinge 55 = .ok (.aload_n 0, 1) := by decide +kernel
theorem dX8_bestHinge_56 : decode cX8_bestHinge 56 = .ok (.getfield 37, 3) := by decide +kernel
theorem dX8_bestHinge_59 : decode cX8_bestHinge 59 = .ok (.aload_n 0, 1) := by decide +kernel
theorem dX8_bestHinge_60 : decode cX8_bestHinge 60 = .ok (.getfield 43, 3) := by decide +kernel
theorem dX8_bestHinge_63 : decode cX8_bestHinge 63 = .ok (.invokevirtual 212, 3) := by decide +kernel
theorem dX8_bestHinge_66 : decode cX8_bestHinge 66 = .ok (.iload_n 2, 1) := by decide +kernel
theorem dX8_bestHinge_67 : decode cX8_bestHinge 67 = .ok (.iconst (-1), 1) := by decide +kernel
theorem dX8_bestHinge_68 : decode cX8_bestHinge 68 = .ok (.if_icmp .eq 26, 3) := by decide +kernel
theorem dX8_bestHinge_71 : decode cX8_bestHinge 71 = .ok (.aload_n 0, 1) := by decide +kernel
theorem dX8_bestHinge_72 : decode cX8_bestHinge 72 = .ok (.getfield 53, 3) := by decide +kernel
theorem dX8_bestHinge_75 : decode cX8_bestHinge 75 = .ok (.getfield 228, 3) := by decide +kernel
theorem dX8_bestHinge_78 : decode cX8_bestHinge 78 = .ok (.aload_n 0, 1) := by decide +kernel
theorem dX8_bestHinge_79 : decode cX8_bestHinge 79 = .ok (.getfield 37, 3) := by decide +kernel
theorem dX8_bestHinge_82 : decode cX8_bestHinge 82 = .ok (.getfield 157, 3) := by decide +kernel
theorem dX8_bestHinge_85 : decode cX8_bestHinge 85 = .ok (.lload_n 3, 1) := by decide +kernel
theorem dX8_bestHinge_86 : decode cX8_bestHinge 86 = .ok (.lload 5, 2) := by decide +kernel
theorem dX8_bestHinge_88 : decode cX8_bestHinge 88 = .ok (.invokestatic 236, 3) := by decide +kernel
theorem dX8_bestHinge_91 : decode cX8_bestHinge 91 = .ok (.ifCond .eq 23, 3) := by decide +kernel
theorem dX8_bestHinge_94 : decode cX8_bestHinge 94 = .ok (.iload 7, 2) := by decide +kernel
theorem dX8_bestHinge_96 : decode cX8_bestHinge 96 = .ok (.istore_n 2, 1) := by decide +kernel
theorem dX8_bestHinge_97 : decode cX8_bestHinge 97 = .ok (.aload_n 0, 1) := by decide +kernel
theorem dX8_bestHinge_98 : decode cX8_bestHinge 98 = .ok (.getfield 53, 3) := by decide +kernel
theorem dX8_bestHinge_101 : decode cX8_bestHinge 101 = .ok (.getfield 228, 3) := by decide +kernel
theorem dX8_bestHinge_104 : decode cX8_bestHinge 104 = .ok (.lstore_n 3, 1) := by decide +kernel
theorem dX8_bestHinge_105 : decode cX8_bestHinge 105 = .ok (.aload_n 0, 1) := by decide +kernel
theorem dX8_bestHinge_106 : decode cX8_bestHinge 106 = .ok (.getfield 37, 3) := by decide +kernel
theorem dX8_bestHinge_109 : decode cX8_bestHinge 109 = .ok (.getfield 157, 3) := by decide +kernel
theorem dX8_bestHinge_112 : decode cX8_bestHinge 112 = .ok (.lstore 5, 2) := by decide +kernel
theorem dX8_bestHinge_114 : decode cX8_bestHinge 114 = .ok (.iinc 7 1, 3) := by decide +kernel
theorem dX8_bestHinge_117 : decode cX8_bestHinge 117 = .ok (.goto (-95), 3) := by decide +kernel
theorem dX8_bestHinge_120 : decode cX8_bestHinge 120 = .ok (.iload_n 2, 1) := by decide +kernel
theorem dX8_bestHinge_121 : decode cX8_bestHinge 121 = .ok (.ireturn, 1) := by decide +kernel
set_option maxRecDepth 20000 in
theorem ggX8_strongest_X1_underAll : GoodIn wsX8_strongest wsX1_underAll := goodIn_r _ [15, 16, 17, 18, 19, 20, 14, 21, 22, 23, 24, 25, 26, 27, 28, 29, 30, 31, 32, 33, 34, 35, 36, 37, 38, 39, 40, 41, 42, 43, 44, 45, 46, 47, 48, 49, 50, 51, 52, 53, 54, 55, 56, 57, 58, 59, 60, 61, 62, 63, 64, 65, 66, 67, 68, 69, 70, 71, 72, 73, 74, 75, 76, 77, 78, 79, 80, 81, 82, 83, 84, 85, 147, 148, 149, 150, 151, 152, 153, 154, 155, 156, 157, 158, 159, 160, 161, 162, 163, 164, 165] (by decide +kernel) (by decide +kernel)
set_option maxRecDepth 20000 in
theorem gX8_strongest_X1_underAll : GoodIn wsX8_strongest (wsV RX8 199 RX1 yX1_underAll wsX1_underAll) := goodIn_app (goodIn_of _ (by decide +kernel)) ggX8_strongest_X1_underAll
set_option maxRecDepth 20000 in
theorem ggX8_strongest_X1_firstReason : GoodIn wsX8_strongest wsX1_firstReason := goodIn_r _ [89, 90, 91, 92, 14, 93, 23, 94, 95, 96, 97, 78, 17, 60, 37, 38, 39, 28, 40, 36, 31, 32, 33, 34, 35, 30, 82, 83, 84, 85, 98, 99, 100, 101, 102, 77, 103, 104, 9, 105, 106, 107, 108, 109, 79, 156, 157, 158, 159, 160, 147, 148, 149, 150, 151, 152, 153, 154, 155, 161, 162, 163, 164, 165] (by decide +kernel) (by decide +kernel)
set_option maxRecDepth 20000 in
theorem gX8_strongest_X1_firstReason : GoodIn wsX8_strongest (wsV RX8 240 RX1 yX1_firstReason wsX1_firstReason) := goodIn_app (goodIn_of _ (by decide +kernel)) ggX8_strongest_X1_firstReason
set_option maxRecDepth 20000 in
theorem ggX8_strongest_X1_underOne : GoodIn wsX8_strongest wsX1_underOne := goodIn_r _ [113, 18, 19, 20, 14, 21, 22, 23, 24, 41, 42, 43, 44, 45, 46, 47, 48, 49, 50, 56, 57, 58, 59, 60, 61, 62, 63, 64, 65, 66, 67, 68, 69, 70, 71, 72, 73, 74, 75, 76, 77, 78, 79, 80, 81, 32, 33, 28, 34, 35, 30, 36, 25, 26, 27, 29, 31, 82, 83, 84, 85, 156, 157, 158, 159, 160, 147, 148, 149, 150, 151, 152, 161, 162, 163, 164, 165, 153, 154, 155] (by decide +kernel) (by decide +kernel)
set_option maxRecDepth 20000 in
theorem gX8_strongest_X1_underOne : GoodIn wsX8_strongest (wsV RX8 182 RX1 yX1_underOne wsX1_underOne) := goodIn_app (goodIn_of _ (by decide +kernel)) ggX8_strongest_X1_underOne
set_option maxRecDepth 20000 in
theorem ggX8_strongest_X8_weightThatSupportsBear : GoodIn wsX8_strongest wsX8_weightThatSupportsBear := goodIn_r _ [118, 4, 2, 119, 120, 1, 6, 7, 8, 9, 10, 3, 121, 122, 83, 84, 14, 85, 23, 123, 124, 117, 125, 126, 38, 39, 28, 40, 36, 31, 32, 33, 34, 35, 30, 133, 134, 135, 136, 137, 138, 139, 140, 141, 142, 143, 144, 145, 146, 147, 148, 149, 150, 151, 152, 153, 154, 155, 161, 162, 163, 164, 165, 156, 157, 158, 159, 160] (by decide +kernel) (by decide +kernel)
set_option maxRecDepth 20000 in
theorem gX8_strongest_X8_weightThatSupportsBear : GoodIn wsX8_strongest (wsV RX8 246 RX8 yX8_weightThatSupportsBear wsX8_weightThatSupportsBear) := goodIn_app (goodIn_of _ (by decide +kernel)) ggX8_strongest_X8_weightThatSupportsBear
set_option maxRecDepth 20000 in
theorem ggX8_strongest_X8_weightThatMomentsAllow : GoodIn wsX8_strongest wsX8_weightThatMomentsAllow := goodIn_r _ [130, 4, 3, 121, 2, 131, 5, 1, 6, 7, 8, 9, 10, 132, 107, 108, 14, 109, 79, 123, 124, 117, 125, 133, 134, 135, 136, 137, 138, 139, 140, 141, 142, 143, 144, 145, 146, 161, 162, 163, 164, 165, 147, 148, 149, 150, 151, 152, 156, 157, 158, 159, 160] (by decide +kernel) (by decide +kernel)
set_option maxRecDepth 20000 in
theorem gX8_strongest_X8_weightThatMomentsAllow : GoodIn wsX8_strongest (wsV RX8 256 RX8 yX8_weightThatMomentsAllow wsX8_weightThatMomentsAllow) := goodIn_app (goodIn_of _ (by decide +kernel)) ggX8_strongest_X8_weightThatMomentsAllow
theorem dX8_strongest_0 : decode cX8_strongest 0 = .ok (.aload_n 0, 1) := by decide +kernel
theorem dX8_strongest_1 : decode cX8_strongest 1 = .ok (.getfield 47, 3) := by decide +kernel
theorem dX8_strongest_4 : decode cX8_strongest 4 = .ok (.aload_n 0, 1) := by decide +kernel
theorem dX8_strongest_5 : decode cX8_strongest 5 = .ok (.getfield 23, 3) := by decide +kernel
theorem dX8_strongest_8 : decode cX8_strongest 8 = .ok (.aload_n 0, 1) := by decide +kernel
theorem dX8_strongest_9 : decode cX8_strongest 9 = .ok (.getfield 30, 3) := by decide +kernel
theorem dX8_strongest_12 : decode cX8_strongest 12 = .ok (.iconst (-1), 1) := by decide +kernel
theorem dX8_strongest_13 : decode cX8_strongest 13 = .ok (.invokevirtual 199, 3) := by decide +kernel
theorem dX8_strongest_16 : decode cX8_strongest 16 = .ok (.aload_n 0, 1) := by decide +kernel
theorem dX8_strongest_17 : decode cX8_strongest 17 = .ok (.getfield 47, 3) := by decide +kernel
theorem dX8_strongest_20 : decode cX8_strongest 20 = .ok (.aload_n 0, 1) := by decide +kernel
theorem dX8_strongest_21 : decode cX8_strongest 21 = .ok (.getfield 23, 3) := by decide +kernel
theorem dX8_strongest_24 : decode cX8_strongest 24 = .ok (.aload_n 0, 1) := by decide +kernel
theorem dX8_strongest_25 : decode cX8_strongest 25 = .ok (.getfield 30, 3) := by decide +kernel
theorem dX8_strongest_28 : decode cX8_strongest 28 = .ok (.invokevirtual 240, 3) := by decide +kernel
theorem dX8_strongest_31 : decode cX8_strongest 31 = .ok (.ifCond .eq 5, 3) := by decide +kernel
theorem dX8_strongest_34 : decode cX8_strongest 34 = .ok (.iconst 0, 1) := by decide +kernel
theorem dX8_strongest_35 : decode cX8_strongest 35 = .ok (.ireturn, 1) := by decide +kernel
theorem dX8_strongest_36 : decode cX8_strongest 36 = .ok (.ldc2_w 244, 3) := by decide +kernel
theorem dX8_strongest_39 : decode cX8_strongest 39 = .ok (.lstore_n 1, 1) := by decide +kernel
theorem dX8_strongest_40 : decode cX8_strongest 40 = .ok (.iconst 0, 1) := by decide +kernel
theorem dX8_strongest_41 : decode cX8_strongest 41 = .ok (.istore_n 3, 1) := by decide +kernel
theorem dX8_strongest_42 : decode cX8_strongest 42 = .ok (.iload_n 3, 1) := by decide +kernel
theorem dX8_strongest_43 : decode cX8_strongest 43 = .ok (.aload_n 0, 1) := by decide +kernel
theorem dX8_strongest_44 : decode cX8_strongest 44 = .ok (.getfield 23, 3) := by decide +kernel
theorem dX8_strongest_47 : decode cX8_strongest 47 = .ok (.getfield 79, 3) := by decide +kernel
theorem dX8_strongest_50 : decode cX8_strongest 50 = .ok (.if_icmp .gt 43, 3) := by decide +kernel
theorem dX8_strongest_53 : decode cX8_strongest 53 = .ok (.aload_n 0, 1) := by decide +kernel
theorem dX8_strongest_54 : decode cX8_strongest 54 = .ok (.getfield 43, 3) := by decide +kernel
theorem dX8_strongest_57 : decode cX8_strongest 57 = .ok (.aload_n 0, 1) := by decide +kernel
theorem dX8_strongest_58 : decode cX8_strongest 58 = .ok (.getfield 23, 3) := by decide +kernel
theorem dX8_strongest_61 : decode cX8_strongest 61 = .ok (.aload_n 0, 1) := by decide +kernel
theorem dX8_strongest_62 : decode cX8_strongest 62 = .ok (.getfield 30, 3) := by decide +kernel
theorem dX8_strongest_65 : decode cX8_strongest 65 = .ok (.iload_n 3, 1) := by decide +kernel
theorem dX8_strongest_66 : decode cX8_strongest 66 = .ok (.invokevirtual 182, 3) := by decide +kernel
theorem dX8_strongest_69 : decode cX8_strongest 69 = .ok (.lload_n 1, 1) := by decide +kernel
theorem dX8_strongest_70 : decode cX8_strongest 70 = .ok (.aload_n 0, 1) := by decide +kernel
theorem dX8_strongest_71 : decode cX8_strongest 71 = .ok (.invokevirtual 246, 3) := by decide +kernel
theorem dX8_strongest_74 : decode cX8_strongest 74 = .ok (.invokestatic 250, 3) := by decide +kernel
theorem dX8_strongest_77 : decode cX8_strongest 77 = .ok (.lstore_n 1, 1) := by decide +kernel
theorem dX8_strongest_78 : decode cX8_strongest 78 = .ok (.lload_n 1, 1) := by decide +kernel
theorem dX8_strongest_79 : decode cX8_strongest 79 = .ok (.aload_n 0, 1) := by decide +kernel
theorem dX8_strongest_80 : decode cX8_strongest 80 = .ok (.invokevirtual 256, 3) := by decide +kernel
theorem dX8_strongest_83 : decode cX8_strongest 83 = .ok (.invokestatic 250, 3) := by decide +kernel
theorem dX8_strongest_86 : decode cX8_strongest 86 = .ok (.lstore_n 1, 1) := by decide +kernel
theorem dX8_strongest_87 : decode cX8_strongest 87 = .ok (.iinc 3 1, 3) := by decide +kernel
theorem dX8_strongest_90 : decode cX8_strongest 90 = .ok (.goto (-48), 3) := by decide +kernel
theorem dX8_strongest_93 : decode cX8_strongest 93 = .ok (.lload_n 1, 1) := by decide +kernel
theorem dX8_strongest_94 : decode cX8_strongest 94 = .ok (.l2i, 1) := by decide +kernel
theorem dX8_strongest_95 : decode cX8_strongest 95 = .ok (.ireturn, 1) := by decide +kernel
set_option maxRecDepth 20000 in
theorem ggX8_moveSupport_X8_needNumber : GoodIn wsX8_moveSupport wsX8_needNumber := goodIn_ca (goodIn_r _ [9, 10, 11, 12, 13, 14, 15, 16, 17, 18, 19, 179, 180, 181] (by decide +kernel) (by decide +kernel)) (goodIn_sub (fun _ h => List.mem_cons_of_mem _ (List.mem_append_right _ h)) (by decide +kernel))
set_option maxRecDepth 20000 in
theorem gX8_moveSupport_X8_needNumber : GoodIn wsX8_moveSupport (wsV RX8 171 RX8 yX8_needNumber wsX8_needNumber) := goodIn_app (goodIn_of _ (by decide +kernel)) ggX8_moveSupport_X8_needNumber
set_option maxRecDepth 20000 in
theorem ggX8_moveSupport_X8_needPlace : GoodIn wsX8_moveSupport wsX8_needPlace := goodIn_ca (goodIn_r _ [23, 10, 11, 1, 24, 25, 26, 27, 28, 29, 159, 160, 161, 162, 163, 164, 165, 166, 167, 168, 169, 170, 171, 172, 173, 174, 175, 176, 177, 178] (by decide +kernel) (by decide +kernel)) (goodIn_sub (fun _ h => List.mem_cons_of_mem _ (List.mem_append_right _ h)) (by decide +kernel))
set_option maxRecDepth 20000 in
theorem gX8_moveSupport_X8_needPlace : GoodIn wsX8_moveSupport (wsV RX8 165 RX8 yX8_needPlace wsX8_needPlace) := goodIn_app (goodIn_of _ (by decide +kernel)) ggX8_moveSupport_X8_needPlace
set_option maxRecDepth 20000 in
theorem ggX8_moveSupport_X0_copyFrom : GoodIn wsX8_moveSupport wsX0_copyFrom := goodIn_r _ [33, 29, 34, 35, 36, 37, 38, 39, 40, 41, 15, 42, 17, 18, 19, 43, 44, 45, 46, 47, 48, 49, 50, 51, 13, 14, 16, 52, 53, 54, 55, 173, 174, 175, 176, 177, 178, 179, 180, 181] (by decide +kernel) (by decide +kernel)
set_option maxRecDepth 20000 in
theorem gX8_moveSupport_X0_copyFrom : GoodIn wsX8_moveSupport (wsV RX8 128 RX0 yX0_copyFrom wsX0_copyFrom) := goodIn_app (goodIn_of _ (by decide +kernel)) ggX8_moveSupport_X0_copyFrom
set_option maxRecDepth 20000 in
theorem ggX8_moveSupport_X6_second : GoodIn wsX8_moveSupport wsX6_second := goodIn_r _ [55, 19, 51, 13, 14, 15, 16, 17, 18, 179, 180, 181] (by decide +kernel) (by decide +kernel)
set_option maxRecDepth 20000 in
theorem gX8_moveSupport_X6_second : GoodIn wsX8_moveSupport (wsV RX8 259 RX6 yX6_second wsX6_second) := goodIn_app (goodIn_of _ (by decide +kernel)) ggX8_moveSupport_X6_second
set_option maxRecDepth 20000 in
theorem ggX8_moveSupport_X6_remove : GoodIn wsX8_moveSupport wsX6_remove := goodIn_r _ [60, 17, 18, 19, 51, 13, 14, 15, 16, 179, 180, 181] (by decide +kernel) (by decide +kernel)
set_option maxRecDepth 20000 in
theorem gX8_moveSupport_X6_remove : GoodIn wsX8_moveSupport (wsV RX8 262 RX6 yX6_remove wsX6_remove) := goodIn_app (goodIn_of _ (by decide +kernel)) ggX8_moveSupport_X6_remove
set_option maxRecDepth 20000 in
theorem ggX8_moveSupport_X0_isTaken : GoodIn wsX8_moveSupport wsX0_isTaken := goodIn_r _ [64, 35, 36, 65, 66, 67, 15, 68, 17, 18, 173, 174, 175, 176, 177, 178, 179, 180, 181] (by decide +kernel) (by decide +kernel)
set_option maxRecDepth 20000 in
theorem gX8_moveSupport_X0_isTaken : GoodIn wsX8_moveSupport (wsV RX8 265 RX0 yX0_isTaken wsX0_isTaken) := goodIn_app (goodIn_of _ (by decide +kernel)) ggX8_moveSupport_X0_isTaken
set_option maxRecDepth 20000 in
theorem ggX8_moveSupport_X6_putInOrder : GoodIn wsX8_moveSupport wsX6_putInOrder := goodIn_r _ [72, 73, 74, 75, 15, 76, 17, 18, 77, 78, 79, 80, 19, 81, 82, 83, 84, 179, 180, 181] (by decide +kernel) (by decide +kernel)
set_option maxRecDepth 20000 in
theorem gX8_moveSupport_X6_putInOrder : GoodIn wsX8_moveSupport (wsV RX8 89 RX6 yX6_putInOrder wsX6_putInOrder) := goodIn_app (goodIn_of _ (by decide +kernel)) ggX8_moveSupport_X6_putInOrder
set_option maxRecDepth 20000 in
theorem ggX8_moveSupport_X3_reckon : GoodIn wsX8_moveSupport wsX3_reckon := goodIn_r _ [89, 90, 91, 92, 44, 45, 46, 93, 94, 95, 96, 97, 98, 88, 99, 100, 101, 48, 49, 15, 50, 18, 51, 13, 14, 16, 17, 19, 102, 103, 104, 105, 106, 107, 108, 109, 110, 111, 112, 113, 114, 115, 116, 117, 118, 119, 120, 121, 122, 123, 124, 125, 126, 127, 128, 129, 130, 131, 132, 133, 134, 135, 136, 137, 138, 139, 140, 173, 174, 175, 176, 177, 178, 179, 180, 181, 182, 183, 184, 185, 186] (by decide +kernel) (by decide +kernel)
set_option maxRecDepth 20000 in
theorem gX8_moveSupport_X3_reckon : GoodIn wsX8_moveSupport (wsV RX8 95 RX3 yX3_reckon wsX3_reckon) := goodIn_app (goodIn_of _ (by decide +kernel)) ggX8_moveSupport_X3_reckon
set_option maxRecDepth 20000 in
theorem ggX8_moveSupport_X8_takeTrial : GoodIn wsX8_moveSupport wsX8_takeTrial := goodIn_r _ [144, 145, 1, 3, 146, 147, 148, 149, 150, 151, 152, 153, 154, 155, 156, 157, 158, 31, 32, 27, 33, 29, 34, 35, 36, 37, 38, 39, 40, 41, 15, 42, 17, 18, 19, 43, 44, 45, 46, 47, 48, 49, 50, 51, 13, 14, 16, 52, 53, 54, 55, 30, 85, 86, 87, 88, 89, 90, 91, 92, 93, 94, 95, 96, 97, 98, 99, 100, 101, 102, 103, 104, 105, 106, 107, 108, 109, 110, 111, 112, 113, 114, 115, 116, 117, 118, 119, 120, 121, 122, 123, 124, 125, 126, 127, 128, 129, 130, 131, 132, 133, 134, 135, 136, 137, 138, 139, 140, 159, 160, 161, 162, 163, 164, 165, 166, 167, 168, 169, 170, 171, 172, 187, 188, 173, 174, 175, 176, 177, 178, 179, 180, 181, 182, 183, 184, 185, 186] (by decide +kernel) (by decide +kernel)
set_option maxRecDepth 20000 in
theorem gX8_moveSupport_X8_takeTrial : GoodIn wsX8_moveSupport (wsV RX8 132 RX8 yX8_takeTrial wsX8_takeTrial) := goodIn_app (goodIn_of _ (by decide +kernel)) ggX8_moveSupport_X8_takeTrial
theorem dX8_moveSupport_0 : decode cX8_moveSupport 0 = .ok (.aload_n 0, 1) := by decide +kernel
theorem dX8_moveSupport_1 : decode cX8_moveSupport 1 = .ok (.aload_n 0, 1) := by decide +kernel
theorem dX8_moveSupport_2 : decode cX8_moveSupport 2 = .ok (.getfield 23, 3) := by decide +kernel
theorem dX8_moveSupport_5 : decode cX8_moveSupport 5 = .ok (.getfield 85, 3) := by decide +kernel
theorem dX8_moveSupport_8 : decode cX8_moveSupport 8 = .ok (.iload_n 1, 1) := by decide +kernel
theorem dX8_moveSupport_9 : decode cX8_moveSupport 9 = .ok (.invokevirtual 171, 3) := by decide +kernel
theorem dX8_moveSupport_12 : decode cX8_moveSupport 12 = .ok (.aload_n 0, 1) := by decide +kernel
theorem dX8_moveSupport_13 : decode cX8_moveSupport 13 = .ok (.iload_n 2, 1) := by decide +kernel
theorem dX8_moveSupport_14 : decode cX8_moveSupport 14 = .ok (.invokevirtual 165, 3) := by decide +kernel
theorem dX8_moveSupport_17 : decode cX8_moveSupport 17 = .ok (.aload_n 0, 1) := by decide +kernel
theorem dX8_moveSupport_18 : decode cX8_moveSupport 18 = .ok (.getfield 34, 3) := by decide +kernel
theorem dX8_moveSupport_21 : decode cX8_moveSupport 21 = .ok (.aload_n 0, 1) := by decide +kernel
theorem dX8_moveSupport_22 : decode cX8_moveSupport 22 = .ok (.getfield 23, 3) := by decide +kernel
theorem dX8_moveSupport_25 : decode cX8_moveSupport 25 = .ok (.invokevirtual 128, 3) := by decide +kernel
theorem dX8_moveSupport_28 : decode cX8_moveSupport 28 = .ok (.aload_n 0, 1) := by decide +kernel
theorem dX8_moveSupport_29 : decode cX8_moveSupport 29 = .ok (.getfield 34, 3) := by decide +kernel
theorem dX8_moveSupport_32 : decode cX8_moveSupport 32 = .ok (.getfield 85, 3) := by decide +kernel
theorem dX8_moveSupport_35 : decode cX8_moveSupport 35 = .ok (.iload_n 1, 1) := by decide +kernel
theorem dX8_moveSupport_36 : decode cX8_moveSupport 36 = .ok (.invokevirtual 259, 3) := by decide +kernel
theorem dX8_moveSupport_39 : decode cX8_moveSupport 39 = .ok (.istore_n 3, 1) := by decide +kernel
theorem dX8_moveSupport_40 : decode cX8_moveSupport 40 = .ok (.aload_n 0, 1) := by decide +kernel
theorem dX8_moveSupport_41 : decode cX8_moveSupport 41 = .ok (.getfield 34, 3) := by decide +kernel
theorem dX8_moveSupport_44 : decode cX8_moveSupport 44 = .ok (.getfield 85, 3) := by decide +kernel
theorem dX8_moveSupport_47 : decode cX8_moveSupport 47 = .ok (.iload_n 1, 1) := by decide +kernel
theorem dX8_moveSupport_48 : decode cX8_moveSupport 48 = .ok (.invokevirtual 262, 3) := by decide +kernel
theorem dX8_moveSupport_51 : decode cX8_moveSupport 51 = .ok (.aload_n 0, 1) := by decide +kernel
theorem dX8_moveSupport_52 : decode cX8_moveSupport 52 = .ok (.getfield 34, 3) := by decide +kernel
theorem dX8_moveSupport_55 : decode cX8_moveSupport 55 = .ok (.iload_n 2, 1) := by decide +kernel
theorem dX8_moveSupport_56 : decode cX8_moveSupport 56 = .ok (.invokevirtual 265, 3) := by decide +kernel
theorem dX8_moveSupport_59 : decode cX8_moveSupport 59 = .ok (.ifCond .eq 6, 3) := by decide +kernel
theorem dX8_moveSupport_62 : decode cX8_moveSupport 62 = .ok (.bipush (-11), 2) := by decide +kernel
theorem dX8_moveSupport_64 : decode cX8_moveSupport 64 = .ok (.ireturn, 1) := by decide +kernel
theorem dX8_moveSupport_65 : decode cX8_moveSupport 65 = .ok (.aload_n 0, 1) := by decide +kernel
theorem dX8_moveSupport_66 : decode cX8_moveSupport 66 = .ok (.getfield 34, 3) := by decide +kernel
theorem dX8_moveSupport_69 : decode cX8_moveSupport 69 = .ok (.getfield 85, 3) := by decide +kernel
theorem dX8_moveSupport_72 : decode cX8_moveSupport 72 = .ok (.iload_n 2, 1) := by decide +kernel
theorem dX8_moveSupport_73 : decode cX8_moveSupport 73 = .ok (.iload_n 3, 1) := by decide +kernel
theorem dX8_moveSupport_74 : decode cX8_moveSupport 74 = .ok (.invokevirtual 89, 3) := by decide +kernel
theorem dX8_moveSupport_77 : decode cX8_moveSupport 77 = .ok (.istore 4, 2) := by decide +kernel
theorem dX8_moveSupport_79 : decode cX8_moveSupport 79 = .ok (.aload_n 0, 1) := by decide +kernel
theorem dX8_moveSupport_80 : decode cX8_moveSupport 80 = .ok (.getfield 37, 3) := by decide +kernel
theorem dX8_moveSupport_83 : decode cX8_moveSupport 83 = .ok (.aload_n 0, 1) := by decide +kernel
theorem dX8_moveSupport_84 : decode cX8_moveSupport 84 = .ok (.getfield 34, 3) := by decide +kernel
theorem dX8_moveSupport_87 : decode cX8_moveSupport 87 = .ok (.invokevirtual 95, 3) := by decide +kernel
theorem dX8_moveSupport_90 : decode cX8_moveSupport 90 = .ok (.ifCond .ne 6, 3) := by decide +kernel
theorem dX8_moveSupport_93 : decode cX8_moveSupport 93 = .ok (.bipush (-12), 2) := by decide +kernel
theorem dX8_moveSupport_95 : decode cX8_moveSupport 95 = .ok (.ireturn, 1) := by decide +kernel
theorem dX8_moveSupport_96 : decode cX8_moveSupport 96 = .ok (.aload_n 0, 1) := by decide +kernel
theorem dX8_moveSupport_97 : decode cX8_moveSupport 97 = .ok (.invokevirtual 132, 3) := by decide +kernel
theorem dX8_moveSupport_100 : decode cX8_moveSupport 100 = .ok (.iload 4, 2) := by decide +kernel
theorem dX8_moveSupport_102 : decode cX8_moveSupport 102 = .ok (.ireturn, 1) := by decide +kernel
set_option maxRecDepth 20000 in
theorem ggX8_moveHinge_X8_needNumber : GoodIn wsX8_moveHinge wsX8_needNumber := goodIn_ca (goodIn_r _ [7, 8, 9, 10, 11, 12, 13, 14, 15, 16, 17, 185, 186, 187] (by decide +kernel) (by decide +kernel)) (goodIn_sub (fun _ h => List.mem_cons_of_mem _ (List.mem_append_left _ (List.mem_append_right _ h))) (by decide +kernel))
set_option maxRecDepth 20000 in
theorem gX8_moveHinge_X8_needNumber : GoodIn wsX8_moveHinge (wsV RX8 171 RX8 yX8_needNumber wsX8_needNumber) := goodIn_app (goodIn_of _ (by decide +kernel)) ggX8_moveHinge_X8_needNumber
set_option maxRecDepth 20000 in
theorem ggX8_moveHinge_X8_needHingePlace : GoodIn wsX8_moveHinge wsX8_needHingePlace := goodIn_ca (goodIn_r _ [21, 1, 22, 23, 24, 25, 6, 26, 27, 28, 165, 166, 167, 168, 169, 170, 171, 172, 173, 174, 175, 176, 177, 178, 179, 180, 181, 182, 183, 184] (by decide +kernel) (by decide +kernel)) (goodIn_sub (fun _ h => List.mem_cons_of_mem _ (List.mem_append_right _ h)) (by decide +kernel))
set_option maxRecDepth 20000 in
theorem gX8_moveHinge_X8_needHingePlace : GoodIn wsX8_moveHinge (wsV RX8 230 RX8 yX8_needHingePlace wsX8_needHingePlace) := goodIn_app (goodIn_of _ (by decide +kernel)) ggX8_moveHinge_X8_needHingePlace
set_option maxRecDepth 20000 in
theorem ggX8_moveHinge_X8_tryHingeAt : GoodIn wsX8_moveHinge wsX8_tryHingeAt := goodIn_r _ [32, 33, 1, 2, 34, 35, 36, 37, 38, 39, 40, 41, 42, 43, 44, 45, 46, 47, 48, 13, 49, 15, 16, 17, 50, 51, 52, 53, 54, 55, 56, 57, 58, 11, 12, 14, 59, 60, 61, 62, 63, 64, 65, 66, 67, 68, 69, 70, 71, 72, 73, 74, 75, 76, 77, 78, 79, 80, 81, 82, 83, 84, 85, 86, 87, 88, 89, 90, 91, 92, 93, 94, 95, 96, 97, 98, 99, 100, 101, 102, 103, 104, 105, 106, 107, 108, 109, 110, 111, 112, 113, 114, 115, 116, 117, 118, 119, 120, 121, 122, 123, 124, 125, 126, 127, 128, 129, 130, 131, 132, 133, 134, 135, 136, 137, 138, 139, 140, 141, 142, 143, 144, 145, 146, 165, 166, 167, 168, 169, 170, 171, 172, 173, 174, 175, 176, 177, 178, 179, 180, 181, 182, 183, 184, 185, 186, 187, 188, 189, 190, 191, 192] (by decide +kernel) (by decide +kernel)
set_option maxRecDepth 20000 in
theorem gX8_moveHinge_X8_tryHingeAt : GoodIn wsX8_moveHinge (wsV RX8 233 RX8 yX8_tryHingeAt wsX8_tryHingeAt) := goodIn_app (goodIn_of _ (by decide +kernel)) ggX8_moveHinge_X8_tryHingeAt
set_option maxRecDepth 20000 in
theorem ggX8_moveHinge_X8_takeTrial : GoodIn wsX8_moveHinge wsX8_takeTrial := goodIn_r _ [150, 151, 1, 33, 152, 153, 154, 155, 156, 157, 158, 159, 160, 161, 162, 163, 164, 36, 37, 38, 39, 40, 41, 42, 43, 44, 45, 46, 47, 48, 13, 49, 15, 16, 17, 50, 51, 52, 53, 54, 55, 56, 57, 58, 11, 12, 14, 59, 60, 61, 62, 35, 91, 92, 93, 94, 95, 96, 97, 98, 99, 100, 101, 102, 103, 104, 105, 106, 107, 108, 109, 110, 111, 112, 113, 114, 115, 116, 117, 118, 119, 120, 121, 122, 123, 124, 125, 126, 127, 128, 129, 130, 131, 132, 133, 134, 135, 136, 137, 138, 139, 140, 141, 142, 143, 144, 145, 146, 165, 166, 167, 168, 169, 170, 171, 172, 173, 174, 175, 176, 177, 178, 193, 194, 179, 180, 181, 182, 183, 184, 185, 186, 187, 188, 189, 190, 191, 192] (by decide +kernel) (by decide +kernel)
set_option maxRecDepth 20000 in
theorem gX8_moveHinge_X8_takeTrial : GoodIn wsX8_moveHinge (wsV RX8 132 RX8 yX8_takeTrial wsX8_takeTrial) := goodIn_app (goodIn_of _ (by decide +kernel)) ggX8_moveHinge_X8_takeTrial
theorem dX8_moveHinge_0 : decode cX8_moveHinge 0 = .ok (.aload_n 0, 1) := by decide +kernel
theorem dX8_moveHinge_1 : decode cX8_moveHinge 1 = .ok (.aload_n 0, 1) := by decide +kernel
theorem dX8_moveHinge_2 : decode cX8_moveHinge 2 = .ok (.getfield 23, 3) := by decide +kernel
theorem dX8_moveHinge_5 : decode cX8_moveHinge 5 = .ok (.getfield 138, 3) := by decide +kernel
theorem dX8_moveHinge_8 : decode cX8_moveHinge 8 = .ok (.iload_n 1, 1) := by decide +kernel
theorem dX8_moveHinge_9 : decode cX8_moveHinge 9 = .ok (.invokevirtual 171, 3) := by decide +kernel
theorem dX8_moveHinge_12 : decode cX8_moveHinge 12 = .ok (.aload_n 0, 1) := by decide +kernel
theorem dX8_moveHinge_13 : decode cX8_moveHinge 13 = .ok (.iload_n 2, 1) := by decide +kernel
theorem dX8_moveHinge_14 : decode cX8_moveHinge 14 = .ok (.invokevirtual 230, 3) := by decide +kernel
theorem dX8_moveHinge_17 : decode cX8_moveHinge 17 = .ok (.aload_n 0, 1) := by decide +kernel
theorem dX8_moveHinge_18 : decode cX8_moveHinge 18 = .ok (.iload_n 1, 1) := by decide +kernel
theorem dX8_moveHinge_19 : decode cX8_moveHinge 19 = .ok (.iload_n 2, 1) := by decide +kernel
theorem dX8_moveHinge_20 : decode cX8_moveHinge 20 = .ok (.invokevirtual 233, 3) := by decide +kernel
theorem dX8_moveHinge_23 : decode cX8_moveHinge 23 = .ok (.istore_n 3, 1) := by decide +kernel
theorem dX8_moveHinge_24 : decode cX8_moveHinge 24 = .ok (.iload_n 3, 1) := by decide +kernel
theorem dX8_moveHinge_25 : decode cX8_moveHinge 25 = .ok (.ifCond .lt 7, 3) := by decide +kernel
theorem dX8_moveHinge_28 : decode cX8_moveHinge 28 = .ok (.aload_n 0, 1) := by decide +kernel
theorem dX8_moveHinge_29 : decode cX8_moveHinge 29 = .ok (.invokevirtual 132, 3) := by decide +kernel
theorem dX8_moveHinge_32 : decode cX8_moveHinge 32 = .ok (.iload_n 3, 1) := by decide +kernel
theorem dX8_moveHinge_33 : decode cX8_moveHinge 33 = .ok (.ireturn, 1) := by decide +kernel
set_option maxRecDepth 20000 in
theorem ggX8_addLoad_X8_needPlace : GoodIn wsX8_addLoad wsX8_needPlace := goodIn_ca (goodIn_r _ [7, 8, 9, 1, 10, 11, 12, 13, 14, 15, 84, 85, 86, 87, 88, 89, 90, 91, 92, 93, 94, 95, 96, 97, 98, 99, 100, 101, 102, 103] (by decide +kernel) (by decide +kernel)) (goodIn_sub (fun _ h => List.mem_cons_of_mem _ (List.mem_append_left _ (List.mem_append_right _ h))) (by decide +kernel))
set_option maxRecDepth 20000 in
theorem gX8_addLoad_X8_needPlace : GoodIn wsX8_addLoad (wsV RX8 165 RX8 yX8_needPlace wsX8_needPlace) := goodIn_app (goodIn_of _ (by decide +kernel)) ggX8_addLoad_X8_needPlace
set_option maxRecDepth 20000 in
theorem ggX8_addLoad_X8_needRange : GoodIn wsX8_addLoad wsX8_needRange := goodIn_ca (goodIn_r _ [19, 20, 21] (by decide +kernel) (by decide +kernel)) (goodIn_sub (fun _ h => List.mem_cons_of_mem _ (List.mem_append_right _ h)) (by decide +kernel))
set_option maxRecDepth 20000 in
theorem gX8_addLoad_X8_needRange : GoodIn wsX8_addLoad (wsV RX8 269 RX8 yX8_needRange wsX8_needRange) := goodIn_app (goodIn_of _ (by decide +kernel)) ggX8_addLoad_X8_needRange
set_option maxRecDepth 20000 in
theorem ggX8_addLoad_X8_addPair : GoodIn wsX8_addLoad wsX8_addPair := goodIn_r _ [25, 26, 1, 27, 28, 29, 30, 31, 32, 33, 34, 35, 36, 37, 38, 39, 40, 41, 42, 43, 44, 45, 46, 47, 48, 13, 49, 15, 50, 51, 52, 53, 54, 55, 56, 57, 58, 59, 60, 61, 62, 63, 64, 65, 66, 67, 68, 69, 70, 71, 72, 73, 74, 75, 76, 77, 78, 79, 80, 81, 82, 83, 84, 85, 86, 87, 88, 89, 90, 91, 92, 93, 94, 95, 96, 97, 104, 105, 106, 107, 108, 98, 99, 100, 101, 102, 103] (by decide +kernel) (by decide +kernel)
set_option maxRecDepth 20000 in
theorem gX8_addLoad_X8_addPair : GoodIn wsX8_addLoad (wsV RX8 273 RX8 yX8_addPair wsX8_addPair) := goodIn_app (goodIn_of _ (by decide +kernel)) ggX8_addLoad_X8_addPair
theorem dX8_addLoad_0 : decode cX8_addLoad 0 = .ok (.aload_n 0, 1) := by decide +kernel
theorem dX8_addLoad_1 : decode cX8_addLoad 1 = .ok (.iload_n 2, 1) := by decide +kernel
theorem dX8_addLoad_2 : decode cX8_addLoad 2 = .ok (.invokevirtual 165, 3) := by decide +kernel
theorem dX8_addLoad_5 : decode cX8_addLoad 5 = .ok (.aload_n 0, 1) := by decide +kernel
theorem dX8_addLoad_6 : decode cX8_addLoad 6 = .ok (.iload_n 1, 1) := by decide +kernel
theorem dX8_addLoad_7 : decode cX8_addLoad 7 = .ok (.iconst 1, 1) := by decide +kernel
theorem dX8_addLoad_8 : decode cX8_addLoad 8 = .ok (.sipush 999, 3) := by decide +kernel
theorem dX8_addLoad_11 : decode cX8_addLoad 11 = .ok (.invokevirtual 269, 3) := by decide +kernel
theorem dX8_addLoad_14 : decode cX8_addLoad 14 = .ok (.aload_n 0, 1) := by decide +kernel
theorem dX8_addLoad_15 : decode cX8_addLoad 15 = .ok (.aload_n 0, 1) := by decide +kernel
theorem dX8_addLoad_16 : decode cX8_addLoad 16 = .ok (.getfield 23, 3) := by decide +kernel
theorem dX8_addLoad_19 : decode cX8_addLoad 19 = .ok (.getfield 141, 3) := by decide +kernel
theorem dX8_addLoad_22 : decode cX8_addLoad 22 = .ok (.iload_n 1, 1) := by decide +kernel
theorem dX8_addLoad_23 : decode cX8_addLoad 23 = .ok (.iload_n 2, 1) := by decide +kernel
theorem dX8_addLoad_24 : decode cX8_addLoad 24 = .ok (.bipush (-13), 2) := by decide +kernel
theorem dX8_addLoad_26 : decode cX8_addLoad 26 = .ok (.invokevirtual 273, 3) := by decide +kernel
theorem dX8_addLoad_29 : decode cX8_addLoad 29 = .ok (.ireturn, 1) := by decide +kernel
set_option maxRecDepth 20000 in
theorem ggX8_dropLoad_X8_dropPair : GoodIn wsX8_dropLoad wsX8_dropPair := goodIn_ca (goodIn_r _ [7, 8, 1, 9, 10, 11, 6, 12, 13, 14, 15, 16, 17, 18, 19, 20, 21, 22, 23, 24, 25, 26, 27, 28, 29, 30, 31, 32, 33, 34, 35, 36, 37, 38, 39, 40, 41, 42, 43, 44, 45, 46, 47, 48, 49, 50, 51, 52, 53, 54, 55, 56, 57, 58, 59, 60, 61, 62, 63, 64, 65, 66, 67, 68, 69, 70, 71, 72, 73, 74, 75, 76, 77, 78, 79, 80, 87, 88, 89, 90, 91, 81, 82, 83, 84, 85, 86] (by decide +kernel) (by decide +kernel)) (goodIn_sub (fun _ h => List.mem_cons_of_mem _ (List.mem_append_right _ h)) (by decide +kernel))
set_option maxRecDepth 20000 in
theorem gX8_dropLoad_X8_dropPair : GoodIn wsX8_dropLoad (wsV RX8 277 RX8 yX8_dropPair wsX8_dropPair) := goodIn_app (goodIn_of _ (by decide +kernel)) ggX8_dropLoad_X8_dropPair
theorem dX8_dropLoad_0 : decode cX8_dropLoad 0 = .ok (.aload_n 0, 1) := by decide +kernel
theorem dX8_dropLoad_1 : decode cX8_dropLoad 1 = .ok (.aload_n 0, 1) := by decide +kernel
theorem dX8_dropLoad_2 : decode cX8_dropLoad 2 = .ok (.getfield 23, 3) := by decide +kernel
theorem dX8_dropLoad_5 : decode cX8_dropLoad 5 = .ok (.getfield 141, 3) := by decide +kernel
theorem dX8_dropLoad_8 : decode cX8_dropLoad 8 = .ok (.iload_n 1, 1) := by decide +kernel
theorem dX8_dropLoad_9 : decode cX8_dropLoad 9 = .ok (.invokevirtual 277, 3) := by decide +kernel
theorem dX8_dropLoad_12 : decode cX8_dropLoad 12 = .ok (.ireturn, 1) := by decide +kernel
set_option maxRecDepth 20000 in
theorem ggX8_addAxle_X8_needRange : GoodIn wsX8_addAxle wsX8_needRange := goodIn_ca (goodIn_r _ [7, 8, 9] (by decide +kernel) (by decide +kernel)) (goodIn_sub (fun _ h => List.mem_cons_of_mem _ (List.mem_append_right _ h)) (by decide +kernel))
set_option maxRecDepth 20000 in
theorem gX8_addAxle_X8_needRange : GoodIn wsX8_addAxle (wsV RX8 269 RX8 yX8_needRange wsX8_needRange) := goodIn_app (goodIn_of _ (by decide +kernel)) ggX8_addAxle_X8_needRange
set_option maxRecDepth 20000 in
theorem ggX8_addAxle_X8_addPair : GoodIn wsX8_addAxle wsX8_addPair := goodIn_r _ [13, 14, 1, 15, 16, 17, 18, 19, 20, 21, 22, 23, 24, 25, 26, 27, 28, 29, 30, 31, 32, 33, 34, 35, 36, 37, 38, 39, 40, 41, 42, 43, 44, 45, 46, 47, 48, 49, 50, 51, 52, 53, 54, 55, 56, 57, 58, 59, 60, 61, 62, 63, 64, 65, 66, 67, 68, 69, 70, 71, 72, 73, 74, 75, 76, 77, 78, 79, 80, 81, 82, 83, 84, 85, 86, 87, 94, 95, 96, 97, 98, 88, 89, 90, 91, 92, 93] (by decide +kernel) (by decide +kernel)
set_option maxRecDepth 20000 in
theorem gX8_addAxle_X8_addPair : GoodIn wsX8_addAxle (wsV RX8 273 RX8 yX8_addPair wsX8_addPair) := goodIn_app (goodIn_of _ (by decide +kernel)) ggX8_addAxle_X8_addPair
theorem dX8_addAxle_0 : decode cX8_addAxle 0 = .ok (.aload_n 0, 1) := by decide +kernel
theorem dX8_addAxle_1 : decode cX8_addAxle 1 = .ok (.iload_n 1, 1) := by decide +kernel
theorem dX8_addAxle_2 : decode cX8_addAxle 2 = .ok (.iconst 1, 1) := by decide +kernel
theorem dX8_addAxle_3 : decode cX8_addAxle 3 = .ok (.sipush 999, 3) := by decide +kernel
theorem dX8_addAxle_6 : decode cX8_addAxle 6 = .ok (.invokevirtual 269, 3) := by decide +kernel
theorem dX8_addAxle_9 : decode cX8_addAxle 9 = .ok (.aload_n 0, 1) := by decide +kernel
theorem dX8_addAxle_10 : decode cX8_addAxle 10 = .ok (.iload_n 2, 1) := by decide +kernel
theorem dX8_addAxle_11 : decode cX8_addAxle 11 = .ok (.iconst 0, 1) := by decide +kernel
theorem dX8_addAxle_12 : decode cX8_addAxle 12 = .ok (.bipush 30, 2) := by decide +kernel
theorem dX8_addAxle_14 : decode cX8_addAxle 14 = .ok (.invokevirtual 269, 3) := by decide +kernel
theorem dX8_addAxle_17 : decode cX8_addAxle 17 = .ok (.aload_n 0, 1) := by decide +kernel
theorem dX8_addAxle_18 : decode cX8_addAxle 18 = .ok (.aload_n 0, 1) := by decide +kernel
theorem dX8_addAxle_19 : decode cX8_addAxle 19 = .ok (.getfield 23, 3) := by decide +kernel
theorem dX8_addAxle_22 : decode cX8_addAxle 22 = .ok (.getfield 144, 3) := by decide +kernel
theorem dX8_addAxle_25 : decode cX8_addAxle 25 = .ok (.iload_n 1, 1) := by decide +kernel
theorem dX8_addAxle_26 : decode cX8_addAxle 26 = .ok (.iload_n 2, 1) := by decide +kernel
theorem dX8_addAxle_27 : decode cX8_addAxle 27 = .ok (.bipush (-14), 2) := by decide +kernel
theorem dX8_addAxle_29 : decode cX8_addAxle 29 = .ok (.invokevirtual 273, 3) := by decide +kernel
theorem dX8_addAxle_32 : decode cX8_addAxle 32 = .ok (.ireturn, 1) := by decide +kernel
set_option maxRecDepth 20000 in
theorem ggX8_dropAxle_X8_dropPair : GoodIn wsX8_dropAxle wsX8_dropPair := goodIn_ca (goodIn_r _ [7, 8, 1, 9, 10, 11, 6, 12, 13, 14, 15, 16, 17, 18, 19, 20, 21, 22, 23, 24, 25, 26, 27, 28, 29, 30, 31, 32, 33, 34, 35, 36, 37, 38, 39, 40, 41, 42, 43, 44, 45, 46, 47, 48, 49, 50, 51, 52, 53, 54, 55, 56, 57, 58, 59, 60, 61, 62, 63, 64, 65, 66, 67, 68, 69, 70, 71, 72, 73, 74, 75, 76, 77, 78, 79, 80, 87, 88, 89, 90, 91, 81, 82, 83, 84, 85, 86] (by decide +kernel) (by decide +kernel)) (goodIn_sub (fun _ h => List.mem_cons_of_mem _ (List.mem_append_right _ h)) (by decide +kernel))
set_option maxRecDepth 20000 in
theorem gX8_dropAxle_X8_dropPair : GoodIn wsX8_dropAxle (wsV RX8 277 RX8 yX8_dropPair wsX8_dropPair) := goodIn_app (goodIn_of _ (by decide +kernel)) ggX8_dropAxle_X8_dropPair
theorem dX8_dropAxle_0 : decode cX8_dropAxle 0 = .ok (.aload_n 0, 1) := by decide +kernel
theorem dX8_dropAxle_1 : decode cX8_dropAxle 1 = .ok (.aload_n 0, 1) := by decide +kernel
theorem dX8_dropAxle_2 : decode cX8_dropAxle 2 = .ok (.getfield 23, 3) := by decide +kernel
theorem dX8_dropAxle_5 : decode cX8_dropAxle 5 = .ok (.getfield 144, 3) := by decide +kernel
theorem dX8_dropAxle_8 : decode cX8_dropAxle 8 = .ok (.iload_n 1, 1) := by decide +kernel
theorem dX8_dropAxle_9 : decode cX8_dropAxle 9 = .ok (.invokevirtual 277, 3) := by decide +kernel
theorem dX8_dropAxle_12 : decode cX8_dropAxle 12 = .ok (.ireturn, 1) := by decide +kernel
set_option maxRecDepth 20000 in
theorem ggX8_setBearing_X8_needNumber : GoodIn wsX8_setBearing wsX8_needNumber := goodIn_ca (goodIn_r _ [9, 10, 11, 12, 13, 14, 15, 16, 17, 18, 19, 90, 91, 92] (by decide +kernel) (by decide +kernel)) (goodIn_sub (fun _ h => List.mem_cons_of_mem _ (List.mem_append_left _ (List.mem_append_right _ h))) (by decide +kernel))
set_option maxRecDepth 20000 in
theorem gX8_setBearing_X8_needNumber : GoodIn wsX8_setBearing (wsV RX8 171 RX8 yX8_needNumber wsX8_needNumber) := goodIn_app (goodIn_of _ (by decide +kernel)) ggX8_setBearing_X8_needNumber
set_option maxRecDepth 20000 in
theorem ggX8_setBearing_X8_needRange : GoodIn wsX8_setBearing wsX8_needRange := goodIn_ca (goodIn_r _ [23, 24, 25] (by decide +kernel) (by decide +kernel)) (goodIn_sub (fun _ h => List.mem_cons_of_mem _ (List.mem_append_right _ h)) (by decide +kernel))
set_option maxRecDepth 20000 in
theorem gX8_setBearing_X8_needRange : GoodIn wsX8_setBearing (wsV RX8 269 RX8 yX8_needRange wsX8_needRange) := goodIn_app (goodIn_of _ (by decide +kernel)) ggX8_setBearing_X8_needRange
set_option maxRecDepth 20000 in
theorem ggX8_setBearing_X2_remember : GoodIn wsX8_setBearing wsX2_remember := goodIn_r _ [30, 31, 32, 33, 34, 35, 29, 36, 37, 38, 39, 40, 41, 42, 43, 44, 45, 46, 47, 48, 49, 50, 15, 51, 17, 18, 19, 52, 53, 54, 55, 56, 57, 58, 59, 60, 13, 14, 16, 61, 62, 63, 64, 93, 94, 84, 85, 86, 87, 88, 89, 90, 91, 92] (by decide +kernel) (by decide +kernel)
set_option maxRecDepth 20000 in
theorem gX8_setBearing_X2_remember : GoodIn wsX8_setBearing (wsV RX8 282 RX2 yX2_remember wsX2_remember) := goodIn_app (goodIn_of _ (by decide +kernel)) ggX8_setBearing_X2_remember
set_option maxRecDepth 20000 in
theorem ggX8_setBearing_X6_second : GoodIn wsX8_setBearing wsX6_second := goodIn_r _ [64, 19, 60, 13, 14, 15, 16, 17, 18, 90, 91, 92] (by decide +kernel) (by decide +kernel)
set_option maxRecDepth 20000 in
theorem gX8_setBearing_X6_second : GoodIn wsX8_setBearing (wsV RX8 259 RX6 yX6_second wsX6_second) := goodIn_app (goodIn_of _ (by decide +kernel)) ggX8_setBearing_X6_second
set_option maxRecDepth 20000 in
theorem ggX8_setBearing_X6_setSecond : GoodIn wsX8_setBearing wsX6_setSecond := goodIn_r _ [69, 19, 60, 13, 14, 15, 16, 17, 18, 90, 91, 92] (by decide +kernel) (by decide +kernel)
set_option maxRecDepth 20000 in
theorem gX8_setBearing_X6_setSecond : GoodIn wsX8_setBearing (wsV RX8 285 RX6 yX6_setSecond wsX6_setSecond) := goodIn_app (goodIn_of _ (by decide +kernel)) ggX8_setBearing_X6_setSecond
theorem dX8_setBearing_0 : decode cX8_setBearing 0 = .ok (.aload_n 0, 1) := by decide +kernel
theorem dX8_setBearing_1 : decode cX8_setBearing 1 = .ok (.aload_n 0, 1) := by decide +kernel
theorem dX8_setBearing_2 : decode cX8_setBearing 2 = .ok (.getfield 23, 3) := by decide +kernel
theorem dX8_setBearing_5 : decode cX8_setBearing 5 = .ok (.getfield 85, 3) := by decide +kernel
theorem dX8_setBearing_8 : decode cX8_setBearing 8 = .ok (.iload_n 1, 1) := by decide +kernel
theorem dX8_setBearing_9 : decode cX8_setBearing 9 = .ok (.invokevirtual 171, 3) := by decide +kernel
theorem dX8_setBearing_12 : decode cX8_setBearing 12 = .ok (.iload_n 2, 1) := by decide +kernel
theorem dX8_setBearing_13 : decode cX8_setBearing 13 = .ok (.iconst (-1), 1) := by decide +kernel
theorem dX8_setBearing_14 : decode cX8_setBearing 14 = .ok (.if_icmp .eq 12, 3) := by decide +kernel
theorem dX8_setBearing_17 : decode cX8_setBearing 17 = .ok (.aload_n 0, 1) := by decide +kernel
theorem dX8_setBearing_18 : decode cX8_setBearing 18 = .ok (.iload_n 2, 1) := by decide +kernel
theorem dX8_setBearing_19 : decode cX8_setBearing 19 = .ok (.iconst 1, 1) := by decide +kernel
theorem dX8_setBearing_20 : decode cX8_setBearing 20 = .ok (.ldc_w 281, 3) := by decide +kernel
theorem dX8_setBearing_23 : decode cX8_setBearing 23 = .ok (.invokevirtual 269, 3) := by decide +kernel
theorem dX8_setBearing_26 : decode cX8_setBearing 26 = .ok (.aload_n 0, 1) := by decide +kernel
theorem dX8_setBearing_27 : decode cX8_setBearing 27 = .ok (.getfield 60, 3) := by decide +kernel
theorem dX8_setBearing_30 : decode cX8_setBearing 30 = .ok (.aload_n 0, 1) := by decide +kernel
theorem dX8_setBearing_31 : decode cX8_setBearing 31 = .ok (.getfield 23, 3) := by decide +kernel
theorem dX8_setBearing_34 : decode cX8_setBearing 34 = .ok (.invokevirtual 282, 3) := by decide +kernel
theorem dX8_setBearing_37 : decode cX8_setBearing 37 = .ok (.aload_n 0, 1) := by decide +kernel
theorem dX8_setBearing_38 : decode cX8_setBearing 38 = .ok (.getfield 23, 3) := by decide +kernel
theorem dX8_setBearing_41 : decode cX8_setBearing 41 = .ok (.getfield 85, 3) := by decide +kernel
theorem dX8_setBearing_44 : decode cX8_setBearing 44 = .ok (.iload_n 1, 1) := by decide +kernel
theorem dX8_setBearing_45 : decode cX8_setBearing 45 = .ok (.invokevirtual 259, 3) := by decide +kernel
theorem dX8_setBearing_48 : decode cX8_setBearing 48 = .ok (.istore_n 3, 1) := by decide +kernel
theorem dX8_setBearing_49 : decode cX8_setBearing 49 = .ok (.aload_n 0, 1) := by decide +kernel
theorem dX8_setBearing_50 : decode cX8_setBearing 50 = .ok (.getfield 23, 3) := by decide +kernel
theorem dX8_setBearing_53 : decode cX8_setBearing 53 = .ok (.getfield 85, 3) := by decide +kernel
theorem dX8_setBearing_56 : decode cX8_setBearing 56 = .ok (.iload_n 1, 1) := by decide +kernel
theorem dX8_setBearing_57 : decode cX8_setBearing 57 = .ok (.iload_n 2, 1) := by decide +kernel
theorem dX8_setBearing_58 : decode cX8_setBearing 58 = .ok (.invokevirtual 285, 3) := by decide +kernel
theorem dX8_setBearing_61 : decode cX8_setBearing 61 = .ok (.iload_n 3, 1) := by decide +kernel
theorem dX8_setBearing_62 : decode cX8_setBearing 62 = .ok (.ireturn, 1) := by decide +kernel
set_option maxRecDepth 20000 in
theorem ggX8_setMost_X8_needRange : GoodIn wsX8_setMost wsX8_needRange := goodIn_ca (goodIn_r _ [9, 10, 11] (by decide +kernel) (by decide +kernel)) (goodIn_sub (fun _ h => List.mem_cons_of_mem _ (List.mem_append_right _ h)) (by decide +kernel))
set_option maxRecDepth 20000 in
theorem gX8_setMost_X8_needRange : GoodIn wsX8_setMost (wsV RX8 269 RX8 yX8_needRange wsX8_needRange) := goodIn_app (goodIn_of _ (by decide +kernel)) ggX8_setMost_X8_needRange
set_option maxRecDepth 20000 in
theorem ggX8_setMost_X2_remember : GoodIn wsX8_setMost wsX2_remember := goodIn_r _ [16, 17, 18, 19, 20, 21, 15, 22, 23, 24, 25, 26, 27, 28, 29, 30, 31, 32, 33, 34, 35, 36, 37, 38, 39, 40, 41, 42, 43, 44, 45, 46, 47, 48, 49, 50, 51, 52, 53, 54, 55, 56, 57, 78, 79, 72, 73, 74, 75, 76, 77, 80, 81, 82] (by decide +kernel) (by decide +kernel)
set_option maxRecDepth 20000 in
theorem gX8_setMost_X2_remember : GoodIn wsX8_setMost (wsV RX8 282 RX2 yX2_remember wsX2_remember) := goodIn_app (goodIn_of _ (by decide +kernel)) ggX8_setMost_X2_remember
theorem dX8_setMost_0 : decode cX8_setMost 0 = .ok (.aload_n 0, 1) := by decide +kernel
theorem dX8_setMost_1 : decode cX8_setMost 1 = .ok (.iload_n 1, 1) := by decide +kernel
theorem dX8_setMost_2 : decode cX8_setMost 2 = .ok (.iconst 1, 1) := by decide +kernel
theorem dX8_setMost_3 : decode cX8_setMost 3 = .ok (.ldc_w 289, 3) := by decide +kernel
theorem dX8_setMost_6 : decode cX8_setMost 6 = .ok (.invokevirtual 269, 3) := by decide +kernel
theorem dX8_setMost_9 : decode cX8_setMost 9 = .ok (.aload_n 0, 1) := by decide +kernel
theorem dX8_setMost_10 : decode cX8_setMost 10 = .ok (.getfield 60, 3) := by decide +kernel
theorem dX8_setMost_13 : decode cX8_setMost 13 = .ok (.aload_n 0, 1) := by decide +kernel
theorem dX8_setMost_14 : decode cX8_setMost 14 = .ok (.getfield 23, 3) := by decide +kernel
theorem dX8_setMost_17 : decode cX8_setMost 17 = .ok (.invokevirtual 282, 3) := by decide +kernel
theorem dX8_setMost_20 : decode cX8_setMost 20 = .ok (.aload_n 0, 1) := by decide +kernel
theorem dX8_setMost_21 : decode cX8_setMost 21 = .ok (.getfield 23, 3) := by decide +kernel
theorem dX8_setMost_24 : decode cX8_setMost 24 = .ok (.getfield 82, 3) := by decide +kernel
theorem dX8_setMost_27 : decode cX8_setMost 27 = .ok (.istore_n 2, 1) := by decide +kernel
theorem dX8_setMost_28 : decode cX8_setMost 28 = .ok (.aload_n 0, 1) := by decide +kernel
theorem dX8_setMost_29 : decode cX8_setMost 29 = .ok (.getfield 23, 3) := by decide +kernel
theorem dX8_setMost_32 : decode cX8_setMost 32 = .ok (.iload_n 1, 1) := by decide +kernel
theorem dX8_setMost_33 : decode cX8_setMost 33 = .ok (.putfield 82, 3) := by decide +kernel
theorem dX8_setMost_36 : decode cX8_setMost 36 = .ok (.iload_n 2, 1) := by decide +kernel
theorem dX8_setMost_37 : decode cX8_setMost 37 = .ok (.ireturn, 1) := by decide +kernel
set_option maxRecDepth 20000 in
theorem ggX8_undo_X2_takeBack : GoodIn wsX8_undo wsX2_takeBack := goodIn_r _ [11, 12, 13, 14, 15, 16, 17, 18, 19, 20, 21, 22, 23, 24, 25, 26, 27, 28, 29, 30, 31, 32, 33, 34, 35, 36, 37, 38, 39, 40, 41, 42, 43, 44, 45, 46, 47, 48, 119, 120, 121, 122, 123, 124, 125, 126, 127, 128, 129] (by decide +kernel) (by decide +kernel)
set_option maxRecDepth 20000 in
theorem gX8_undo_X2_takeBack : GoodIn wsX8_undo (wsV RX8 290 RX2 yX2_takeBack wsX2_takeBack) := goodIn_app (goodIn_of _ (by decide +kernel)) ggX8_undo_X2_takeBack
set_option maxRecDepth 20000 in
theorem ggX8_undo_X3_reckon : GoodIn wsX8_undo wsX3_reckon := goodIn_r _ [53, 54, 55, 56, 34, 35, 36, 57, 58, 59, 60, 61, 62, 52, 63, 64, 65, 38, 39, 28, 40, 31, 41, 42, 43, 44, 30, 32, 66, 67, 68, 69, 70, 71, 72, 73, 74, 75, 76, 77, 78, 79, 80, 81, 82, 83, 84, 85, 86, 87, 88, 89, 90, 91, 92, 93, 94, 95, 96, 97, 98, 99, 100, 101, 102, 103, 104, 121, 122, 123, 124, 125, 126, 127, 128, 129, 130, 131, 132, 133, 134] (by decide +kernel) (by decide +kernel)
set_option maxRecDepth 20000 in
theorem gX8_undo_X3_reckon : GoodIn wsX8_undo (wsV RX8 95 RX3 yX3_reckon wsX3_reckon) := goodIn_app (goodIn_of _ (by decide +kernel)) ggX8_undo_X3_reckon
theorem dX8_undo_0 : decode cX8_undo 0 = .ok (.aload_n 0, 1) := by decide +kernel
theorem dX8_undo_1 : decode cX8_undo 1 = .ok (.getfield 60, 3) := by decide +kernel
theorem dX8_undo_4 : decode cX8_undo 4 = .ok (.aload_n 0, 1) := by decide +kernel
theorem dX8_undo_5 : decode cX8_undo 5 = .ok (.getfield 23, 3) := by decide +kernel
theorem dX8_undo_8 : decode cX8_undo 8 = .ok (.invokevirtual 290, 3) := by decide +kernel
theorem dX8_undo_11 : decode cX8_undo 11 = .ok (.ifCond .ne 11, 3) := by decide +kernel
theorem dX8_undo_14 : decode cX8_undo 14 = .ok (.new 110, 3) := by decide +kernel
theorem dX8_undo_17 : decode cX8_undo 17 = .ok (.dup, 1) := by decide +kernel
theorem dX8_undo_18 : decode cX8_undo 18 = .ok (.invokespecial 112, 3) := by decide +kernel
theorem dX8_undo_21 : decode cX8_undo 21 = .ok (.athrow, 1) := by decide +kernel
theorem dX8_undo_22 : decode cX8_undo 22 = .ok (.aload_n 0, 1) := by decide +kernel
theorem dX8_undo_23 : decode cX8_undo 23 = .ok (.getfield 30, 3) := by decide +kernel
theorem dX8_undo_26 : decode cX8_undo 26 = .ok (.aload_n 0, 1) := by decide +kernel
theorem dX8_undo_27 : decode cX8_undo 27 = .ok (.getfield 23, 3) := by decide +kernel
theorem dX8_undo_30 : decode cX8_undo 30 = .ok (.invokevirtual 95, 3) := by decide +kernel
theorem dX8_undo_33 : decode cX8_undo 33 = .ok (.pop, 1) := by decide +kernel
theorem dX8_undo_34 : decode cX8_undo 34 = .ok (.aload_n 0, 1) := by decide +kernel
theorem dX8_undo_35 : decode cX8_undo 35 = .ok (.getfield 60, 3) := by decide +kernel
theorem dX8_undo_38 : decode cX8_undo 38 = .ok (.getfield 293, 3) := by decide +kernel
theorem dX8_undo_41 : decode cX8_undo 41 = .ok (.ireturn, 1) := by decide +kernel
set_option maxRecDepth 20000 in
theorem ggX8_save_X8_needSlot : GoodIn wsX8_save wsX8_needSlot := goodIn_ca (goodIn_r _ [8, 9, 10] (by decide +kernel) (by decide +kernel)) (goodIn_sub (fun _ h => List.mem_cons_of_mem _ (List.mem_append_right _ h)) (by decide +kernel))
set_option maxRecDepth 20000 in
theorem gX8_save_X8_needSlot : GoodIn wsX8_save (wsV RX8 294 RX8 yX8_needSlot wsX8_needSlot) := goodIn_app (goodIn_of _ (by decide +kernel)) ggX8_save_X8_needSlot
set_option maxRecDepth 20000 in
theorem ggX8_save_X0_copyFrom : GoodIn wsX8_save wsX0_copyFrom := goodIn_r _ [15, 16, 17, 18, 19, 20, 21, 22, 23, 24, 25, 26, 27, 28, 29, 30, 31, 32, 33, 34, 35, 36, 37, 38, 39, 40, 41, 42, 43, 44, 45, 60, 61, 62, 63, 64, 65, 66, 67, 68] (by decide +kernel) (by decide +kernel)
set_option maxRecDepth 20000 in
theorem gX8_save_X0_copyFrom : GoodIn wsX8_save (wsV RX8 128 RX0 yX0_copyFrom wsX0_copyFrom) := goodIn_app (goodIn_of _ (by decide +kernel)) ggX8_save_X0_copyFrom
theorem dX8_save_0 : decode cX8_save 0 = .ok (.aload_n 0, 1) := by decide +kernel
theorem dX8_save_1 : decode cX8_save 1 = .ok (.iload_n 1, 1) := by decide +kernel
theorem dX8_save_2 : decode cX8_save 2 = .ok (.invokevirtual 294, 3) := by decide +kernel
theorem dX8_save_5 : decode cX8_save 5 = .ok (.aload_n 0, 1) := by decide +kernel
theorem dX8_save_6 : decode cX8_save 6 = .ok (.getfield 64, 3) := by decide +kernel
theorem dX8_save_9 : decode cX8_save 9 = .ok (.iload_n 1, 1) := by decide +kernel
theorem dX8_save_10 : decode cX8_save 10 = .ok (.aaload, 1) := by decide +kernel
theorem dX8_save_11 : decode cX8_save 11 = .ok (.aload_n 0, 1) := by decide +kernel
theorem dX8_save_12 : decode cX8_save 12 = .ok (.getfield 23, 3) := by decide +kernel
theorem dX8_save_15 : decode cX8_save 15 = .ok (.invokevirtual 128, 3) := by decide +kernel
theorem dX8_save_18 : decode cX8_save 18 = .ok (.aload_n 0, 1) := by decide +kernel
theorem dX8_save_19 : decode cX8_save 19 = .ok (.getfield 68, 3) := by decide +kernel
theorem dX8_save_22 : decode cX8_save 22 = .ok (.iload_n 1, 1) := by decide +kernel
theorem dX8_save_23 : decode cX8_save 23 = .ok (.iconst 1, 1) := by decide +kernel
theorem dX8_save_24 : decode cX8_save 24 = .ok (.bastore, 1) := by decide +kernel
theorem dX8_save_25 : decode cX8_save 25 = .ok (.return_, 1) := by decide +kernel
set_option maxRecDepth 20000 in
theorem ggX8_restore_X8_needSlot : GoodIn wsX8_restore wsX8_needSlot := goodIn_ca (goodIn_r _ [14, 15, 16] (by decide +kernel) (by decide +kernel)) (goodIn_sub (fun _ h => List.mem_cons_of_mem _ (List.mem_append_right _ h)) (by decide +kernel))
set_option maxRecDepth 20000 in
theorem gX8_restore_X8_needSlot : GoodIn wsX8_restore (wsV RX8 294 RX8 yX8_needSlot wsX8_needSlot) := goodIn_app (goodIn_of _ (by decide +kernel)) ggX8_restore_X8_needSlot
set_option maxRecDepth 20000 in
theorem ggX8_restore_X2_remember : GoodIn wsX8_restore wsX2_remember := goodIn_r _ [21, 22, 23, 24, 25, 26, 20, 27, 28, 29, 30, 31, 32, 33, 34, 35, 36, 37, 38, 39, 40, 41, 42, 43, 44, 45, 46, 47, 48, 49, 50, 51, 52, 53, 54, 55, 56, 57, 58, 59, 60, 61, 62, 143, 144, 134, 135, 136, 137, 138, 139, 140, 141, 142] (by decide +kernel) (by decide +kernel)
set_option maxRecDepth 20000 in
theorem gX8_restore_X2_remember : GoodIn wsX8_restore (wsV RX8 282 RX2 yX2_remember wsX2_remember) := goodIn_app (goodIn_of _ (by decide +kernel)) ggX8_restore_X2_remember
set_option maxRecDepth 20000 in
theorem ggX8_restore_X0_copyFrom : GoodIn wsX8_restore wsX0_copyFrom := goodIn_r _ [32, 33, 34, 35, 36, 37, 38, 39, 40, 41, 42, 43, 44, 45, 46, 47, 48, 49, 50, 51, 52, 53, 54, 55, 56, 57, 58, 59, 60, 61, 62, 134, 135, 136, 137, 138, 139, 140, 141, 142] (by decide +kernel) (by decide +kernel)
set_option maxRecDepth 20000 in
theorem gX8_restore_X0_copyFrom : GoodIn wsX8_restore (wsV RX8 128 RX0 yX0_copyFrom wsX0_copyFrom) := goodIn_app (goodIn_of _ (by decide +kernel)) ggX8_restore_X0_copyFrom
set_option maxRecDepth 20000 in
theorem ggX8_restore_X3_reckon : GoodIn wsX8_restore wsX3_reckon := goodIn_r _ [68, 69, 70, 71, 48, 49, 50, 72, 73, 74, 75, 76, 77, 67, 78, 79, 80, 52, 53, 42, 54, 45, 55, 56, 57, 58, 44, 46, 81, 82, 83, 84, 85, 86, 87, 88, 89, 90, 91, 92, 93, 94, 95, 96, 97, 98, 99, 100, 101, 102, 103, 104, 105, 106, 107, 108, 109, 110, 111, 112, 113, 114, 115, 116, 117, 118, 119, 134, 135, 136, 137, 138, 139, 140, 141, 142, 145, 146, 147, 148, 149] (by decide +kernel) (by decide +kernel)
set_option maxRecDepth 20000 in
theorem gX8_restore_X3_reckon : GoodIn wsX8_restore (wsV RX8 95 RX3 yX3_reckon wsX3_reckon) := goodIn_app (goodIn_of _ (by decide +kernel)) ggX8_restore_X3_reckon
theorem dX8_restore_0 : decode cX8_restore 0 = .ok (.aload_n 0, 1) := by decide +kernel
theorem dX8_restore_1 : decode cX8_restore 1 = .ok (.iload_n 1, 1) := by decide +kernel
theorem dX8_restore_2 : decode cX8_restore 2 = .ok (.invokevirtual 294, 3) := by decide +kernel
theorem dX8_restore_5 : decode cX8_restore 5 = .ok (.aload_n 0, 1) := by decide +kernel
theorem dX8_restore_6 : decode cX8_restore 6 = .ok (.getfield 68, 3) := by decide +kernel
theorem dX8_restore_9 : decode cX8_restore 9 = .ok (.iload_n 1, 1) := by decide +kernel
theorem dX8_restore_10 : decode cX8_restore 10 = .ok (.baload, 1) := by decide +kernel
theorem dX8_restore_11 : decode cX8_restore 11 = .ok (.ifCond .ne 11, 3) := by decide +kernel
theorem dX8_restore_14 : decode cX8_restore 14 = .ok (.new 110, 3) := by decide +kernel
theorem dX8_restore_17 : decode cX8_restore 17 = .ok (.dup, 1) := by decide +kernel
theorem dX8_restore_18 : decode cX8_restore 18 = .ok (.invokespecial 112, 3) := by decide +kernel
theorem dX8_restore_21 : decode cX8_restore 21 = .ok (.athrow, 1) := by decide +kernel
theorem dX8_restore_22 : decode cX8_restore 22 = .ok (.aload_n 0, 1) := by decide +kernel
theorem dX8_restore_23 : decode cX8_restore 23 = .ok (.getfield 60, 3) := by decide +kernel
theorem dX8_restore_26 : decode cX8_restore 26 = .ok (.aload_n 0, 1) := by decide +kernel
theorem dX8_restore_27 : decode cX8_restore 27 = .ok (.getfield 23, 3) := by decide +kernel
theorem dX8_restore_30 : decode cX8_restore 30 = .ok (.invokevirtual 282, 3) := by decide +kernel
theorem dX8_restore_33 : decode cX8_restore 33 = .ok (.aload_n 0, 1) := by decide +kernel
theorem dX8_restore_34 : decode cX8_restore 34 = .ok (.getfield 23, 3) := by decide +kernel
theorem dX8_restore_37 : decode cX8_restore 37 = .ok (.aload_n 0, 1) := by decide +kernel
theorem dX8_restore_38 : decode cX8_restore 38 = .ok (.getfield 64, 3) := by decide +kernel
theorem dX8_restore_41 : decode cX8_restore 41 = .ok (.iload_n 1, 1) := by decide +kernel
theorem dX8_restore_42 : decode cX8_restore 42 = .ok (.aaload, 1) := by decide +kernel
theorem dX8_restore_43 : decode cX8_restore 43 = .ok (.invokevirtual 128, 3) := by decide +kernel
theorem dX8_restore_46 : decode cX8_restore 46 = .ok (.aload_n 0, 1) := by decide +kernel
theorem dX8_restore_47 : decode cX8_restore 47 = .ok (.getfield 30, 3) := by decide +kernel
theorem dX8_restore_50 : decode cX8_restore 50 = .ok (.aload_n 0, 1) := by decide +kernel
theorem dX8_restore_51 : decode cX8_restore 51 = .ok (.getfield 23, 3) := by decide +kernel
theorem dX8_restore_54 : decode cX8_restore 54 = .ok (.invokevirtual 95, 3) := by decide +kernel
theorem dX8_restore_57 : decode cX8_restore 57 = .ok (.pop, 1) := by decide +kernel
theorem dX8_restore_58 : decode cX8_restore 58 = .ok (.aload_n 0, 1) := by decide +kernel
theorem dX8_restore_59 : decode cX8_restore 59 = .ok (.getfield 23, 3) := by decide +kernel
theorem dX8_restore_62 : decode cX8_restore 62 = .ok (.getfield 85, 3) := by decide +kernel
theorem dX8_restore_65 : decode cX8_restore 65 = .ok (.getfield 135, 3) := by decide +kernel
theorem dX8_restore_68 : decode cX8_restore 68 = .ok (.ireturn, 1) := by decide +kernel
set_option maxRecDepth 20000 in
theorem ggX8_writeBeam_X0_signAt : GoodIn wsX8_writeBeam wsX0_signAt := goodIn_r _ [9, 10, 11, 12, 13, 14, 15, 16, 17, 18, 19, 20, 21, 22, 23, 24, 39, 40, 41, 42, 43, 44, 45, 46, 47] (by decide +kernel) (by decide +kernel)
set_option maxRecDepth 20000 in
theorem gX8_writeBeam_X0_signAt : GoodIn wsX8_writeBeam (wsV RX8 297 RX0 yX0_signAt wsX0_signAt) := goodIn_app (goodIn_of _ (by decide +kernel)) ggX8_writeBeam_X0_signAt
theorem dX8_writeBeam_0 : decode cX8_writeBeam 0 = .ok (.aload_n 0, 1) := by decide +kernel
theorem dX8_writeBeam_1 : decode cX8_writeBeam 1 = .ok (.aload_n 0, 1) := by decide +kernel
theorem dX8_writeBeam_2 : decode cX8_writeBeam 2 = .ok (.getfield 23, 3) := by decide +kernel
theorem dX8_writeBeam_5 : decode cX8_writeBeam 5 = .ok (.getfield 79, 3) := by decide +kernel
theorem dX8_writeBeam_8 : decode cX8_writeBeam 8 = .ok (.iconst 1, 1) := by decide +kernel
theorem dX8_writeBeam_9 : decode cX8_writeBeam 9 = .ok (.iadd, 1) := by decide +kernel
theorem dX8_writeBeam_10 : decode cX8_writeBeam 10 = .ok (.putfield 76, 3) := by decide +kernel
theorem dX8_writeBeam_13 : decode cX8_writeBeam 13 = .ok (.iconst 0, 1) := by decide +kernel
theorem dX8_writeBeam_14 : decode cX8_writeBeam 14 = .ok (.istore_n 1, 1) := by decide +kernel
theorem dX8_writeBeam_15 : decode cX8_writeBeam 15 = .ok (.iload_n 1, 1) := by decide +kernel
theorem dX8_writeBeam_16 : decode cX8_writeBeam 16 = .ok (.aload_n 0, 1) := by decide +kernel
theorem dX8_writeBeam_17 : decode cX8_writeBeam 17 = .ok (.getfield 76, 3) := by decide +kernel
theorem dX8_writeBeam_20 : decode cX8_writeBeam 20 = .ok (.if_icmp .ge 29, 3) := by decide +kernel
theorem dX8_writeBeam_23 : decode cX8_writeBeam 23 = .ok (.iload_n 1, 1) := by decide +kernel
theorem dX8_writeBeam_24 : decode cX8_writeBeam 24 = .ok (.bipush 31, 2) := by decide +kernel
theorem dX8_writeBeam_26 : decode cX8_writeBeam 26 = .ok (.if_icmp .ge 23, 3) := by decide +kernel
theorem dX8_writeBeam_29 : decode cX8_writeBeam 29 = .ok (.aload_n 0, 1) := by decide +kernel
theorem dX8_writeBeam_30 : decode cX8_writeBeam 30 = .ok (.getfield 72, 3) := by decide +kernel
theorem dX8_writeBeam_33 : decode cX8_writeBeam 33 = .ok (.iload_n 1, 1) := by decide +kernel
theorem dX8_writeBeam_34 : decode cX8_writeBeam 34 = .ok (.aload_n 0, 1) := by decide +kernel
theorem dX8_writeBeam_35 : decode cX8_writeBeam 35 = .ok (.getfield 23, 3) := by decide +kernel
theorem dX8_writeBeam_38 : decode cX8_writeBeam 38 = .ok (.iload_n 1, 1) := by decide +kernel
theorem dX8_writeBeam_39 : decode cX8_writeBeam 39 = .ok (.invokevirtual 297, 3) := by decide +kernel
theorem dX8_writeBeam_42 : decode cX8_writeBeam 42 = .ok (.castore, 1) := by decide +kernel
theorem dX8_writeBeam_43 : decode cX8_writeBeam 43 = .ok (.iinc 1 1, 3) := by decide +kernel
theorem dX8_writeBeam_46 : decode cX8_writeBeam 46 = .ok (.goto (-31), 3) := by decide +kernel
theorem dX8_writeBeam_49 : decode cX8_writeBeam 49 = .ok (.aload_n 0, 1) := by decide +kernel
theorem dX8_writeBeam_50 : decode cX8_writeBeam 50 = .ok (.getfield 76, 3) := by decide +kernel
theorem dX8_writeBeam_53 : decode cX8_writeBeam 53 = .ok (.ireturn, 1) := by decide +kernel
theorem dX8_writtenByte_0 : decode cX8_writtenByte 0 = .ok (.iload_n 1, 1) := by decide +kernel
theorem dX8_writtenByte_1 : decode cX8_writtenByte 1 = .ok (.ifCond .lt 17, 3) := by decide +kernel
theorem dX8_writtenByte_4 : decode cX8_writtenByte 4 = .ok (.iload_n 1, 1) := by decide +kernel
theorem dX8_writtenByte_5 : decode cX8_writtenByte 5 = .ok (.aload_n 0, 1) := by decide +kernel
theorem dX8_writtenByte_6 : decode cX8_writtenByte 6 = .ok (.getfield 76, 3) := by decide +kernel
theorem dX8_writtenByte_9 : decode cX8_writtenByte 9 = .ok (.if_icmp .ge 9, 3) := by decide +kernel
theorem dX8_writtenByte_12 : decode cX8_writtenByte 12 = .ok (.iload_n 1, 1) := by decide +kernel
theorem dX8_writtenByte_13 : decode cX8_writtenByte 13 = .ok (.bipush 31, 2) := by decide +kernel
theorem dX8_writtenByte_15 : decode cX8_writtenByte 15 = .ok (.if_icmp .lt 11, 3) := by decide +kernel
theorem dX8_writtenByte_18 : decode cX8_writtenByte 18 = .ok (.new 301, 3) := by decide +kernel
theorem dX8_writtenByte_21 : decode cX8_writtenByte 21 = .ok (.dup, 1) := by decide +kernel
theorem dX8_writtenByte_22 : decode cX8_writtenByte 22 = .ok (.invokespecial 303, 3) := by decide +kernel
theorem dX8_writtenByte_25 : decode cX8_writtenByte 25 = .ok (.athrow, 1) := by decide +kernel
theorem dX8_writtenByte_26 : decode cX8_writtenByte 26 = .ok (.aload_n 0, 1) := by decide +kernel
theorem dX8_writtenByte_27 : decode cX8_writtenByte 27 = .ok (.getfield 72, 3) := by decide +kernel
theorem dX8_writtenByte_30 : decode cX8_writtenByte 30 = .ok (.iload_n 1, 1) := by decide +kernel
theorem dX8_writtenByte_31 : decode cX8_writtenByte 31 = .ok (.caload, 1) := by decide +kernel
theorem dX8_writtenByte_32 : decode cX8_writtenByte 32 = .ok (.ireturn, 1) := by decide +kernel
set_option maxRecDepth 20000 in
theorem ggX8_needNumber_X6_has : GoodIn wsX8_needNumber wsX6_has := goodIn_r _ [7, 8, 9, 10, 11, 12, 13] (by decide +kernel) (by decide +kernel)
set_option maxRecDepth 20000 in
theorem gX8_needNumber_X6_has : GoodIn wsX8_needNumber (wsV RX8 304 RX6 yX6_has wsX6_has) := goodIn_app (goodIn_of _ (by decide +kernel)) ggX8_needNumber_X6_has
theorem dX8_needNumber_0 : decode cX8_needNumber 0 = .ok (.aload_n 1, 1) := by decide +kernel
theorem dX8_needNumber_1 : decode cX8_needNumber 1 = .ok (.iload_n 2, 1) := by decide +kernel
theorem dX8_needNumber_2 : decode cX8_needNumber 2 = .ok (.invokevirtual 304, 3) := by decide +kernel
theorem dX8_needNumber_5 : decode cX8_needNumber 5 = .ok (.ifCond .ne 11, 3) := by decide +kernel
theorem dX8_needNumber_8 : decode cX8_needNumber 8 = .ok (.new 301, 3) := by decide +kernel
theorem dX8_needNumber_11 : decode cX8_needNumber 11 = .ok (.dup, 1) := by decide +kernel
theorem dX8_needNumber_12 : decode cX8_needNumber 12 = .ok (.invokespecial 303, 3) := by decide +kernel
theorem dX8_needNumber_15 : decode cX8_needNumber 15 = .ok (.athrow, 1) := by decide +kernel
theorem dX8_needNumber_16 : decode cX8_needNumber 16 = .ok (.return_, 1) := by decide +kernel
set_option maxRecDepth 20000 in
theorem ggX8_needPlace_X0_hasPlace : GoodIn wsX8_needPlace wsX0_hasPlace := goodIn_r _ [8, 9, 24, 25, 26, 27, 28, 29] (by decide +kernel) (by decide +kernel)
set_option maxRecDepth 20000 in
theorem gX8_needPlace_X0_hasPlace : GoodIn wsX8_needPlace (wsV RX8 307 RX0 yX0_hasPlace wsX0_hasPlace) := goodIn_app (goodIn_of _ (by decide +kernel)) ggX8_needPlace_X0_hasPlace
theorem dX8_needPlace_0 : decode cX8_needPlace 0 = .ok (.aload_n 0, 1) := by decide +kernel
theorem dX8_needPlace_1 : decode cX8_needPlace 1 = .ok (.getfield 23, 3) := by decide +kernel
theorem dX8_needPlace_4 : decode cX8_needPlace 4 = .ok (.iload_n 1, 1) := by decide +kernel
theorem dX8_needPlace_5 : decode cX8_needPlace 5 = .ok (.invokevirtual 307, 3) := by decide +kernel
theorem dX8_needPlace_8 : decode cX8_needPlace 8 = .ok (.ifCond .ne 11, 3) := by decide +kernel
theorem dX8_needPlace_11 : decode cX8_needPlace 11 = .ok (.new 301, 3) := by decide +kernel
theorem dX8_needPlace_14 : decode cX8_needPlace 14 = .ok (.dup, 1) := by decide +kernel
theorem dX8_needPlace_15 : decode cX8_needPlace 15 = .ok (.invokespecial 303, 3) := by decide +kernel
theorem dX8_needPlace_18 : decode cX8_needPlace 18 = .ok (.athrow, 1) := by decide +kernel
theorem dX8_needPlace_19 : decode cX8_needPlace 19 = .ok (.return_, 1) := by decide +kernel
theorem dX8_needField_0 : decode cX8_needField 0 = .ok (.iload_n 1, 1) := by decide +kernel
theorem dX8_needField_1 : decode cX8_needField 1 = .ok (.ifCond .lt 14, 3) := by decide +kernel
theorem dX8_needField_4 : decode cX8_needField 4 = .ok (.iload_n 1, 1) := by decide +kernel
theorem dX8_needField_5 : decode cX8_needField 5 = .ok (.aload_n 0, 1) := by decide +kernel
theorem dX8_needField_6 : decode cX8_needField 6 = .ok (.getfield 23, 3) := by decide +kernel
theorem dX8_needField_9 : decode cX8_needField 9 = .ok (.getfield 79, 3) := by decide +kernel
theorem dX8_needField_12 : decode cX8_needField 12 = .ok (.if_icmp .lt 11, 3) := by decide +kernel
theorem dX8_needField_15 : decode cX8_needField 15 = .ok (.new 301, 3) := by decide +kernel
theorem dX8_needField_18 : decode cX8_needField 18 = .ok (.dup, 1) := by decide +kernel
theorem dX8_needField_19 : decode cX8_needField 19 = .ok (.invokespecial 303, 3) := by decide +kernel
theorem dX8_needField_22 : decode cX8_needField 22 = .ok (.athrow, 1) := by decide +kernel
theorem dX8_needField_23 : decode cX8_needField 23 = .ok (.return_, 1) := by decide +kernel
theorem dX8_needSlot_0 : decode cX8_needSlot 0 = .ok (.iload_n 1, 1) := by decide +kernel
theorem dX8_needSlot_1 : decode cX8_needSlot 1 = .ok (.ifCond .lt 8, 3) := by decide +kernel
theorem dX8_needSlot_4 : decode cX8_needSlot 4 = .ok (.iload_n 1, 1) := by decide +kernel
theorem dX8_needSlot_5 : decode cX8_needSlot 5 = .ok (.iconst 2, 1) := by decide +kernel
theorem dX8_needSlot_6 : decode cX8_needSlot 6 = .ok (.if_icmp .lt 11, 3) := by decide +kernel
theorem dX8_needSlot_9 : decode cX8_needSlot 9 = .ok (.new 301, 3) := by decide +kernel
theorem dX8_needSlot_12 : decode cX8_needSlot 12 = .ok (.dup, 1) := by decide +kernel
theorem dX8_needSlot_13 : decode cX8_needSlot 13 = .ok (.invokespecial 303, 3) := by decide +kernel
theorem dX8_needSlot_16 : decode cX8_needSlot 16 = .ok (.athrow, 1) := by decide +kernel
theorem dX8_needSlot_17 : decode cX8_needSlot 17 = .ok (.return_, 1) := by decide +kernel
set_option maxRecDepth 20000 in
theorem ggX8_needHead_X0_lastHead : GoodIn wsX8_needHead wsX0_lastHead := goodIn_r _ [6, 7, 8, 9, 10, 11, 12, 13, 14, 15, 16, 17, 18, 19, 20, 21, 22, 23, 24, 25, 26, 27, 28, 29, 51, 52, 53, 54, 55, 56, 57, 58, 59] (by decide +kernel) (by decide +kernel)
set_option maxRecDepth 20000 in
theorem gX8_needHead_X0_lastHead : GoodIn wsX8_needHead (wsV RX8 151 RX0 yX0_lastHead wsX0_lastHead) := goodIn_app (goodIn_of _ (by decide +kernel)) ggX8_needHead_X0_lastHead
set_option maxRecDepth 20000 in
theorem ggX8_needHead_X8_needRange : GoodIn wsX8_needHead wsX8_needRange := goodIn_ca (goodIn_r _ [34, 35, 36] (by decide +kernel) (by decide +kernel)) (goodIn_sub (fun _ h => List.mem_cons_of_mem _ (List.mem_append_right _ h)) (by decide +kernel))
set_option maxRecDepth 20000 in
theorem gX8_needHead_X8_needRange : GoodIn wsX8_needHead (wsV RX8 269 RX8 yX8_needRange wsX8_needRange) := goodIn_app (goodIn_of _ (by decide +kernel)) ggX8_needHead_X8_needRange
theorem dX8_needHead_0 : decode cX8_needHead 0 = .ok (.aload_n 0, 1) := by decide +kernel
theorem dX8_needHead_1 : decode cX8_needHead 1 = .ok (.iload_n 1, 1) := by decide +kernel
theorem dX8_needHead_2 : decode cX8_needHead 2 = .ok (.iconst (-1), 1) := by decide +kernel
theorem dX8_needHead_3 : decode cX8_needHead 3 = .ok (.aload_n 0, 1) := by decide +kernel
theorem dX8_needHead_4 : decode cX8_needHead 4 = .ok (.getfield 23, 3) := by decide +kernel
theorem dX8_needHead_7 : decode cX8_needHead 7 = .ok (.invokevirtual 151, 3) := by decide +kernel
theorem dX8_needHead_10 : decode cX8_needHead 10 = .ok (.invokevirtual 269, 3) := by decide +kernel
theorem dX8_needHead_13 : decode cX8_needHead 13 = .ok (.return_, 1) := by decide +kernel
set_option maxRecDepth 20000 in
theorem ggX8_needHingePlace_X8_needRange : GoodIn wsX8_needHingePlace wsX8_needRange := goodIn_ca (goodIn_r _ [7, 8, 9] (by decide +kernel) (by decide +kernel)) (goodIn_sub (fun _ h => List.mem_cons_of_mem _ (List.mem_append_right _ h)) (by decide +kernel))
set_option maxRecDepth 20000 in
theorem gX8_needHingePlace_X8_needRange : GoodIn wsX8_needHingePlace (wsV RX8 269 RX8 yX8_needRange wsX8_needRange) := goodIn_app (goodIn_of _ (by decide +kernel)) ggX8_needHingePlace_X8_needRange
theorem dX8_needHingePlace_0 : decode cX8_needHingePlace 0 = .ok (.aload_n 0, 1) := by decide +kernel
theorem dX8_needHingePlace_1 : decode cX8_needHingePlace 1 = .ok (.iload_n 1, 1) := by decide +kernel
theorem dX8_needHingePlace_2 : decode cX8_needHingePlace 2 = .ok (.iconst 1, 1) := by decide +kernel
theorem dX8_needHingePlace_3 : decode cX8_needHingePlace 3 = .ok (.aload_n 0, 1) := by decide +kernel
theorem dX8_needHingePlace_4 : decode cX8_needHingePlace 4 = .ok (.getfield 23, 3) := by decide +kernel
theorem dX8_needHingePlace_7 : decode cX8_needHingePlace 7 = .ok (.getfield 79, 3) := by decide +kernel
theorem dX8_needHingePlace_10 : decode cX8_needHingePlace 10 = .ok (.iconst 1, 1) := by decide +kernel
theorem dX8_needHingePlace_11 : decode cX8_needHingePlace 11 = .ok (.isub, 1) := by decide +kernel
theorem dX8_needHingePlace_12 : decode cX8_needHingePlace 12 = .ok (.invokevirtual 269, 3) := by decide +kernel
theorem dX8_needHingePlace_15 : decode cX8_needHingePlace 15 = .ok (.return_, 1) := by decide +kernel
theorem dX8_needRange_0 : decode cX8_needRange 0 = .ok (.iload_n 1, 1) := by decide +kernel
theorem dX8_needRange_1 : decode cX8_needRange 1 = .ok (.iload_n 2, 1) := by decide +kernel
theorem dX8_needRange_2 : decode cX8_needRange 2 = .ok (.if_icmp .lt 8, 3) := by decide +kernel
theorem dX8_needRange_5 : decode cX8_needRange 5 = .ok (.iload_n 1, 1) := by decide +kernel
theorem dX8_needRange_6 : decode cX8_needRange 6 = .ok (.iload_n 3, 1) := by decide +kernel
theorem dX8_needRange_7 : decode cX8_needRange 7 = .ok (.if_icmp .le 11, 3) := by decide +kernel
theorem dX8_needRange_10 : decode cX8_needRange 10 = .ok (.new 154, 3) := by decide +kernel
theorem dX8_needRange_13 : decode cX8_needRange 13 = .ok (.dup, 1) := by decide +kernel
theorem dX8_needRange_14 : decode cX8_needRange 14 = .ok (.invokespecial 156, 3) := by decide +kernel
theorem dX8_needRange_17 : decode cX8_needRange 17 = .ok (.athrow, 1) := by decide +kernel
theorem dX8_needRange_18 : decode cX8_needRange 18 = .ok (.return_, 1) := by decide +kernel
theorem dX8_bytesIn_0 : decode cX8_bytesIn 0 = .ok (.iconst 0, 1) := by decide +kernel
theorem dX8_bytesIn_1 : decode cX8_bytesIn 1 = .ok (.istore_n 1, 1) := by decide +kernel
theorem dX8_bytesIn_2 : decode cX8_bytesIn 2 = .ok (.bipush 24, 2) := by decide +kernel
theorem dX8_bytesIn_4 : decode cX8_bytesIn 4 = .ok (.istore_n 2, 1) := by decide +kernel
theorem dX8_bytesIn_5 : decode cX8_bytesIn 5 = .ok (.iload_n 2, 1) := by decide +kernel
theorem dX8_bytesIn_6 : decode cX8_bytesIn 6 = .ok (.ifCond .lt 22, 3) := by decide +kernel
theorem dX8_bytesIn_9 : decode cX8_bytesIn 9 = .ok (.iload_n 0, 1) := by decide +kernel
theorem dX8_bytesIn_10 : decode cX8_bytesIn 10 = .ok (.iload_n 2, 1) := by decide +kernel
theorem dX8_bytesIn_11 : decode cX8_bytesIn 11 = .ok (.iushr, 1) := by decide +kernel
theorem dX8_bytesIn_12 : decode cX8_bytesIn 12 = .ok (.sipush 255, 3) := by decide +kernel
theorem dX8_bytesIn_15 : decode cX8_bytesIn 15 = .ok (.iand, 1) := by decide +kernel
theorem dX8_bytesIn_16 : decode cX8_bytesIn 16 = .ok (.ifCond .eq 6, 3) := by decide +kernel
theorem dX8_bytesIn_19 : decode cX8_bytesIn 19 = .ok (.iinc 1 1, 3) := by decide +kernel
theorem dX8_bytesIn_22 : decode cX8_bytesIn 22 = .ok (.iinc 2 (-8), 3) := by decide +kernel
theorem dX8_bytesIn_25 : decode cX8_bytesIn 25 = .ok (.goto (-20), 3) := by decide +kernel
theorem dX8_bytesIn_28 : decode cX8_bytesIn 28 = .ok (.iload_n 1, 1) := by decide +kernel
theorem dX8_bytesIn_29 : decode cX8_bytesIn 29 = .ok (.ireturn, 1) := by decide +kernel
set_option maxRecDepth 20000 in
theorem ggX8_putBytes_X7_put : GoodIn wsX8_putBytes wsX7_put := goodIn_r _ [7, 8, 9, 29, 30, 31, 32, 33, 34, 35] (by decide +kernel) (by decide +kernel)
set_option maxRecDepth 20000 in
theorem gX8_putBytes_X7_put : GoodIn wsX8_putBytes (wsV RX8 310 RX7 yX7_put wsX7_put) := goodIn_app (goodIn_of _ (by decide +kernel)) ggX8_putBytes_X7_put
theorem dX8_putBytes_0 : decode cX8_putBytes 0 = .ok (.bipush 24, 2) := by decide +kernel
theorem dX8_putBytes_2 : decode cX8_putBytes 2 = .ok (.istore_n 2, 1) := by decide +kernel
theorem dX8_putBytes_3 : decode cX8_putBytes 3 = .ok (.iload_n 2, 1) := by decide +kernel
theorem dX8_putBytes_4 : decode cX8_putBytes 4 = .ok (.ifCond .lt 32, 3) := by decide +kernel
theorem dX8_putBytes_7 : decode cX8_putBytes 7 = .ok (.iload_n 1, 1) := by decide +kernel
theorem dX8_putBytes_8 : decode cX8_putBytes 8 = .ok (.iload_n 2, 1) := by decide +kernel
theorem dX8_putBytes_9 : decode cX8_putBytes 9 = .ok (.iushr, 1) := by decide +kernel
theorem dX8_putBytes_10 : decode cX8_putBytes 10 = .ok (.sipush 255, 3) := by decide +kernel
theorem dX8_putBytes_13 : decode cX8_putBytes 13 = .ok (.iand, 1) := by decide +kernel
theorem dX8_putBytes_14 : decode cX8_putBytes 14 = .ok (.istore_n 3, 1) := by decide +kernel
theorem dX8_putBytes_15 : decode cX8_putBytes 15 = .ok (.iload_n 3, 1) := by decide +kernel
theorem dX8_putBytes_16 : decode cX8_putBytes 16 = .ok (.ifCond .eq 14, 3) := by decide +kernel
theorem dX8_putBytes_19 : decode cX8_putBytes 19 = .ok (.aload_n 0, 1) := by decide +kernel
theorem dX8_putBytes_20 : decode cX8_putBytes 20 = .ok (.getfield 12, 3) := by decide +kernel
theorem dX8_putBytes_23 : decode cX8_putBytes 23 = .ok (.getfield 103, 3) := by decide +kernel
theorem dX8_putBytes_26 : decode cX8_putBytes 26 = .ok (.iload_n 3, 1) := by decide +kernel
theorem dX8_putBytes_27 : decode cX8_putBytes 27 = .ok (.invokevirtual 310, 3) := by decide +kernel
theorem dX8_putBytes_30 : decode cX8_putBytes 30 = .ok (.iinc 2 (-8), 3) := by decide +kernel
theorem dX8_putBytes_33 : decode cX8_putBytes 33 = .ok (.goto (-30), 3) := by decide +kernel
theorem dX8_putBytes_36 : decode cX8_putBytes 36 = .ok (.return_, 1) := by decide +kernel
set_option maxRecDepth 20000 in
theorem ggX8_pairNumber_X8_needNumber : GoodIn wsX8_pairNumber wsX8_needNumber := goodIn_ca (goodIn_r _ [5, 6, 7, 8, 9, 10, 11, 12, 13, 14, 15, 31, 32, 33] (by decide +kernel) (by decide +kernel)) (goodIn_sub (fun _ h => List.mem_cons_of_mem _ (List.mem_append_left _ (List.mem_append_right _ h))) (by decide +kernel))
set_option maxRecDepth 20000 in
theorem gX8_pairNumber_X8_needNumber : GoodIn wsX8_pairNumber (wsV RX8 171 RX8 yX8_needNumber wsX8_needNumber) := goodIn_app (goodIn_of _ (by decide +kernel)) ggX8_pairNumber_X8_needNumber
set_option maxRecDepth 20000 in
theorem ggX8_pairNumber_X8_needRange : GoodIn wsX8_pairNumber wsX8_needRange := goodIn_ca (goodIn_r _ [19, 20, 21] (by decide +kernel) (by decide +kernel)) (goodIn_sub (fun _ h => List.mem_cons_of_mem _ (List.mem_append_right _ h)) (by decide +kernel))
set_option maxRecDepth 20000 in
theorem gX8_pairNumber_X8_needRange : GoodIn wsX8_pairNumber (wsV RX8 269 RX8 yX8_needRange wsX8_needRange) := goodIn_app (goodIn_of _ (by decide +kernel)) ggX8_pairNumber_X8_needRange
set_option maxRecDepth 20000 in
theorem ggX8_pairNumber_X6_first : GoodIn wsX8_pairNumber wsX6_first := goodIn_r _ [25, 14, 26, 9, 10, 11, 12, 13, 15, 31, 32, 33] (by decide +kernel) (by decide +kernel)
set_option maxRecDepth 20000 in
theorem gX8_pairNumber_X6_first : GoodIn wsX8_pairNumber (wsV RX8 313 RX6 yX6_first wsX6_first) := goodIn_app (goodIn_of _ (by decide +kernel)) ggX8_pairNumber_X6_first
set_option maxRecDepth 20000 in
theorem ggX8_pairNumber_X6_second : GoodIn wsX8_pairNumber wsX6_second := goodIn_r _ [30, 15, 26, 9, 10, 11, 12, 13, 14, 31, 32, 33] (by decide +kernel) (by decide +kernel)
set_option maxRecDepth 20000 in
theorem gX8_pairNumber_X6_second : GoodIn wsX8_pairNumber (wsV RX8 259 RX6 yX6_second wsX6_second) := goodIn_app (goodIn_of _ (by decide +kernel)) ggX8_pairNumber_X6_second
theorem dX8_pairNumber_0 : decode cX8_pairNumber 0 = .ok (.aload_n 0, 1) := by decide +kernel
theorem dX8_pairNumber_1 : decode cX8_pairNumber 1 = .ok (.aload_n 1, 1) := by decide +kernel
theorem dX8_pairNumber_2 : decode cX8_pairNumber 2 = .ok (.iload_n 2, 1) := by decide +kernel
theorem dX8_pairNumber_3 : decode cX8_pairNumber 3 = .ok (.invokevirtual 171, 3) := by decide +kernel
theorem dX8_pairNumber_6 : decode cX8_pairNumber 6 = .ok (.aload_n 0, 1) := by decide +kernel
theorem dX8_pairNumber_7 : decode cX8_pairNumber 7 = .ok (.iload_n 3, 1) := by decide +kernel
theorem dX8_pairNumber_8 : decode cX8_pairNumber 8 = .ok (.iconst 0, 1) := by decide +kernel
theorem dX8_pairNumber_9 : decode cX8_pairNumber 9 = .ok (.iconst 1, 1) := by decide +kernel
theorem dX8_pairNumber_10 : decode cX8_pairNumber 10 = .ok (.invokevirtual 269, 3) := by decide +kernel
theorem dX8_pairNumber_13 : decode cX8_pairNumber 13 = .ok (.iload_n 3, 1) := by decide +kernel
theorem dX8_pairNumber_14 : decode cX8_pairNumber 14 = .ok (.ifCond .ne 11, 3) := by decide +kernel
theorem dX8_pairNumber_17 : decode cX8_pairNumber 17 = .ok (.aload_n 1, 1) := by decide +kernel
theorem dX8_pairNumber_18 : decode cX8_pairNumber 18 = .ok (.iload_n 2, 1) := by decide +kernel
theorem dX8_pairNumber_19 : decode cX8_pairNumber 19 = .ok (.invokevirtual 313, 3) := by decide +kernel
theorem dX8_pairNumber_22 : decode cX8_pairNumber 22 = .ok (.goto 8, 3) := by decide +kernel
theorem dX8_pairNumber_25 : decode cX8_pairNumber 25 = .ok (.aload_n 1, 1) := by decide +kernel
theorem dX8_pairNumber_26 : decode cX8_pairNumber 26 = .ok (.iload_n 2, 1) := by decide +kernel
theorem dX8_pairNumber_27 : decode cX8_pairNumber 27 = .ok (.invokevirtual 259, 3) := by decide +kernel
theorem dX8_pairNumber_30 : decode cX8_pairNumber 30 = .ok (.ireturn, 1) := by decide +kernel
set_option maxRecDepth 20000 in
theorem ggX8_addPair_X6_isFull : GoodIn wsX8_addPair wsX6_isFull := goodIn_r _ [7, 8, 9, 10, 76, 77, 78] (by decide +kernel) (by decide +kernel)
set_option maxRecDepth 20000 in
theorem gX8_addPair_X6_isFull : GoodIn wsX8_addPair (wsV RX8 316 RX6 yX6_isFull wsX6_isFull) := goodIn_app (goodIn_of _ (by decide +kernel)) ggX8_addPair_X6_isFull
set_option maxRecDepth 20000 in
theorem ggX8_addPair_X2_remember : GoodIn wsX8_addPair wsX2_remember := goodIn_r _ [15, 16, 17, 18, 19, 20, 14, 21, 22, 23, 24, 25, 26, 27, 28, 29, 30, 31, 32, 33, 34, 35, 6, 36, 8, 9, 10, 37, 38, 39, 40, 41, 42, 43, 44, 45, 46, 47, 48, 49, 50, 51, 52, 79, 80, 81, 82, 83, 84, 85, 86, 76, 77, 78] (by decide +kernel) (by decide +kernel)
set_option maxRecDepth 20000 in
theorem gX8_addPair_X2_remember : GoodIn wsX8_addPair (wsV RX8 282 RX2 yX2_remember wsX2_remember) := goodIn_app (goodIn_of _ (by decide +kernel)) ggX8_addPair_X2_remember
set_option maxRecDepth 20000 in
theorem ggX8_addPair_X6_putLast : GoodIn wsX8_addPair wsX6_putLast := goodIn_r _ [56, 8, 57, 58, 59, 6, 60, 9, 10, 61, 4, 5, 7, 76, 77, 78] (by decide +kernel) (by decide +kernel)
set_option maxRecDepth 20000 in
theorem gX8_addPair_X6_putLast : GoodIn wsX8_addPair (wsV RX8 319 RX6 yX6_putLast wsX6_putLast) := goodIn_app (goodIn_of _ (by decide +kernel)) ggX8_addPair_X6_putLast
theorem dX8_addPair_0 : decode cX8_addPair 0 = .ok (.aload_n 1, 1) := by decide +kernel
theorem dX8_addPair_1 : decode cX8_addPair 1 = .ok (.invokevirtual 316, 3) := by decide +kernel
theorem dX8_addPair_4 : decode cX8_addPair 4 = .ok (.ifCond .eq 6, 3) := by decide +kernel
theorem dX8_addPair_7 : decode cX8_addPair 7 = .ok (.iload 4, 2) := by decide +kernel
theorem dX8_addPair_9 : decode cX8_addPair 9 = .ok (.ireturn, 1) := by decide +kernel
theorem dX8_addPair_10 : decode cX8_addPair 10 = .ok (.aload_n 0, 1) := by decide +kernel
theorem dX8_addPair_11 : decode cX8_addPair 11 = .ok (.getfield 60, 3) := by decide +kernel
theorem dX8_addPair_14 : decode cX8_addPair 14 = .ok (.aload_n 0, 1) := by decide +kernel
theorem dX8_addPair_15 : decode cX8_addPair 15 = .ok (.getfield 23, 3) := by decide +kernel
theorem dX8_addPair_18 : decode cX8_addPair 18 = .ok (.invokevirtual 282, 3) := by decide +kernel
theorem dX8_addPair_21 : decode cX8_addPair 21 = .ok (.aload_n 1, 1) := by decide +kernel
theorem dX8_addPair_22 : decode cX8_addPair 22 = .ok (.iload_n 2, 1) := by decide +kernel
theorem dX8_addPair_23 : decode cX8_addPair 23 = .ok (.iload_n 3, 1) := by decide +kernel
theorem dX8_addPair_24 : decode cX8_addPair 24 = .ok (.invokevirtual 319, 3) := by decide +kernel
theorem dX8_addPair_27 : decode cX8_addPair 27 = .ok (.ireturn, 1) := by decide +kernel
set_option maxRecDepth 20000 in
theorem ggX8_dropPair_X8_needNumber : GoodIn wsX8_dropPair wsX8_needNumber := goodIn_ca (goodIn_r _ [7, 8, 9, 10, 11, 12, 13, 14, 15, 16, 17, 76, 77, 78] (by decide +kernel) (by decide +kernel)) (goodIn_sub (fun _ h => List.mem_cons_of_mem _ (List.mem_append_right _ h)) (by decide +kernel))
set_option maxRecDepth 20000 in
theorem gX8_dropPair_X8_needNumber : GoodIn wsX8_dropPair (wsV RX8 171 RX8 yX8_needNumber wsX8_needNumber) := goodIn_app (goodIn_of _ (by decide +kernel)) ggX8_dropPair_X8_needNumber
set_option maxRecDepth 20000 in
theorem ggX8_dropPair_X2_remember : GoodIn wsX8_dropPair wsX2_remember := goodIn_r _ [22, 23, 24, 25, 26, 27, 21, 28, 29, 30, 31, 32, 33, 34, 35, 36, 37, 38, 39, 40, 41, 42, 13, 43, 15, 16, 17, 44, 45, 46, 47, 48, 49, 50, 51, 52, 11, 12, 14, 53, 54, 55, 56, 79, 80, 81, 82, 83, 84, 85, 86, 76, 77, 78] (by decide +kernel) (by decide +kernel)
set_option maxRecDepth 20000 in
theorem gX8_dropPair_X2_remember : GoodIn wsX8_dropPair (wsV RX8 282 RX2 yX2_remember wsX2_remember) := goodIn_app (goodIn_of _ (by decide +kernel)) ggX8_dropPair_X2_remember
set_option maxRecDepth 20000 in
theorem ggX8_dropPair_X6_first : GoodIn wsX8_dropPair wsX6_first := goodIn_r _ [51, 16, 52, 11, 12, 13, 14, 15, 17, 76, 77, 78] (by decide +kernel) (by decide +kernel)
set_option maxRecDepth 20000 in
theorem gX8_dropPair_X6_first : GoodIn wsX8_dropPair (wsV RX8 313 RX6 yX6_first wsX6_first) := goodIn_app (goodIn_of _ (by decide +kernel)) ggX8_dropPair_X6_first
set_option maxRecDepth 20000 in
theorem ggX8_dropPair_X6_remove : GoodIn wsX8_dropPair wsX6_remove := goodIn_r _ [61, 15, 16, 17, 52, 11, 12, 13, 14, 76, 77, 78] (by decide +kernel) (by decide +kernel)
set_option maxRecDepth 20000 in
theorem gX8_dropPair_X6_remove : GoodIn wsX8_dropPair (wsV RX8 262 RX6 yX6_remove wsX6_remove) := goodIn_app (goodIn_of _ (by decide +kernel)) ggX8_dropPair_X6_remove
theorem dX8_dropPair_0 : decode cX8_dropPair 0 = .ok (.aload_n 0, 1) := by decide +kernel
theorem dX8_dropPair_1 : decode cX8_dropPair 1 = .ok (.aload_n 1, 1) := by decide +kernel
theorem dX8_dropPair_2 : decode cX8_dropPair 2 = .ok (.iload_n 2, 1) := by decide +kernel
theorem dX8_dropPair_3 : decode cX8_dropPair 3 = .ok (.invokevirtual 171, 3) := by decide +kernel
theorem dX8_dropPair_6 : decode cX8_dropPair 6 = .ok (.aload_n 0, 1) := by decide +kernel
theorem dX8_dropPair_7 : decode cX8_dropPair 7 = .ok (.getfield 60, 3) := by decide +kernel
theorem dX8_dropPair_10 : decode cX8_dropPair 10 = .ok (.aload_n 0, 1) := by decide +kernel
theorem dX8_dropPair_11 : decode cX8_dropPair 11 = .ok (.getfield 23, 3) := by decide +kernel
theorem dX8_dropPair_14 : decode cX8_dropPair 14 = .ok (.invokevirtual 282, 3) := by decide +kernel
theorem dX8_dropPair_17 : decode cX8_dropPair 17 = .ok (.aload_n 1, 1) := by decide +kernel
theorem dX8_dropPair_18 : decode cX8_dropPair 18 = .ok (.iload_n 2, 1) := by decide +kernel
theorem dX8_dropPair_19 : decode cX8_dropPair 19 = .ok (.invokevirtual 313, 3) := by decide +kernel
theorem dX8_dropPair_22 : decode cX8_dropPair 22 = .ok (.istore_n 3, 1) := by decide +kernel
theorem dX8_dropPair_23 : decode cX8_dropPair 23 = .ok (.aload_n 1, 1) := by decide +kernel
theorem dX8_dropPair_24 : decode cX8_dropPair 24 = .ok (.iload_n 2, 1) := by decide +kernel
theorem dX8_dropPair_25 : decode cX8_dropPair 25 = .ok (.invokevirtual 262, 3) := by decide +kernel
theorem dX8_dropPair_28 : decode cX8_dropPair 28 = .ok (.iload_n 3, 1) := by decide +kernel
theorem dX8_dropPair_29 : decode cX8_dropPair 29 = .ok (.ireturn, 1) := by decide +kernel
set_option maxRecDepth 20000 in
theorem ggX8_influenceOnMoment_X1_underOne : GoodIn wsX8_influenceOnMoment wsX1_underOne := goodIn_r _ [8, 9, 10, 11, 7, 12, 13, 14, 15, 16, 17, 18, 19, 20, 21, 22, 23, 24, 25, 26, 27, 28, 29, 30, 31, 32, 33, 34, 35, 36, 37, 38, 39, 40, 41, 42, 43, 44, 45, 46, 47, 48, 49, 50, 51, 52, 53, 54, 55, 56, 57, 58, 59, 60, 61, 62, 63, 64, 65, 66, 67, 86, 87, 88, 89, 90, 91, 92, 93, 94, 95, 96, 97, 98, 99, 100, 101, 102, 103, 104] (by decide +kernel) (by decide +kernel)
set_option maxRecDepth 20000 in
theorem gX8_influenceOnMoment_X1_underOne : GoodIn wsX8_influenceOnMoment (wsV RX8 182 RX1 yX1_underOne wsX1_underOne) := goodIn_app (goodIn_of _ (by decide +kernel)) ggX8_influenceOnMoment_X1_underOne
set_option maxRecDepth 20000 in
theorem ggX8_influenceOnMoment_X1_momentAt : GoodIn wsX8_influenceOnMoment wsX1_momentAt := goodIn_r _ [71, 49, 86, 87, 88, 89, 90] (by decide +kernel) (by decide +kernel)
set_option maxRecDepth 20000 in
theorem gX8_influenceOnMoment_X1_momentAt : GoodIn wsX8_influenceOnMoment (wsV RX8 205 RX1 yX1_momentAt wsX1_momentAt) := goodIn_app (goodIn_of _ (by decide +kernel)) ggX8_influenceOnMoment_X1_momentAt
theorem dX8_influenceOnMoment_0 : decode cX8_influenceOnMoment 0 = .ok (.aload_n 0, 1) := by decide +kernel
theorem dX8_influenceOnMoment_1 : decode cX8_influenceOnMoment 1 = .ok (.getfield 43, 3) := by decide +kernel
theorem dX8_influenceOnMoment_4 : decode cX8_influenceOnMoment 4 = .ok (.aload_n 0, 1) := by decide +kernel
theorem dX8_influenceOnMoment_5 : decode cX8_influenceOnMoment 5 = .ok (.getfield 23, 3) := by decide +kernel
theorem dX8_influenceOnMoment_8 : decode cX8_influenceOnMoment 8 = .ok (.aload_n 0, 1) := by decide +kernel
theorem dX8_influenceOnMoment_9 : decode cX8_influenceOnMoment 9 = .ok (.getfield 30, 3) := by decide +kernel
theorem dX8_influenceOnMoment_12 : decode cX8_influenceOnMoment 12 = .ok (.iload_n 2, 1) := by decide +kernel
theorem dX8_influenceOnMoment_13 : decode cX8_influenceOnMoment 13 = .ok (.invokevirtual 182, 3) := by decide +kernel
theorem dX8_influenceOnMoment_16 : decode cX8_influenceOnMoment 16 = .ok (.aload_n 0, 1) := by decide +kernel
theorem dX8_influenceOnMoment_17 : decode cX8_influenceOnMoment 17 = .ok (.getfield 43, 3) := by decide +kernel
theorem dX8_influenceOnMoment_20 : decode cX8_influenceOnMoment 20 = .ok (.iload_n 1, 1) := by decide +kernel
theorem dX8_influenceOnMoment_21 : decode cX8_influenceOnMoment 21 = .ok (.invokevirtual 205, 3) := by decide +kernel
theorem dX8_influenceOnMoment_24 : decode cX8_influenceOnMoment 24 = .ok (.lreturn, 1) := by decide +kernel
set_option maxRecDepth 20000 in
theorem ggX8_influenceFromRight_X6_first : GoodIn wsX8_influenceFromRight wsX6_first := goodIn_r _ [10, 11, 12, 13, 14, 9, 15, 16, 17, 46, 47, 48] (by decide +kernel) (by decide +kernel)
set_option maxRecDepth 20000 in
theorem gX8_influenceFromRight_X6_first : GoodIn wsX8_influenceFromRight (wsV RX8 313 RX6 yX6_first wsX6_first) := goodIn_app (goodIn_of _ (by decide +kernel)) ggX8_influenceFromRight_X6_first
set_option maxRecDepth 20000 in
theorem ggX8_influenceFromRight_X3_at : GoodIn wsX8_influenceFromRight wsX3_at := goodIn_r _ [22, 23, 24, 25, 49, 50, 51, 52, 53] (by decide +kernel) (by decide +kernel)
set_option maxRecDepth 20000 in
theorem gX8_influenceFromRight_X3_at : GoodIn wsX8_influenceFromRight (wsV RX8 175 RX3 yX3_at wsX3_at) := goodIn_app (goodIn_of _ (by decide +kernel)) ggX8_influenceFromRight_X3_at
theorem dX8_influenceFromRight_0 : decode cX8_influenceFromRight 0 = .ok (.lconst 0, 1) := by decide +kernel
theorem dX8_influenceFromRight_1 : decode cX8_influenceFromRight 1 = .ok (.lstore_n 3, 1) := by decide +kernel
theorem dX8_influenceFromRight_2 : decode cX8_influenceFromRight 2 = .ok (.iconst 0, 1) := by decide +kernel
theorem dX8_influenceFromRight_3 : decode cX8_influenceFromRight 3 = .ok (.istore 5, 2) := by decide +kernel
theorem dX8_influenceFromRight_5 : decode cX8_influenceFromRight 5 = .ok (.iload 5, 2) := by decide +kernel
theorem dX8_influenceFromRight_7 : decode cX8_influenceFromRight 7 = .ok (.aload_n 0, 1) := by decide +kernel
theorem dX8_influenceFromRight_8 : decode cX8_influenceFromRight 8 = .ok (.getfield 23, 3) := by decide +kernel
theorem dX8_influenceFromRight_11 : decode cX8_influenceFromRight 11 = .ok (.getfield 85, 3) := by decide +kernel
theorem dX8_influenceFromRight_14 : decode cX8_influenceFromRight 14 = .ok (.getfield 135, 3) := by decide +kernel
theorem dX8_influenceFromRight_17 : decode cX8_influenceFromRight 17 = .ok (.if_icmp .ge 47, 3) := by decide +kernel
theorem dX8_influenceFromRight_20 : decode cX8_influenceFromRight 20 = .ok (.aload_n 0, 1) := by decide +kernel
theorem dX8_influenceFromRight_21 : decode cX8_influenceFromRight 21 = .ok (.getfield 23, 3) := by decide +kernel
theorem dX8_influenceFromRight_24 : decode cX8_influenceFromRight 24 = .ok (.getfield 85, 3) := by decide +kernel
theorem dX8_influenceFromRight_27 : decode cX8_influenceFromRight 27 = .ok (.iload 5, 2) := by decide +kernel
theorem dX8_influenceFromRight_29 : decode cX8_influenceFromRight 29 = .ok (.invokevirtual 313, 3) := by decide +kernel
theorem dX8_influenceFromRight_32 : decode cX8_influenceFromRight 32 = .ok (.iload_n 1, 1) := by decide +kernel
theorem dX8_influenceFromRight_33 : decode cX8_influenceFromRight 33 = .ok (.isub, 1) := by decide +kernel
theorem dX8_influenceFromRight_34 : decode cX8_influenceFromRight 34 = .ok (.istore 6, 2) := by decide +kernel
theorem dX8_influenceFromRight_36 : decode cX8_influenceFromRight 36 = .ok (.iload 6, 2) := by decide +kernel
theorem dX8_influenceFromRight_38 : decode cX8_influenceFromRight 38 = .ok (.ifCond .le 20, 3) := by decide +kernel
theorem dX8_influenceFromRight_41 : decode cX8_influenceFromRight 41 = .ok (.lload_n 3, 1) := by decide +kernel
theorem dX8_influenceFromRight_42 : decode cX8_influenceFromRight 42 = .ok (.aload_n 0, 1) := by decide +kernel
theorem dX8_influenceFromRight_43 : decode cX8_influenceFromRight 43 = .ok (.getfield 30, 3) := by decide +kernel
theorem dX8_influenceFromRight_46 : decode cX8_influenceFromRight 46 = .ok (.iload 5, 2) := by decide +kernel
theorem dX8_influenceFromRight_48 : decode cX8_influenceFromRight 48 = .ok (.iload_n 2, 1) := by decide +kernel
theorem dX8_influenceFromRight_49 : decode cX8_influenceFromRight 49 = .ok (.invokevirtual 175, 3) := by decide +kernel
theorem dX8_influenceFromRight_52 : decode cX8_influenceFromRight 52 = .ok (.iload 6, 2) := by decide +kernel
theorem dX8_influenceFromRight_54 : decode cX8_influenceFromRight 54 = .ok (.i2l, 1) := by decide +kernel
theorem dX8_influenceFromRight_55 : decode cX8_influenceFromRight 55 = .ok (.lmul, 1) := by decide +kernel
theorem dX8_influenceFromRight_56 : decode cX8_influenceFromRight 56 = .ok (.ladd, 1) := by decide +kernel
theorem dX8_influenceFromRight_57 : decode cX8_influenceFromRight 57 = .ok (.lstore_n 3, 1) := by decide +kernel
theorem dX8_influenceFromRight_58 : decode cX8_influenceFromRight 58 = .ok (.iinc 5 1, 3) := by decide +kernel
theorem dX8_influenceFromRight_61 : decode cX8_influenceFromRight 61 = .ok (.goto (-56), 3) := by decide +kernel
theorem dX8_influenceFromRight_64 : decode cX8_influenceFromRight 64 = .ok (.iload_n 2, 1) := by decide +kernel
theorem dX8_influenceFromRight_65 : decode cX8_influenceFromRight 65 = .ok (.iload_n 1, 1) := by decide +kernel
theorem dX8_influenceFromRight_66 : decode cX8_influenceFromRight 66 = .ok (.if_icmp .le 18, 3) := by decide +kernel
theorem dX8_influenceFromRight_69 : decode cX8_influenceFromRight 69 = .ok (.lload_n 3, 1) := by decide +kernel
theorem dX8_influenceFromRight_70 : decode cX8_influenceFromRight 70 = .ok (.aload_n 0, 1) := by decide +kernel
theorem dX8_influenceFromRight_71 : decode cX8_influenceFromRight 71 = .ok (.getfield 30, 3) := by decide +kernel
theorem dX8_influenceFromRight_74 : decode cX8_influenceFromRight 74 = .ok (.getfield 157, 3) := by decide +kernel
theorem dX8_influenceFromRight_77 : decode cX8_influenceFromRight 77 = .ok (.iload_n 2, 1) := by decide +kernel
theorem dX8_influenceFromRight_78 : decode cX8_influenceFromRight 78 = .ok (.iload_n 1, 1) := by decide +kernel
theorem dX8_influenceFromRight_79 : decode cX8_influenceFromRight 79 = .ok (.isub, 1) := by decide +kernel
theorem dX8_influenceFromRight_80 : decode cX8_influenceFromRight 80 = .ok (.i2l, 1) := by decide +kernel
theorem dX8_influenceFromRight_81 : decode cX8_influenceFromRight 81 = .ok (.lmul, 1) := by decide +kernel
theorem dX8_influenceFromRight_82 : decode cX8_influenceFromRight 82 = .ok (.lsub, 1) := by decide +kernel
theorem dX8_influenceFromRight_83 : decode cX8_influenceFromRight 83 = .ok (.lstore_n 3, 1) := by decide +kernel
theorem dX8_influenceFromRight_84 : decode cX8_influenceFromRight 84 = .ok (.lload_n 3, 1) := by decide +kernel
theorem dX8_influenceFromRight_85 : decode cX8_influenceFromRight 85 = .ok (.lreturn, 1) := by decide +kernel
set_option maxRecDepth 20000 in
theorem ggX8_worstHead_X0_lastHead : GoodIn wsX8_worstHead wsX0_lastHead := goodIn_r _ [8, 9, 10, 11, 12, 13, 14, 15, 16, 17, 18, 19, 20, 21, 22, 23, 24, 25, 26, 27, 28, 29, 30, 31, 120, 121, 122, 123, 124, 125, 126, 127, 128] (by decide +kernel) (by decide +kernel)
set_option maxRecDepth 20000 in
theorem gX8_worstHead_X0_lastHead : GoodIn wsX8_worstHead (wsV RX8 151 RX0 yX0_lastHead wsX0_lastHead) := goodIn_app (goodIn_of _ (by decide +kernel)) ggX8_worstHead_X0_lastHead
set_option maxRecDepth 20000 in
theorem ggX8_worstHead_X1_underAll : GoodIn wsX8_worstHead wsX1_underAll := goodIn_r _ [36, 37, 38, 39, 40, 41, 35, 42, 43, 44, 45, 46, 47, 48, 15, 49, 31, 27, 28, 29, 30, 17, 26, 50, 23, 24, 25, 51, 52, 53, 54, 55, 56, 57, 7, 58, 11, 59, 60, 61, 62, 63, 64, 65, 66, 67, 68, 69, 70, 71, 72, 73, 74, 75, 76, 77, 78, 79, 80, 81, 82, 83, 84, 85, 86, 87, 88, 89, 90, 91, 92, 93, 120, 121, 122, 123, 124, 125, 126, 127, 128, 129, 130, 131, 132, 133, 134, 135, 136, 137, 138] (by decide +kernel) (by decide +kernel)
set_option maxRecDepth 20000 in
theorem gX8_worstHead_X1_underAll : GoodIn wsX8_worstHead (wsV RX8 199 RX1 yX1_underAll wsX1_underAll) := goodIn_app (goodIn_of _ (by decide +kernel)) ggX8_worstHead_X1_underAll
set_option maxRecDepth 20000 in
theorem ggX8_worstHead_X1_ofKind : GoodIn wsX8_worstHead wsX1_ofKind := goodIn_r _ [97, 90, 91, 92, 35, 93, 44, 98, 99, 100, 101, 88, 102, 103, 104, 105, 87, 129, 130, 131, 132, 133] (by decide +kernel) (by decide +kernel)
set_option maxRecDepth 20000 in
theorem gX8_worstHead_X1_ofKind : GoodIn wsX8_worstHead (wsV RX8 322 RX1 yX1_ofKind wsX1_ofKind) := goodIn_app (goodIn_of _ (by decide +kernel)) ggX8_worstHead_X1_ofKind
theorem dX8_worstHead_0 : decode cX8_worstHead 0 = .ok (.iconst 0, 1) := by decide +kernel
theorem dX8_worstHead_1 : decode cX8_worstHead 1 = .ok (.istore 4, 2) := by decide +kernel
theorem dX8_worstHead_3 : decode cX8_worstHead 3 = .ok (.lconst 0, 1) := by decide +kernel
theorem dX8_worstHead_4 : decode cX8_worstHead 4 = .ok (.lstore 5, 2) := by decide +kernel
theorem dX8_worstHead_6 : decode cX8_worstHead 6 = .ok (.aload_n 0, 1) := by decide +kernel
theorem dX8_worstHead_7 : decode cX8_worstHead 7 = .ok (.getfield 23, 3) := by decide +kernel
theorem dX8_worstHead_10 : decode cX8_worstHead 10 = .ok (.invokevirtual 151, 3) := by decide +kernel
theorem dX8_worstHead_13 : decode cX8_worstHead 13 = .ok (.istore 7, 2) := by decide +kernel
theorem dX8_worstHead_15 : decode cX8_worstHead 15 = .ok (.iconst 0, 1) := by decide +kernel
theorem dX8_worstHead_16 : decode cX8_worstHead 16 = .ok (.istore 8, 2) := by decide +kernel
theorem dX8_worstHead_18 : decode cX8_worstHead 18 = .ok (.iload 8, 2) := by decide +kernel
theorem dX8_worstHead_20 : decode cX8_worstHead 20 = .ok (.iload 7, 2) := by decide +kernel
theorem dX8_worstHead_22 : decode cX8_worstHead 22 = .ok (.if_icmp .gt 90, 3) := by decide +kernel
theorem dX8_worstHead_25 : decode cX8_worstHead 25 = .ok (.aload_n 0, 1) := by decide +kernel
theorem dX8_worstHead_26 : decode cX8_worstHead 26 = .ok (.getfield 43, 3) := by decide +kernel
theorem dX8_worstHead_29 : decode cX8_worstHead 29 = .ok (.aload_n 0, 1) := by decide +kernel
theorem dX8_worstHead_30 : decode cX8_worstHead 30 = .ok (.getfield 23, 3) := by decide +kernel
theorem dX8_worstHead_33 : decode cX8_worstHead 33 = .ok (.aload_n 0, 1) := by decide +kernel
theorem dX8_worstHead_34 : decode cX8_worstHead 34 = .ok (.getfield 30, 3) := by decide +kernel
theorem dX8_worstHead_37 : decode cX8_worstHead 37 = .ok (.iload 8, 2) := by decide +kernel
theorem dX8_worstHead_39 : decode cX8_worstHead 39 = .ok (.invokevirtual 199, 3) := by decide +kernel
theorem dX8_worstHead_42 : decode cX8_worstHead 42 = .ok (.aload_n 0, 1) := by decide +kernel
theorem dX8_worstHead_43 : decode cX8_worstHead 43 = .ok (.getfield 43, 3) := by decide +kernel
theorem dX8_worstHead_46 : decode cX8_worstHead 46 = .ok (.iload_n 1, 1) := by decide +kernel
theorem dX8_worstHead_47 : decode cX8_worstHead 47 = .ok (.iload_n 2, 1) := by decide +kernel
theorem dX8_worstHead_48 : decode cX8_worstHead 48 = .ok (.invokevirtual 322, 3) := by decide +kernel
theorem dX8_worstHead_51 : decode cX8_worstHead 51 = .ok (.lstore 9, 2) := by decide +kernel
theorem dX8_worstHead_53 : decode cX8_worstHead 53 = .ok (.iload_n 3, 1) := by decide +kernel
theorem dX8_worstHead_54 : decode cX8_worstHead 54 = .ok (.ifCond .eq 19, 3) := by decide +kernel
theorem dX8_worstHead_57 : decode cX8_worstHead 57 = .ok (.lload 9, 2) := by decide +kernel
theorem dX8_worstHead_59 : decode cX8_worstHead 59 = .ok (.lload 5, 2) := by decide +kernel
theorem dX8_worstHead_61 : decode cX8_worstHead 61 = .ok (.lcmp, 1) := by decide +kernel
theorem dX8_worstHead_62 : decode cX8_worstHead 62 = .ok (.ifCond .le 7, 3) := by decide +kernel
theorem dX8_worstHead_65 : decode cX8_worstHead 65 = .ok (.iconst 1, 1) := by decide +kernel
theorem dX8_worstHead_66 : decode cX8_worstHead 66 = .ok (.goto 20, 3) := by decide +kernel
theorem dX8_worstHead_69 : decode cX8_worstHead 69 = .ok (.iconst 0, 1) := by decide +kernel
theorem dX8_worstHead_70 : decode cX8_worstHead 70 = .ok (.goto 16, 3) := by decide +kernel
theorem dX8_worstHead_73 : decode cX8_worstHead 73 = .ok (.lload 9, 2) := by decide +kernel
theorem dX8_worstHead_75 : decode cX8_worstHead 75 = .ok (.lload 5, 2) := by decide +kernel
theorem dX8_worstHead_77 : decode cX8_worstHead 77 = .ok (.lcmp, 1) := by decide +kernel
theorem dX8_worstHead_78 : decode cX8_worstHead 78 = .ok (.ifCond .ge 7, 3) := by decide +kernel
theorem dX8_worstHead_81 : decode cX8_worstHead 81 = .ok (.iconst 1, 1) := by decide +kernel
theorem dX8_worstHead_82 : decode cX8_worstHead 82 = .ok (.goto 4, 3) := by decide +kernel
theorem dX8_worstHead_85 : decode cX8_worstHead 85 = .ok (.iconst 0, 1) := by decide +kernel
theorem dX8_worstHead_86 : decode cX8_worstHead 86 = .ok (.istore 11, 2) := by decide +kernel
theorem dX8_worstHead_88 : decode cX8_worstHead 88 = .ok (.iload 8, 2) := by decide +kernel
theorem dX8_worstHead_90 : decode cX8_worstHead 90 = .ok (.ifCond .eq 8, 3) := by decide +kernel
theorem dX8_worstHead_93 : decode cX8_worstHead 93 = .ok (.iload 11, 2) := by decide +kernel
theorem dX8_worstHead_95 : decode cX8_worstHead 95 = .ok (.ifCond .eq 11, 3) := by decide +kernel
theorem dX8_worstHead_98 : decode cX8_worstHead 98 = .ok (.iload 8, 2) := by decide +kernel
theorem dX8_worstHead_100 : decode cX8_worstHead 100 = .ok (.istore 4, 2) := by decide +kernel
theorem dX8_worstHead_102 : decode cX8_worstHead 102 = .ok (.lload 9, 2) := by decide +kernel
theorem dX8_worstHead_104 : decode cX8_worstHead 104 = .ok (.lstore 5, 2) := by decide +kernel
theorem dX8_worstHead_106 : decode cX8_worstHead 106 = .ok (.iinc 8 1, 3) := by decide +kernel
theorem dX8_worstHead_109 : decode cX8_worstHead 109 = .ok (.goto (-91), 3) := by decide +kernel
theorem dX8_worstHead_112 : decode cX8_worstHead 112 = .ok (.iload 4, 2) := by decide +kernel
theorem dX8_worstHead_114 : decode cX8_worstHead 114 = .ok (.ireturn, 1) := by decide +kernel
set_option maxRecDepth 20000 in
theorem ggX8_reasonWithHead_X1_underAll : GoodIn wsX8_reasonWithHead wsX1_underAll := goodIn_r _ [8, 9, 10, 11, 12, 13, 7, 14, 15, 16, 17, 18, 19, 20, 21, 22, 23, 24, 25, 26, 27, 28, 29, 30, 31, 32, 33, 34, 35, 36, 37, 38, 39, 40, 41, 42, 43, 44, 45, 46, 47, 48, 49, 50, 51, 52, 53, 54, 55, 56, 57, 58, 59, 60, 61, 62, 63, 64, 65, 66, 67, 68, 69, 70, 71, 72, 73, 74, 75, 76, 77, 78, 118, 119, 120, 121, 122, 123, 124, 125, 126, 127, 128, 129, 130, 131, 132, 133, 134, 135, 136] (by decide +kernel) (by decide +kernel)
set_option maxRecDepth 20000 in
theorem gX8_reasonWithHead_X1_underAll : GoodIn wsX8_reasonWithHead (wsV RX8 199 RX1 yX1_underAll wsX1_underAll) := goodIn_app (goodIn_of _ (by decide +kernel)) ggX8_reasonWithHead_X1_underAll
set_option maxRecDepth 20000 in
theorem ggX8_reasonWithHead_X1_firstReason : GoodIn wsX8_reasonWithHead wsX1_firstReason := goodIn_r _ [82, 83, 84, 85, 7, 86, 16, 87, 88, 89, 90, 71, 10, 53, 30, 31, 32, 21, 33, 29, 24, 25, 26, 27, 28, 23, 75, 76, 77, 78, 91, 92, 93, 94, 95, 70, 96, 97, 98, 99, 100, 101, 102, 103, 72, 127, 128, 129, 130, 131, 118, 119, 120, 121, 122, 123, 124, 125, 126, 132, 133, 134, 135, 136] (by decide +kernel) (by decide +kernel)
set_option maxRecDepth 20000 in
theorem gX8_reasonWithHead_X1_firstReason : GoodIn wsX8_reasonWithHead (wsV RX8 240 RX1 yX1_firstReason wsX1_firstReason) := goodIn_app (goodIn_of _ (by decide +kernel)) ggX8_reasonWithHead_X1_firstReason
theorem dX8_reasonWithHead_0 : decode cX8_reasonWithHead 0 = .ok (.aload_n 0, 1) := by decide +kernel
theorem dX8_reasonWithHead_1 : decode cX8_reasonWithHead 1 = .ok (.getfield 43, 3) := by decide +kernel
theorem dX8_reasonWithHead_4 : decode cX8_reasonWithHead 4 = .ok (.aload_n 0, 1) := by decide +kernel
theorem dX8_reasonWithHead_5 : decode cX8_reasonWithHead 5 = .ok (.getfield 23, 3) := by decide +kernel
theorem dX8_reasonWithHead_8 : decode cX8_reasonWithHead 8 = .ok (.aload_n 0, 1) := by decide +kernel
theorem dX8_reasonWithHead_9 : decode cX8_reasonWithHead 9 = .ok (.getfield 30, 3) := by decide +kernel
theorem dX8_reasonWithHead_12 : decode cX8_reasonWithHead 12 = .ok (.iload_n 1, 1) := by decide +kernel
theorem dX8_reasonWithHead_13 : decode cX8_reasonWithHead 13 = .ok (.invokevirtual 199, 3) := by decide +kernel
theorem dX8_reasonWithHead_16 : decode cX8_reasonWithHead 16 = .ok (.aload_n 0, 1) := by decide +kernel
theorem dX8_reasonWithHead_17 : decode cX8_reasonWithHead 17 = .ok (.getfield 43, 3) := by decide +kernel
theorem dX8_reasonWithHead_20 : decode cX8_reasonWithHead 20 = .ok (.aload_n 0, 1) := by decide +kernel
theorem dX8_reasonWithHead_21 : decode cX8_reasonWithHead 21 = .ok (.getfield 23, 3) := by decide +kernel
theorem dX8_reasonWithHead_24 : decode cX8_reasonWithHead 24 = .ok (.aload_n 0, 1) := by decide +kernel
theorem dX8_reasonWithHead_25 : decode cX8_reasonWithHead 25 = .ok (.getfield 30, 3) := by decide +kernel
theorem dX8_reasonWithHead_28 : decode cX8_reasonWithHead 28 = .ok (.invokevirtual 240, 3) := by decide +kernel
theorem dX8_reasonWithHead_31 : decode cX8_reasonWithHead 31 = .ok (.ireturn, 1) := by decide +kernel
set_option maxRecDepth 20000 in
theorem ggX8_weightThatSupportsBear_X1_reactionOf : GoodIn wsX8_weightThatSupportsBear wsX1_reactionOf := goodIn_r _ [17, 18, 63, 64, 65, 66, 67] (by decide +kernel) (by decide +kernel)
set_option maxRecDepth 20000 in
theorem gX8_weightThatSupportsBear_X1_reactionOf : GoodIn wsX8_weightThatSupportsBear (wsV RX8 202 RX1 yX1_reactionOf wsX1_reactionOf) := goodIn_app (goodIn_of _ (by decide +kernel)) ggX8_weightThatSupportsBear_X1_reactionOf
set_option maxRecDepth 20000 in
theorem ggX8_weightThatSupportsBear_X8_timesThatFit : GoodIn wsX8_weightThatSupportsBear wsX8_timesThatFit := goodIn_r _ [22, 1] (by decide +kernel) (by decide +kernel)
set_option maxRecDepth 20000 in
theorem gX8_weightThatSupportsBear_X8_timesThatFit : GoodIn wsX8_weightThatSupportsBear (va_wsS RX8 325 yX8_timesThatFit wsX8_timesThatFit) := goodIn_app (goodIn_of _ (by decide +kernel)) ggX8_weightThatSupportsBear_X8_timesThatFit
set_option maxRecDepth 20000 in
theorem ggX8_weightThatSupportsBear_X6_second : GoodIn wsX8_weightThatSupportsBear wsX6_second := goodIn_r _ [27, 28, 29, 30, 31, 26, 32, 33, 34, 55, 56, 57] (by decide +kernel) (by decide +kernel)
set_option maxRecDepth 20000 in
theorem gX8_weightThatSupportsBear_X6_second : GoodIn wsX8_weightThatSupportsBear (wsV RX8 259 RX6 yX6_second wsX6_second) := goodIn_app (goodIn_of _ (by decide +kernel)) ggX8_weightThatSupportsBear_X6_second
theorem dX8_weightThatSupportsBear_0 : decode cX8_weightThatSupportsBear 0 = .ok (.ldc2_w 244, 3) := by decide +kernel
theorem dX8_weightThatSupportsBear_3 : decode cX8_weightThatSupportsBear 3 = .ok (.lstore_n 1, 1) := by decide +kernel
theorem dX8_weightThatSupportsBear_4 : decode cX8_weightThatSupportsBear 4 = .ok (.iconst 0, 1) := by decide +kernel
theorem dX8_weightThatSupportsBear_5 : decode cX8_weightThatSupportsBear 5 = .ok (.istore_n 3, 1) := by decide +kernel
theorem dX8_weightThatSupportsBear_6 : decode cX8_weightThatSupportsBear 6 = .ok (.iload_n 3, 1) := by decide +kernel
theorem dX8_weightThatSupportsBear_7 : decode cX8_weightThatSupportsBear 7 = .ok (.aload_n 0, 1) := by decide +kernel
theorem dX8_weightThatSupportsBear_8 : decode cX8_weightThatSupportsBear 8 = .ok (.getfield 23, 3) := by decide +kernel
theorem dX8_weightThatSupportsBear_11 : decode cX8_weightThatSupportsBear 11 = .ok (.getfield 85, 3) := by decide +kernel
theorem dX8_weightThatSupportsBear_14 : decode cX8_weightThatSupportsBear 14 = .ok (.getfield 135, 3) := by decide +kernel
theorem dX8_weightThatSupportsBear_17 : decode cX8_weightThatSupportsBear 17 = .ok (.if_icmp .ge 85, 3) := by decide +kernel
theorem dX8_weightThatSupportsBear_20 : decode cX8_weightThatSupportsBear 20 = .ok (.aload_n 0, 1) := by decide +kernel
theorem dX8_weightThatSupportsBear_21 : decode cX8_weightThatSupportsBear 21 = .ok (.getfield 47, 3) := by decide +kernel
theorem dX8_weightThatSupportsBear_24 : decode cX8_weightThatSupportsBear 24 = .ok (.iload_n 3, 1) := by decide +kernel
theorem dX8_weightThatSupportsBear_25 : decode cX8_weightThatSupportsBear 25 = .ok (.invokevirtual 202, 3) := by decide +kernel
theorem dX8_weightThatSupportsBear_28 : decode cX8_weightThatSupportsBear 28 = .ok (.lstore 4, 2) := by decide +kernel
theorem dX8_weightThatSupportsBear_30 : decode cX8_weightThatSupportsBear 30 = .ok (.aload_n 0, 1) := by decide +kernel
theorem dX8_weightThatSupportsBear_31 : decode cX8_weightThatSupportsBear 31 = .ok (.getfield 43, 3) := by decide +kernel
theorem dX8_weightThatSupportsBear_34 : decode cX8_weightThatSupportsBear 34 = .ok (.iload_n 3, 1) := by decide +kernel
theorem dX8_weightThatSupportsBear_35 : decode cX8_weightThatSupportsBear 35 = .ok (.invokevirtual 202, 3) := by decide +kernel
theorem dX8_weightThatSupportsBear_38 : decode cX8_weightThatSupportsBear 38 = .ok (.lstore 6, 2) := by decide +kernel
theorem dX8_weightThatSupportsBear_40 : decode cX8_weightThatSupportsBear 40 = .ok (.lload_n 1, 1) := by decide +kernel
theorem dX8_weightThatSupportsBear_41 : decode cX8_weightThatSupportsBear 41 = .ok (.lload 4, 2) := by decide +kernel
theorem dX8_weightThatSupportsBear_43 : decode cX8_weightThatSupportsBear 43 = .ok (.lload 6, 2) := by decide +kernel
theorem dX8_weightThatSupportsBear_45 : decode cX8_weightThatSupportsBear 45 = .ok (.lneg, 1) := by decide +kernel
theorem dX8_weightThatSupportsBear_46 : decode cX8_weightThatSupportsBear 46 = .ok (.invokestatic 325, 3) := by decide +kernel
theorem dX8_weightThatSupportsBear_49 : decode cX8_weightThatSupportsBear 49 = .ok (.invokestatic 250, 3) := by decide +kernel
theorem dX8_weightThatSupportsBear_52 : decode cX8_weightThatSupportsBear 52 = .ok (.lstore_n 1, 1) := by decide +kernel
theorem dX8_weightThatSupportsBear_53 : decode cX8_weightThatSupportsBear 53 = .ok (.aload_n 0, 1) := by decide +kernel
theorem dX8_weightThatSupportsBear_54 : decode cX8_weightThatSupportsBear 54 = .ok (.getfield 23, 3) := by decide +kernel
theorem dX8_weightThatSupportsBear_57 : decode cX8_weightThatSupportsBear 57 = .ok (.getfield 85, 3) := by decide +kernel
theorem dX8_weightThatSupportsBear_60 : decode cX8_weightThatSupportsBear 60 = .ok (.iload_n 3, 1) := by decide +kernel
theorem dX8_weightThatSupportsBear_61 : decode cX8_weightThatSupportsBear 61 = .ok (.invokevirtual 259, 3) := by decide +kernel
theorem dX8_weightThatSupportsBear_64 : decode cX8_weightThatSupportsBear 64 = .ok (.istore 8, 2) := by decide +kernel
theorem dX8_weightThatSupportsBear_66 : decode cX8_weightThatSupportsBear 66 = .ok (.iload 8, 2) := by decide +kernel
theorem dX8_weightThatSupportsBear_68 : decode cX8_weightThatSupportsBear 68 = .ok (.iconst (-1), 1) := by decide +kernel
theorem dX8_weightThatSupportsBear_69 : decode cX8_weightThatSupportsBear 69 = .ok (.if_icmp .eq 27, 3) := by decide +kernel
theorem dX8_weightThatSupportsBear_72 : decode cX8_weightThatSupportsBear 72 = .ok (.lload_n 1, 1) := by decide +kernel
theorem dX8_weightThatSupportsBear_73 : decode cX8_weightThatSupportsBear 73 = .ok (.aload_n 0, 1) := by decide +kernel
theorem dX8_weightThatSupportsBear_74 : decode cX8_weightThatSupportsBear 74 = .ok (.getfield 30, 3) := by decide +kernel
theorem dX8_weightThatSupportsBear_77 : decode cX8_weightThatSupportsBear 77 = .ok (.getfield 157, 3) := by decide +kernel
theorem dX8_weightThatSupportsBear_80 : decode cX8_weightThatSupportsBear 80 = .ok (.iload 8, 2) := by decide +kernel
theorem dX8_weightThatSupportsBear_82 : decode cX8_weightThatSupportsBear 82 = .ok (.i2l, 1) := by decide +kernel
theorem dX8_weightThatSupportsBear_83 : decode cX8_weightThatSupportsBear 83 = .ok (.lmul, 1) := by decide +kernel
theorem dX8_weightThatSupportsBear_84 : decode cX8_weightThatSupportsBear 84 = .ok (.lload 4, 2) := by decide +kernel
theorem dX8_weightThatSupportsBear_86 : decode cX8_weightThatSupportsBear 86 = .ok (.lsub, 1) := by decide +kernel
theorem dX8_weightThatSupportsBear_87 : decode cX8_weightThatSupportsBear 87 = .ok (.lload 6, 2) := by decide +kernel
theorem dX8_weightThatSupportsBear_89 : decode cX8_weightThatSupportsBear 89 = .ok (.invokestatic 325, 3) := by decide +kernel
theorem dX8_weightThatSupportsBear_92 : decode cX8_weightThatSupportsBear 92 = .ok (.invokestatic 250, 3) := by decide +kernel
theorem dX8_weightThatSupportsBear_95 : decode cX8_weightThatSupportsBear 95 = .ok (.lstore_n 1, 1) := by decide +kernel
theorem dX8_weightThatSupportsBear_96 : decode cX8_weightThatSupportsBear 96 = .ok (.iinc 3 1, 3) := by decide +kernel
theorem dX8_weightThatSupportsBear_99 : decode cX8_weightThatSupportsBear 99 = .ok (.goto (-93), 3) := by decide +kernel
theorem dX8_weightThatSupportsBear_102 : decode cX8_weightThatSupportsBear 102 = .ok (.lload_n 1, 1) := by decide +kernel
theorem dX8_weightThatSupportsBear_103 : decode cX8_weightThatSupportsBear 103 = .ok (.lreturn, 1) := by decide +kernel
set_option maxRecDepth 20000 in
theorem ggX8_weightThatMomentsAllow_X1_momentAt : GoodIn wsX8_weightThatMomentsAllow wsX1_momentAt := goodIn_r _ [17, 18, 48, 49, 50, 51, 52] (by decide +kernel) (by decide +kernel)
set_option maxRecDepth 20000 in
theorem gX8_weightThatMomentsAllow_X1_momentAt : GoodIn wsX8_weightThatMomentsAllow (wsV RX8 205 RX1 yX1_momentAt wsX1_momentAt) := goodIn_app (goodIn_of _ (by decide +kernel)) ggX8_weightThatMomentsAllow_X1_momentAt
set_option maxRecDepth 20000 in
theorem ggX8_weightThatMomentsAllow_X8_timesThatFit : GoodIn wsX8_weightThatMomentsAllow wsX8_timesThatFit := goodIn_r _ [22, 1] (by decide +kernel) (by decide +kernel)
set_option maxRecDepth 20000 in
theorem gX8_weightThatMomentsAllow_X8_timesThatFit : GoodIn wsX8_weightThatMomentsAllow (va_wsS RX8 325 yX8_timesThatFit wsX8_timesThatFit) := goodIn_app (goodIn_of _ (by decide +kernel)) ggX8_weightThatMomentsAllow_X8_timesThatFit
theorem dX8_weightThatMomentsAllow_0 : decode cX8_weightThatMomentsAllow 0 = .ok (.ldc2_w 244, 3) := by decide +kernel
theorem dX8_weightThatMomentsAllow_3 : decode cX8_weightThatMomentsAllow 3 = .ok (.lstore_n 1, 1) := by decide +kernel
theorem dX8_weightThatMomentsAllow_4 : decode cX8_weightThatMomentsAllow 4 = .ok (.aload_n 0, 1) := by decide +kernel
theorem dX8_weightThatMomentsAllow_5 : decode cX8_weightThatMomentsAllow 5 = .ok (.getfield 30, 3) := by decide +kernel
theorem dX8_weightThatMomentsAllow_8 : decode cX8_weightThatMomentsAllow 8 = .ok (.getfield 157, 3) := by decide +kernel
theorem dX8_weightThatMomentsAllow_11 : decode cX8_weightThatMomentsAllow 11 = .ok (.aload_n 0, 1) := by decide +kernel
theorem dX8_weightThatMomentsAllow_12 : decode cX8_weightThatMomentsAllow 12 = .ok (.getfield 23, 3) := by decide +kernel
theorem dX8_weightThatMomentsAllow_15 : decode cX8_weightThatMomentsAllow 15 = .ok (.getfield 82, 3) := by decide +kernel
theorem dX8_weightThatMomentsAllow_18 : decode cX8_weightThatMomentsAllow 18 = .ok (.i2l, 1) := by decide +kernel
theorem dX8_weightThatMomentsAllow_19 : decode cX8_weightThatMomentsAllow 19 = .ok (.lmul, 1) := by decide +kernel
theorem dX8_weightThatMomentsAllow_20 : decode cX8_weightThatMomentsAllow 20 = .ok (.lstore_n 3, 1) := by decide +kernel
theorem dX8_weightThatMomentsAllow_21 : decode cX8_weightThatMomentsAllow 21 = .ok (.iconst 0, 1) := by decide +kernel
theorem dX8_weightThatMomentsAllow_22 : decode cX8_weightThatMomentsAllow 22 = .ok (.istore 5, 2) := by decide +kernel
theorem dX8_weightThatMomentsAllow_24 : decode cX8_weightThatMomentsAllow 24 = .ok (.iload 5, 2) := by decide +kernel
theorem dX8_weightThatMomentsAllow_26 : decode cX8_weightThatMomentsAllow 26 = .ok (.aload_n 0, 1) := by decide +kernel
theorem dX8_weightThatMomentsAllow_27 : decode cX8_weightThatMomentsAllow 27 = .ok (.getfield 23, 3) := by decide +kernel
theorem dX8_weightThatMomentsAllow_30 : decode cX8_weightThatMomentsAllow 30 = .ok (.getfield 79, 3) := by decide +kernel
theorem dX8_weightThatMomentsAllow_33 : decode cX8_weightThatMomentsAllow 33 = .ok (.if_icmp .gt 60, 3) := by decide +kernel
theorem dX8_weightThatMomentsAllow_36 : decode cX8_weightThatMomentsAllow 36 = .ok (.aload_n 0, 1) := by decide +kernel
theorem dX8_weightThatMomentsAllow_37 : decode cX8_weightThatMomentsAllow 37 = .ok (.getfield 47, 3) := by decide +kernel
theorem dX8_weightThatMomentsAllow_40 : decode cX8_weightThatMomentsAllow 40 = .ok (.iload 5, 2) := by decide +kernel
theorem dX8_weightThatMomentsAllow_42 : decode cX8_weightThatMomentsAllow 42 = .ok (.invokevirtual 205, 3) := by decide +kernel
theorem dX8_weightThatMomentsAllow_45 : decode cX8_weightThatMomentsAllow 45 = .ok (.lstore 6, 2) := by decide +kernel
theorem dX8_weightThatMomentsAllow_47 : decode cX8_weightThatMomentsAllow 47 = .ok (.aload_n 0, 1) := by decide +kernel
theorem dX8_weightThatMomentsAllow_48 : decode cX8_weightThatMomentsAllow 48 = .ok (.getfield 43, 3) := by decide +kernel
theorem dX8_weightThatMomentsAllow_51 : decode cX8_weightThatMomentsAllow 51 = .ok (.iload 5, 2) := by decide +kernel
theorem dX8_weightThatMomentsAllow_53 : decode cX8_weightThatMomentsAllow 53 = .ok (.invokevirtual 205, 3) := by decide +kernel
theorem dX8_weightThatMomentsAllow_56 : decode cX8_weightThatMomentsAllow 56 = .ok (.lstore 8, 2) := by decide +kernel
theorem dX8_weightThatMomentsAllow_58 : decode cX8_weightThatMomentsAllow 58 = .ok (.lload_n 1, 1) := by decide +kernel
theorem dX8_weightThatMomentsAllow_59 : decode cX8_weightThatMomentsAllow 59 = .ok (.lload_n 3, 1) := by decide +kernel
theorem dX8_weightThatMomentsAllow_60 : decode cX8_weightThatMomentsAllow 60 = .ok (.lload 6, 2) := by decide +kernel
theorem dX8_weightThatMomentsAllow_62 : decode cX8_weightThatMomentsAllow 62 = .ok (.lsub, 1) := by decide +kernel
theorem dX8_weightThatMomentsAllow_63 : decode cX8_weightThatMomentsAllow 63 = .ok (.lload 8, 2) := by decide +kernel
theorem dX8_weightThatMomentsAllow_65 : decode cX8_weightThatMomentsAllow 65 = .ok (.invokestatic 325, 3) := by decide +kernel
theorem dX8_weightThatMomentsAllow_68 : decode cX8_weightThatMomentsAllow 68 = .ok (.invokestatic 250, 3) := by decide +kernel
theorem dX8_weightThatMomentsAllow_71 : decode cX8_weightThatMomentsAllow 71 = .ok (.lstore_n 1, 1) := by decide +kernel
theorem dX8_weightThatMomentsAllow_72 : decode cX8_weightThatMomentsAllow 72 = .ok (.lload_n 1, 1) := by decide +kernel
theorem dX8_weightThatMomentsAllow_73 : decode cX8_weightThatMomentsAllow 73 = .ok (.lload_n 3, 1) := by decide +kernel
theorem dX8_weightThatMomentsAllow_74 : decode cX8_weightThatMomentsAllow 74 = .ok (.lload 6, 2) := by decide +kernel
theorem dX8_weightThatMomentsAllow_76 : decode cX8_weightThatMomentsAllow 76 = .ok (.ladd, 1) := by decide +kernel
theorem dX8_weightThatMomentsAllow_77 : decode cX8_weightThatMomentsAllow 77 = .ok (.lload 8, 2) := by decide +kernel
theorem dX8_weightThatMomentsAllow_79 : decode cX8_weightThatMomentsAllow 79 = .ok (.lneg, 1) := by decide +kernel
theorem dX8_weightThatMomentsAllow_80 : decode cX8_weightThatMomentsAllow 80 = .ok (.invokestatic 325, 3) := by decide +kernel
theorem dX8_weightThatMomentsAllow_83 : decode cX8_weightThatMomentsAllow 83 = .ok (.invokestatic 250, 3) := by decide +kernel
theorem dX8_weightThatMomentsAllow_86 : decode cX8_weightThatMomentsAllow 86 = .ok (.lstore_n 1, 1) := by decide +kernel
theorem dX8_weightThatMomentsAllow_87 : decode cX8_weightThatMomentsAllow 87 = .ok (.iinc 5 1, 3) := by decide +kernel
theorem dX8_weightThatMomentsAllow_90 : decode cX8_weightThatMomentsAllow 90 = .ok (.goto (-66), 3) := by decide +kernel
theorem dX8_weightThatMomentsAllow_93 : decode cX8_weightThatMomentsAllow 93 = .ok (.lload_n 1, 1) := by decide +kernel
theorem dX8_weightThatMomentsAllow_94 : decode cX8_weightThatMomentsAllow 94 = .ok (.lreturn, 1) := by decide +kernel
theorem dX8_timesThatFit_0 : decode cX8_timesThatFit 0 = .ok (.lload_n 2, 1) := by decide +kernel
theorem dX8_timesThatFit_1 : decode cX8_timesThatFit 1 = .ok (.lconst 0, 1) := by decide +kernel
theorem dX8_timesThatFit_2 : decode cX8_timesThatFit 2 = .ok (.lcmp, 1) := by decide +kernel
theorem dX8_timesThatFit_3 : decode cX8_timesThatFit 3 = .ok (.ifCond .gt 9, 3) := by decide +kernel
theorem dX8_timesThatFit_6 : decode cX8_timesThatFit 6 = .ok (.ldc2_w 244, 3) := by decide +kernel
theorem dX8_timesThatFit_9 : decode cX8_timesThatFit 9 = .ok (.goto 6, 3) := by decide +kernel
theorem dX8_timesThatFit_12 : decode cX8_timesThatFit 12 = .ok (.lload_n 0, 1) := by decide +kernel
theorem dX8_timesThatFit_13 : decode cX8_timesThatFit 13 = .ok (.lload_n 2, 1) := by decide +kernel
theorem dX8_timesThatFit_14 : decode cX8_timesThatFit 14 = .ok (.ldiv, 1) := by decide +kernel
theorem dX8_timesThatFit_15 : decode cX8_timesThatFit 15 = .ok (.lreturn, 1) := by decide +kernel
set_option maxRecDepth 20000 in
theorem ggX8_tryHingeAt_X0_copyFrom : GoodIn wsX8_tryHingeAt wsX0_copyFrom := goodIn_r _ [9, 10, 11, 12, 13, 14, 15, 16, 17, 18, 19, 20, 21, 22, 23, 24, 25, 26, 27, 28, 29, 30, 31, 32, 33, 34, 35, 36, 37, 38, 39, 138, 139, 140, 141, 142, 143, 144, 145, 146] (by decide +kernel) (by decide +kernel)
set_option maxRecDepth 20000 in
theorem gX8_tryHingeAt_X0_copyFrom : GoodIn wsX8_tryHingeAt (wsV RX8 128 RX0 yX0_copyFrom wsX0_copyFrom) := goodIn_app (goodIn_of _ (by decide +kernel)) ggX8_tryHingeAt_X0_copyFrom
set_option maxRecDepth 20000 in
theorem ggX8_tryHingeAt_X6_remove : GoodIn wsX8_tryHingeAt wsX6_remove := goodIn_r _ [43, 21, 22, 23, 32, 33, 34, 19, 35, 144, 145, 146] (by decide +kernel) (by decide +kernel)
set_option maxRecDepth 20000 in
theorem gX8_tryHingeAt_X6_remove : GoodIn wsX8_tryHingeAt (wsV RX8 262 RX6 yX6_remove wsX6_remove) := goodIn_app (goodIn_of _ (by decide +kernel)) ggX8_tryHingeAt_X6_remove
set_option maxRecDepth 20000 in
theorem ggX8_tryHingeAt_X0_isTaken : GoodIn wsX8_tryHingeAt wsX0_isTaken := goodIn_r _ [47, 12, 13, 48, 49, 50, 19, 51, 21, 22, 138, 139, 140, 141, 142, 143, 144, 145, 146] (by decide +kernel) (by decide +kernel)
set_option maxRecDepth 20000 in
theorem gX8_tryHingeAt_X0_isTaken : GoodIn wsX8_tryHingeAt (wsV RX8 265 RX0 yX0_isTaken wsX0_isTaken) := goodIn_app (goodIn_of _ (by decide +kernel)) ggX8_tryHingeAt_X0_isTaken
set_option maxRecDepth 20000 in
theorem ggX8_tryHingeAt_X6_putInOrder : GoodIn wsX8_tryHingeAt wsX6_putInOrder := goodIn_r _ [55, 56, 57, 58, 19, 59, 21, 22, 60, 61, 62, 63, 23, 64, 65, 66, 67, 144, 145, 146] (by decide +kernel) (by decide +kernel)
set_option maxRecDepth 20000 in
theorem gX8_tryHingeAt_X6_putInOrder : GoodIn wsX8_tryHingeAt (wsV RX8 89 RX6 yX6_putInOrder wsX6_putInOrder) := goodIn_app (goodIn_of _ (by decide +kernel)) ggX8_tryHingeAt_X6_putInOrder
set_option maxRecDepth 20000 in
theorem ggX8_tryHingeAt_X3_reckon : GoodIn wsX8_tryHingeAt wsX3_reckon := goodIn_r _ [72, 73, 74, 75, 25, 26, 27, 76, 77, 78, 79, 80, 81, 71, 82, 83, 84, 29, 30, 19, 31, 22, 32, 33, 34, 35, 21, 23, 85, 86, 87, 88, 89, 90, 91, 92, 93, 94, 95, 96, 97, 98, 99, 100, 101, 102, 103, 104, 105, 106, 107, 108, 109, 110, 111, 112, 113, 114, 115, 116, 117, 118, 119, 120, 121, 122, 123, 138, 139, 140, 141, 142, 143, 144, 145, 146, 147, 148, 149, 150, 151] (by decide +kernel) (by decide +kernel)
set_option maxRecDepth 20000 in
theorem gX8_tryHingeAt_X3_reckon : GoodIn wsX8_tryHingeAt (wsV RX8 95 RX3 yX3_reckon wsX3_reckon) := goodIn_app (goodIn_of _ (by decide +kernel)) ggX8_tryHingeAt_X3_reckon
theorem dX8_tryHingeAt_0 : decode cX8_tryHingeAt 0 = .ok (.aload_n 0, 1) := by decide +kernel
theorem dX8_tryHingeAt_1 : decode cX8_tryHingeAt 1 = .ok (.getfield 34, 3) := by decide +kernel
theorem dX8_tryHingeAt_4 : decode cX8_tryHingeAt 4 = .ok (.aload_n 0, 1) := by decide +kernel
theorem dX8_tryHingeAt_5 : decode cX8_tryHingeAt 5 = .ok (.getfield 23, 3) := by decide +kernel
theorem dX8_tryHingeAt_8 : decode cX8_tryHingeAt 8 = .ok (.invokevirtual 128, 3) := by decide +kernel
theorem dX8_tryHingeAt_11 : decode cX8_tryHingeAt 11 = .ok (.aload_n 0, 1) := by decide +kernel
theorem dX8_tryHingeAt_12 : decode cX8_tryHingeAt 12 = .ok (.getfield 34, 3) := by decide +kernel
theorem dX8_tryHingeAt_15 : decode cX8_tryHingeAt 15 = .ok (.getfield 138, 3) := by decide +kernel
theorem dX8_tryHingeAt_18 : decode cX8_tryHingeAt 18 = .ok (.iload_n 1, 1) := by decide +kernel
theorem dX8_tryHingeAt_19 : decode cX8_tryHingeAt 19 = .ok (.invokevirtual 262, 3) := by decide +kernel
theorem dX8_tryHingeAt_22 : decode cX8_tryHingeAt 22 = .ok (.aload_n 0, 1) := by decide +kernel
theorem dX8_tryHingeAt_23 : decode cX8_tryHingeAt 23 = .ok (.getfield 34, 3) := by decide +kernel
theorem dX8_tryHingeAt_26 : decode cX8_tryHingeAt 26 = .ok (.iload_n 2, 1) := by decide +kernel
theorem dX8_tryHingeAt_27 : decode cX8_tryHingeAt 27 = .ok (.invokevirtual 265, 3) := by decide +kernel
theorem dX8_tryHingeAt_30 : decode cX8_tryHingeAt 30 = .ok (.ifCond .eq 6, 3) := by decide +kernel
theorem dX8_tryHingeAt_33 : decode cX8_tryHingeAt 33 = .ok (.bipush (-11), 2) := by decide +kernel
theorem dX8_tryHingeAt_35 : decode cX8_tryHingeAt 35 = .ok (.ireturn, 1) := by decide +kernel
theorem dX8_tryHingeAt_36 : decode cX8_tryHingeAt 36 = .ok (.aload_n 0, 1) := by decide +kernel
theorem dX8_tryHingeAt_37 : decode cX8_tryHingeAt 37 = .ok (.getfield 34, 3) := by decide +kernel
theorem dX8_tryHingeAt_40 : decode cX8_tryHingeAt 40 = .ok (.getfield 138, 3) := by decide +kernel
theorem dX8_tryHingeAt_43 : decode cX8_tryHingeAt 43 = .ok (.iload_n 2, 1) := by decide +kernel
theorem dX8_tryHingeAt_44 : decode cX8_tryHingeAt 44 = .ok (.iconst 0, 1) := by decide +kernel
theorem dX8_tryHingeAt_45 : decode cX8_tryHingeAt 45 = .ok (.invokevirtual 89, 3) := by decide +kernel
theorem dX8_tryHingeAt_48 : decode cX8_tryHingeAt 48 = .ok (.istore_n 3, 1) := by decide +kernel
theorem dX8_tryHingeAt_49 : decode cX8_tryHingeAt 49 = .ok (.aload_n 0, 1) := by decide +kernel
theorem dX8_tryHingeAt_50 : decode cX8_tryHingeAt 50 = .ok (.getfield 37, 3) := by decide +kernel
theorem dX8_tryHingeAt_53 : decode cX8_tryHingeAt 53 = .ok (.aload_n 0, 1) := by decide +kernel
theorem dX8_tryHingeAt_54 : decode cX8_tryHingeAt 54 = .ok (.getfield 34, 3) := by decide +kernel
theorem dX8_tryHingeAt_57 : decode cX8_tryHingeAt 57 = .ok (.invokevirtual 95, 3) := by decide +kernel
theorem dX8_tryHingeAt_60 : decode cX8_tryHingeAt 60 = .ok (.ifCond .eq 7, 3) := by decide +kernel
theorem dX8_tryHingeAt_63 : decode cX8_tryHingeAt 63 = .ok (.iload_n 3, 1) := by decide +kernel
theorem dX8_tryHingeAt_64 : decode cX8_tryHingeAt 64 = .ok (.goto 5, 3) := by decide +kernel
theorem dX8_tryHingeAt_67 : decode cX8_tryHingeAt 67 = .ok (.bipush (-12), 2) := by decide +kernel
theorem dX8_tryHingeAt_69 : decode cX8_tryHingeAt 69 = .ok (.ireturn, 1) := by decide +kernel
set_option maxRecDepth 20000 in
theorem ggX8_takeTrial_X2_remember : GoodIn wsX8_takeTrial wsX2_remember := goodIn_r _ [9, 10, 11, 12, 13, 14, 8, 15, 16, 17, 18, 19, 20, 21, 22, 23, 24, 25, 26, 27, 28, 29, 30, 31, 32, 33, 34, 35, 36, 37, 38, 39, 40, 41, 42, 43, 44, 45, 46, 47, 48, 49, 50, 122, 123, 124, 125, 126, 127, 128, 129, 130, 131, 132] (by decide +kernel) (by decide +kernel)
set_option maxRecDepth 20000 in
theorem gX8_takeTrial_X2_remember : GoodIn wsX8_takeTrial (wsV RX8 282 RX2 yX2_remember wsX2_remember) := goodIn_app (goodIn_of _ (by decide +kernel)) ggX8_takeTrial_X2_remember
set_option maxRecDepth 20000 in
theorem ggX8_takeTrial_X0_copyFrom : GoodIn wsX8_takeTrial wsX0_copyFrom := goodIn_r _ [20, 21, 22, 23, 24, 25, 26, 27, 28, 29, 30, 31, 32, 33, 34, 35, 36, 37, 38, 39, 40, 41, 42, 43, 44, 45, 46, 47, 48, 49, 50, 124, 125, 126, 127, 128, 129, 130, 131, 132] (by decide +kernel) (by decide +kernel)
set_option maxRecDepth 20000 in
theorem gX8_takeTrial_X0_copyFrom : GoodIn wsX8_takeTrial (wsV RX8 128 RX0 yX0_copyFrom wsX0_copyFrom) := goodIn_app (goodIn_of _ (by decide +kernel)) ggX8_takeTrial_X0_copyFrom
set_option maxRecDepth 20000 in
theorem ggX8_takeTrial_X3_reckon : GoodIn wsX8_takeTrial wsX3_reckon := goodIn_r _ [56, 57, 58, 59, 36, 37, 38, 60, 61, 62, 63, 64, 65, 55, 66, 67, 68, 40, 41, 30, 42, 33, 43, 44, 45, 46, 32, 34, 69, 70, 71, 72, 73, 74, 75, 76, 77, 78, 79, 80, 81, 82, 83, 84, 85, 86, 87, 88, 89, 90, 91, 92, 93, 94, 95, 96, 97, 98, 99, 100, 101, 102, 103, 104, 105, 106, 107, 124, 125, 126, 127, 128, 129, 130, 131, 132, 133, 134, 135, 136, 137] (by decide +kernel) (by decide +kernel)
set_option maxRecDepth 20000 in
theorem gX8_takeTrial_X3_reckon : GoodIn wsX8_takeTrial (wsV RX8 95 RX3 yX3_reckon wsX3_reckon) := goodIn_app (goodIn_of _ (by decide +kernel)) ggX8_takeTrial_X3_reckon
theorem dX8_takeTrial_0 : decode cX8_takeTrial 0 = .ok (.aload_n 0, 1) := by decide +kernel
theorem dX8_takeTrial_1 : decode cX8_takeTrial 1 = .ok (.getfield 60, 3) := by decide +kernel
theorem dX8_takeTrial_4 : decode cX8_takeTrial 4 = .ok (.aload_n 0, 1) := by decide +kernel
theorem dX8_takeTrial_5 : decode cX8_takeTrial 5 = .ok (.getfield 23, 3) := by decide +kernel
theorem dX8_takeTrial_8 : decode cX8_takeTrial 8 = .ok (.invokevirtual 282, 3) := by decide +kernel
theorem dX8_takeTrial_11 : decode cX8_takeTrial 11 = .ok (.aload_n 0, 1) := by decide +kernel
theorem dX8_takeTrial_12 : decode cX8_takeTrial 12 = .ok (.getfield 23, 3) := by decide +kernel
theorem dX8_takeTrial_15 : decode cX8_takeTrial 15 = .ok (.aload_n 0, 1) := by decide +kernel
theorem dX8_takeTrial_16 : decode cX8_takeTrial 16 = .ok (.getfield 34, 3) := by decide +kernel
theorem dX8_takeTrial_19 : decode cX8_takeTrial 19 = .ok (.invokevirtual 128, 3) := by decide +kernel
theorem dX8_takeTrial_22 : decode cX8_takeTrial 22 = .ok (.aload_n 0, 1) := by decide +kernel
theorem dX8_takeTrial_23 : decode cX8_takeTrial 23 = .ok (.getfield 30, 3) := by decide +kernel
theorem dX8_takeTrial_26 : decode cX8_takeTrial 26 = .ok (.aload_n 0, 1) := by decide +kernel
theorem dX8_takeTrial_27 : decode cX8_takeTrial 27 = .ok (.getfield 23, 3) := by decide +kernel
theorem dX8_takeTrial_30 : decode cX8_takeTrial 30 = .ok (.invokevirtual 95, 3) := by decide +kernel
theorem dX8_takeTrial_33 : decode cX8_takeTrial 33 = .ok (.pop, 1) := by decide +kernel
theorem dX8_takeTrial_34 : decode cX8_takeTrial 34 = .ok (.return_, 1) := by decide +kernel
theorem dX8_isLess_0 : decode cX8_isLess 0 = .ok (.lload_n 2, 1) := by decide +kernel
theorem dX8_isLess_1 : decode cX8_isLess 1 = .ok (.lconst 0, 1) := by decide +kernel
theorem dX8_isLess_2 : decode cX8_isLess 2 = .ok (.lcmp, 1) := by decide +kernel
theorem dX8_isLess_3 : decode cX8_isLess 3 = .ok (.ifCond .le 10, 3) := by decide +kernel
theorem dX8_isLess_6 : decode cX8_isLess 6 = .ok (.lload 6, 2) := by decide +kernel
theorem dX8_isLess_8 : decode cX8_isLess 8 = .ok (.lconst 0, 1) := by decide +kernel
theorem dX8_isLess_9 : decode cX8_isLess 9 = .ok (.lcmp, 1) := by decide +kernel
theorem dX8_isLess_10 : decode cX8_isLess 10 = .ok (.ifCond .gt 5, 3) := by decide +kernel
theorem dX8_isLess_13 : decode cX8_isLess 13 = .ok (.iconst 0, 1) := by decide +kernel
theorem dX8_isLess_14 : decode cX8_isLess 14 = .ok (.ireturn, 1) := by decide +kernel
theorem dX8_isLess_15 : decode cX8_isLess 15 = .ok (.lload_n 0, 1) := by decide +kernel
theorem dX8_isLess_16 : decode cX8_isLess 16 = .ok (.lload_n 2, 1) := by decide +kernel
theorem dX8_isLess_17 : decode cX8_isLess 17 = .ok (.ldiv, 1) := by decide +kernel
theorem dX8_isLess_18 : decode cX8_isLess 18 = .ok (.lstore 8, 2) := by decide +kernel
theorem dX8_isLess_20 : decode cX8_isLess 20 = .ok (.lload 4, 2) := by decide +kernel
theorem dX8_isLess_22 : decode cX8_isLess 22 = .ok (.lload 6, 2) := by decide +kernel
theorem dX8_isLess_24 : decode cX8_isLess 24 = .ok (.ldiv, 1) := by decide +kernel
theorem dX8_isLess_25 : decode cX8_isLess 25 = .ok (.lstore 10, 2) := by decide +kernel
theorem dX8_isLess_27 : decode cX8_isLess 27 = .ok (.lload 8, 2) := by decide +kernel
theorem dX8_isLess_29 : decode cX8_isLess 29 = .ok (.lload 10, 2) := by decide +kernel
theorem dX8_isLess_31 : decode cX8_isLess 31 = .ok (.lcmp, 1) := by decide +kernel
theorem dX8_isLess_32 : decode cX8_isLess 32 = .ok (.ifCond .eq 17, 3) := by decide +kernel
theorem dX8_isLess_35 : decode cX8_isLess 35 = .ok (.lload 8, 2) := by decide +kernel
theorem dX8_isLess_37 : decode cX8_isLess 37 = .ok (.lload 10, 2) := by decide +kernel
theorem dX8_isLess_39 : decode cX8_isLess 39 = .ok (.lcmp, 1) := by decide +kernel
theorem dX8_isLess_40 : decode cX8_isLess 40 = .ok (.ifCond .ge 7, 3) := by decide +kernel
theorem dX8_isLess_43 : decode cX8_isLess 43 = .ok (.iconst 1, 1) := by decide +kernel
theorem dX8_isLess_44 : decode cX8_isLess 44 = .ok (.goto 4, 3) := by decide +kernel
theorem dX8_isLess_47 : decode cX8_isLess 47 = .ok (.iconst 0, 1) := by decide +kernel
theorem dX8_isLess_48 : decode cX8_isLess 48 = .ok (.ireturn, 1) := by decide +kernel
theorem dX8_isLess_49 : decode cX8_isLess 49 = .ok (.lload_n 0, 1) := by decide +kernel
theorem dX8_isLess_50 : decode cX8_isLess 50 = .ok (.lload_n 2, 1) := by decide +kernel
theorem dX8_isLess_51 : decode cX8_isLess 51 = .ok (.lrem, 1) := by decide +kernel
theorem dX8_isLess_52 : decode cX8_isLess 52 = .ok (.lload 6, 2) := by decide +kernel
theorem dX8_isLess_54 : decode cX8_isLess 54 = .ok (.lmul, 1) := by decide +kernel
theorem dX8_isLess_55 : decode cX8_isLess 55 = .ok (.lload 4, 2) := by decide +kernel
theorem dX8_isLess_57 : decode cX8_isLess 57 = .ok (.lload 6, 2) := by decide +kernel
theorem dX8_isLess_59 : decode cX8_isLess 59 = .ok (.lrem, 1) := by decide +kernel
theorem dX8_isLess_60 : decode cX8_isLess 60 = .ok (.lload_n 2, 1) := by decide +kernel
theorem dX8_isLess_61 : decode cX8_isLess 61 = .ok (.lmul, 1) := by decide +kernel
theorem dX8_isLess_62 : decode cX8_isLess 62 = .ok (.lcmp, 1) := by decide +kernel
theorem dX8_isLess_63 : decode cX8_isLess 63 = .ok (.ifCond .ge 7, 3) := by decide +kernel
theorem dX8_isLess_66 : decode cX8_isLess 66 = .ok (.iconst 1, 1) := by decide +kernel
theorem dX8_isLess_67 : decode cX8_isLess 67 = .ok (.goto 4, 3) := by decide +kernel
theorem dX8_isLess_70 : decode cX8_isLess 70 = .ok (.iconst 0, 1) := by decide +kernel
theorem dX8_isLess_71 : decode cX8_isLess 71 = .ok (.ireturn, 1) := by decide +kernel
