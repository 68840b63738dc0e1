theorem dX9_run_1 : decode cX9_run 1 = .ok (.iconst 0, 1) := by decide +kernel
theorem dX9_run_2 : decode cX9_run 2 = .ok (.putfield 83, 3) := by decide +kernel
theorem dX9_run_5 : decode cX9_run 5 = .ok (.iload_n 1, 1) := by decide +kernel
theorem dX9_run_6 : decode cX9_run 6 = .ok (.ifCond .lt 10, 3) := by decide +kernel
theorem dX9_run_9 : decode cX9_run 9 = .ok (.iload_n 1, 1) := by decide +kernel
theorem dX9_run_10 : decode cX9_run 10 = .ok (.sipush 500, 3) := by decide +kernel
theorem dX9_run_13 : decode cX9_run 13 = .ok (.if_icmp .le 5, 3) := by decide +kernel
theorem dX9_run_16 : decode cX9_run 16 = .ok (.iconst (-1), 1) := by decide +kernel
theorem dX9_run_17 : decode cX9_run 17 = .ok (.ireturn, 1) := by decide +kernel
theorem dX9_run_18 : decode cX9_run 18 = .ok (.aload_n 0, 1) := by decide +kernel
theorem dX9_run_19 : decode cX9_run 19 = .ok (.iconst 5, 1) := by decide +kernel
theorem dX9_run_20 : decode cX9_run 20 = .ok (.invokevirtual 157, 3) := by decide +kernel
theorem dX9_run_23 : decode cX9_run 23 = .ok (.istore_n 2, 1) := by decide +kernel
theorem dX9_run_24 : decode cX9_run 24 = .ok (.iconst 0, 1) := by decide +kernel
theorem dX9_run_25 : decode cX9_run 25 = .ok (.istore_n 3, 1) := by decide +kernel
theorem dX9_run_26 : decode cX9_run 26 = .ok (.iload_n 3, 1) := by decide +kernel
theorem dX9_run_27 : decode cX9_run 27 = .ok (.iload_n 1, 1) := by decide +kernel
theorem dX9_run_28 : decode cX9_run 28 = .ok (.if_icmp .ge 103, 3) := by decide +kernel
theorem dX9_run_31 : decode cX9_run 31 = .ok (.aload_n 0, 1) := by decide +kernel
theorem dX9_run_32 : decode cX9_run 32 = .ok (.dup, 1) := by decide +kernel
theorem dX9_run_33 : decode cX9_run 33 = .ok (.getfield 87, 3) := by decide +kernel
theorem dX9_run_36 : decode cX9_run 36 = .ok (.iconst 1, 1) := by decide +kernel
theorem dX9_run_37 : decode cX9_run 37 = .ok (.iadd, 1) := by decide +kernel
theorem dX9_run_38 : decode cX9_run 38 = .ok (.putfield 87, 3) := by decide +kernel
theorem dX9_run_41 : decode cX9_run 41 = .ok (.iconst 0, 1) := by decide +kernel
theorem dX9_run_42 : decode cX9_run 42 = .ok (.istore 4, 2) := by decide +kernel
theorem dX9_run_44 : decode cX9_run 44 = .ok (.iload 4, 2) := by decide +kernel
theorem dX9_run_46 : decode cX9_run 46 = .ok (.aload_n 0, 1) := by decide +kernel
theorem dX9_run_47 : decode cX9_run 47 = .ok (.getfield 93, 3) := by decide +kernel
theorem dX9_run_50 : decode cX9_run 50 = .ok (.if_icmp .ge 51, 3) := by decide +kernel
theorem dX9_run_53 : decode cX9_run 53 = .ok (.aload_n 0, 1) := by decide +kernel
theorem dX9_run_54 : decode cX9_run 54 = .ok (.getfield 65, 3) := by decide +kernel
theorem dX9_run_57 : decode cX9_run 57 = .ok (.iload 4, 2) := by decide +kernel
theorem dX9_run_59 : decode cX9_run 59 = .ok (.iaload, 1) := by decide +kernel
theorem dX9_run_60 : decode cX9_run 60 = .ok (.aload_n 0, 1) := by decide +kernel
theorem dX9_run_61 : decode cX9_run 61 = .ok (.getfield 87, 3) := by decide +kernel
theorem dX9_run_64 : decode cX9_run 64 = .ok (.if_icmp .ne 31, 3) := by decide +kernel
theorem dX9_run_67 : decode cX9_run 67 = .ok (.aload_n 0, 1) := by decide +kernel
theorem dX9_run_68 : decode cX9_run 68 = .ok (.getfield 22, 3) := by decide +kernel
theorem dX9_run_71 : decode cX9_run 71 = .ok (.aload_n 0, 1) := by decide +kernel
theorem dX9_run_72 : decode cX9_run 72 = .ok (.getfield 68, 3) := by decide +kernel
theorem dX9_run_75 : decode cX9_run 75 = .ok (.iload 4, 2) := by decide +kernel
theorem dX9_run_77 : decode cX9_run 77 = .ok (.iaload, 1) := by decide +kernel
theorem dX9_run_78 : decode cX9_run 78 = .ok (.iaload, 1) := by decide +kernel
theorem dX9_run_79 : decode cX9_run 79 = .ok (.ifCond .le 16, 3) := by decide +kernel
theorem dX9_run_82 : decode cX9_run 82 = .ok (.aload_n 0, 1) := by decide +kernel
theorem dX9_run_83 : decode cX9_run 83 = .ok (.getfield 25, 3) := by decide +kernel
theorem dX9_run_86 : decode cX9_run 86 = .ok (.aload_n 0, 1) := by decide +kernel
theorem dX9_run_87 : decode cX9_run 87 = .ok (.getfield 68, 3) := by decide +kernel
theorem dX9_run_90 : decode cX9_run 90 = .ok (.iload 4, 2) := by decide +kernel
theorem dX9_run_92 : decode cX9_run 92 = .ok (.iaload, 1) := by decide +kernel
theorem dX9_run_93 : decode cX9_run 93 = .ok (.iconst 1, 1) := by decide +kernel
theorem dX9_run_94 : decode cX9_run 94 = .ok (.bastore, 1) := by decide +kernel
theorem dX9_run_95 : decode cX9_run 95 = .ok (.iinc 4 1, 3) := by decide +kernel
theorem dX9_run_98 : decode cX9_run 98 = .ok (.goto (-54), 3) := by decide +kernel
theorem dX9_run_101 : decode cX9_run 101 = .ok (.aload_n 0, 1) := by decide +kernel
theorem dX9_run_102 : decode cX9_run 102 = .ok (.invokevirtual 161, 3) := by decide +kernel
theorem dX9_run_105 : decode cX9_run 105 = .ok (.aload_n 0, 1) := by decide +kernel
theorem dX9_run_106 : decode cX9_run 106 = .ok (.invokevirtual 164, 3) := by decide +kernel
theorem dX9_run_109 : decode cX9_run 109 = .ok (.aload_n 0, 1) := by decide +kernel
theorem dX9_run_110 : decode cX9_run 110 = .ok (.invokevirtual 167, 3) := by decide +kernel
theorem dX9_run_113 : decode cX9_run 113 = .ok (.aload_n 0, 1) := by decide +kernel
theorem dX9_run_114 : decode cX9_run 114 = .ok (.invokevirtual 170, 3) := by decide +kernel
theorem dX9_run_117 : decode cX9_run 117 = .ok (.aload_n 0, 1) := by decide +kernel
theorem dX9_run_118 : decode cX9_run 118 = .ok (.invokevirtual 173, 3) := by decide +kernel
theorem dX9_run_121 : decode cX9_run 121 = .ok (.aload_n 0, 1) := by decide +kernel
theorem dX9_run_122 : decode cX9_run 122 = .ok (.invokevirtual 176, 3) := by decide +kernel
theorem dX9_run_125 : decode cX9_run 125 = .ok (.iinc 3 1, 3) := by decide +kernel
theorem dX9_run_128 : decode cX9_run 128 = .ok (.goto (-102), 3) := by decide +kernel
theorem dX9_run_131 : decode cX9_run 131 = .ok (.aload_n 0, 1) := by decide +kernel
theorem dX9_run_132 : decode cX9_run 132 = .ok (.iconst 5, 1) := by decide +kernel
theorem dX9_run_133 : decode cX9_run 133 = .ok (.invokevirtual 157, 3) := by decide +kernel
theorem dX9_run_136 : decode cX9_run 136 = .ok (.iload_n 2, 1) := by decide +kernel
theorem dX9_run_137 : decode cX9_run 137 = .ok (.isub, 1) := by decide +kernel
theorem dX9_run_138 : decode cX9_run 138 = .ok (.ireturn, 1) := by decide +kernel
theorem dX9_many_0 : decode cX9_many 0 = .ok (.iconst 0, 1) := by decide +kernel
theorem dX9_many_1 : decode cX9_many 1 = .ok (.istore_n 2, 1) := by decide +kernel
theorem dX9_many_2 : decode cX9_many 2 = .ok (.iconst 0, 1) := by decide +kernel
theorem dX9_many_3 : decode cX9_many 3 = .ok (.istore_n 3, 1) := by decide +kernel
theorem dX9_many_4 : decode cX9_many 4 = .ok (.iload_n 3, 1) := by decide +kernel
theorem dX9_many_5 : decode cX9_many 5 = .ok (.aload_n 0, 1) := by decide +kernel
theorem dX9_many_6 : decode cX9_many 6 = .ok (.getfield 90, 3) := by decide +kernel
theorem dX9_many_9 : decode cX9_many 9 = .ok (.if_icmp .ge 22, 3) := by decide +kernel
theorem dX9_many_12 : decode cX9_many 12 = .ok (.aload_n 0, 1) := by decide +kernel
theorem dX9_many_13 : decode cX9_many 13 = .ok (.getfield 53, 3) := by decide +kernel
theorem dX9_many_16 : decode cX9_many 16 = .ok (.iload_n 3, 1) := by decide +kernel
theorem dX9_many_17 : decode cX9_many 17 = .ok (.iaload, 1) := by decide +kernel
theorem dX9_many_18 : decode cX9_many 18 = .ok (.iload_n 1, 1) := by decide +kernel
theorem dX9_many_19 : decode cX9_many 19 = .ok (.if_icmp .ne 6, 3) := by decide +kernel
theorem dX9_many_22 : decode cX9_many 22 = .ok (.iinc 2 1, 3) := by decide +kernel
theorem dX9_many_25 : decode cX9_many 25 = .ok (.iinc 3 1, 3) := by decide +kernel
theorem dX9_many_28 : decode cX9_many 28 = .ok (.goto (-24), 3) := by decide +kernel
theorem dX9_many_31 : decode cX9_many 31 = .ok (.iload_n 2, 1) := by decide +kernel
theorem dX9_many_32 : decode cX9_many 32 = .ok (.ireturn, 1) := by decide +kernel
theorem dX9_slots_0 : decode cX9_slots 0 = .ok (.iconst 0, 1) := by decide +kernel
theorem dX9_slots_1 : decode cX9_slots 1 = .ok (.istore_n 2, 1) := by decide +kernel
theorem dX9_slots_2 : decode cX9_slots 2 = .ok (.iconst 0, 1) := by decide +kernel
theorem dX9_slots_3 : decode cX9_slots 3 = .ok (.istore_n 3, 1) := by decide +kernel
theorem dX9_slots_4 : decode cX9_slots 4 = .ok (.iload_n 3, 1) := by decide +kernel
theorem dX9_slots_5 : decode cX9_slots 5 = .ok (.bipush 12, 2) := by decide +kernel
theorem dX9_slots_7 : decode cX9_slots 7 = .ok (.if_icmp .ge 22, 3) := by decide +kernel
theorem dX9_slots_10 : decode cX9_slots 10 = .ok (.aload_n 0, 1) := by decide +kernel
theorem dX9_slots_11 : decode cX9_slots 11 = .ok (.getfield 22, 3) := by decide +kernel
theorem dX9_slots_14 : decode cX9_slots 14 = .ok (.iload_n 3, 1) := by decide +kernel
theorem dX9_slots_15 : decode cX9_slots 15 = .ok (.iaload, 1) := by decide +kernel
theorem dX9_slots_16 : decode cX9_slots 16 = .ok (.iload_n 1, 1) := by decide +kernel
theorem dX9_slots_17 : decode cX9_slots 17 = .ok (.if_icmp .ne 6, 3) := by decide +kernel
theorem dX9_slots_20 : decode cX9_slots 20 = .ok (.iinc 2 1, 3) := by decide +kernel
theorem dX9_slots_23 : decode cX9_slots 23 = .ok (.iinc 3 1, 3) := by decide +kernel
theorem dX9_slots_26 : decode cX9_slots 26 = .ok (.goto (-22), 3) := by decide +kernel
theorem dX9_slots_29 : decode cX9_slots 29 = .ok (.iload_n 2, 1) := by decide +kernel
theorem dX9_slots_30 : decode cX9_slots 30 = .ok (.ireturn, 1) := by decide +kernel
set_option maxRecDepth 20000 in
theorem ggX9_count_X9_many : GoodIn wsX9_count wsX9_many := goodIn_r _ [16, 3, 17, 27, 28, 29, 30, 31, 32, 33, 34, 35, 36, 37, 38, 39, 40, 41, 42, 43, 44, 45, 46, 47, 48, 49, 50, 51, 52, 53, 54, 55, 56, 57, 58, 59, 60, 61, 62, 63, 64, 65] (by decide +kernel) (by decide +kernel)
set_option maxRecDepth 20000 in
theorem gX9_count_X9_many : GoodIn wsX9_count (wsV RX9 157 RX9 yX9_many wsX9_many) := goodIn_app (goodIn_of _ (by decide +kernel)) ggX9_count_X9_many
set_option maxRecDepth 20000 in
theorem ggX9_count_X9_lines : GoodIn wsX9_count wsX9_lines := goodIn_r _ [21, 22, 27, 28, 29, 30, 31, 32, 33, 34, 35, 36, 37, 38, 39, 40, 41, 42, 43, 44, 45, 46, 47, 48, 49, 50, 51, 52, 53, 54, 55, 56, 57, 58, 59, 60, 61, 62, 63, 64, 65] (by decide +kernel) (by decide +kernel)
set_option maxRecDepth 20000 in
theorem gX9_count_X9_lines : GoodIn wsX9_count (wsV RX9 151 RX9 yX9_lines wsX9_lines) := goodIn_app (goodIn_of _ (by decide +kernel)) ggX9_count_X9_lines
set_option maxRecDepth 20000 in
theorem ggX9_count_X9_slots : GoodIn wsX9_count wsX9_slots := goodIn_r _ [26, 22, 27, 28, 29, 30, 31, 32, 33, 34, 35, 36, 37, 38, 39, 40, 41, 42, 43, 44, 45, 46, 47, 48, 49, 50, 51, 52, 53, 54, 55, 56, 57, 58, 59, 60, 61, 62, 63, 64, 65] (by decide +kernel) (by decide +kernel)
set_option maxRecDepth 20000 in
theorem gX9_count_X9_slots : GoodIn wsX9_count (wsV RX9 179 RX9 yX9_slots wsX9_slots) := goodIn_app (goodIn_of _ (by decide +kernel)) ggX9_count_X9_slots
theorem dX9_count_0 : decode cX9_count 0 = .ok (.aload_n 0, 1) := by decide +kernel
theorem dX9_count_1 : decode cX9_count 1 = .ok (.iconst 0, 1) := by decide +kernel
theorem dX9_count_2 : decode cX9_count 2 = .ok (.putfield 83, 3) := by decide +kernel
theorem dX9_count_5 : decode cX9_count 5 = .ok (.iload_n 1, 1) := by decide +kernel
theorem dX9_count_6 : decode cX9_count 6 = .ok (.tableswitch 182 0 17 #[86, 92, 98, 105, 112, 118, 125, 132, 132, 132, 132, 141, 147, 153, 159, 164, 170, 176], 86) := by decide +kernel
theorem dX9_count_92 : decode cX9_count 92 = .ok (.aload_n 0, 1) := by decide +kernel
theorem dX9_count_93 : decode cX9_count 93 = .ok (.getfield 87, 3) := by decide +kernel
theorem dX9_count_96 : decode cX9_count 96 = .ok (.i2l, 1) := by decide +kernel
theorem dX9_count_97 : decode cX9_count 97 = .ok (.lreturn, 1) := by decide +kernel
theorem dX9_count_98 : decode cX9_count 98 = .ok (.aload_n 0, 1) := by decide +kernel
theorem dX9_count_99 : decode cX9_count 99 = .ok (.getfield 90, 3) := by decide +kernel
theorem dX9_count_102 : decode cX9_count 102 = .ok (.i2l, 1) := by decide +kernel
theorem dX9_count_103 : decode cX9_count 103 = .ok (.lreturn, 1) := by decide +kernel
theorem dX9_count_104 : decode cX9_count 104 = .ok (.aload_n 0, 1) := by decide +kernel
theorem dX9_count_105 : decode cX9_count 105 = .ok (.iconst 1, 1) := by decide +kernel
theorem dX9_count_106 : decode cX9_count 106 = .ok (.invokevirtual 157, 3) := by decide +kernel
theorem dX9_count_109 : decode cX9_count 109 = .ok (.i2l, 1) := by decide +kernel
theorem dX9_count_110 : decode cX9_count 110 = .ok (.lreturn, 1) := by decide +kernel
theorem dX9_count_111 : decode cX9_count 111 = .ok (.aload_n 0, 1) := by decide +kernel
theorem dX9_count_112 : decode cX9_count 112 = .ok (.iconst 3, 1) := by decide +kernel
theorem dX9_count_113 : decode cX9_count 113 = .ok (.invokevirtual 157, 3) := by decide +kernel
theorem dX9_count_116 : decode cX9_count 116 = .ok (.i2l, 1) := by decide +kernel
theorem dX9_count_117 : decode cX9_count 117 = .ok (.lreturn, 1) := by decide +kernel
theorem dX9_count_118 : decode cX9_count 118 = .ok (.aload_n 0, 1) := by decide +kernel
theorem dX9_count_119 : decode cX9_count 119 = .ok (.invokevirtual 151, 3) := by decide +kernel
theorem dX9_count_122 : decode cX9_count 122 = .ok (.i2l, 1) := by decide +kernel
theorem dX9_count_123 : decode cX9_count 123 = .ok (.lreturn, 1) := by decide +kernel
theorem dX9_count_124 : decode cX9_count 124 = .ok (.aload_n 0, 1) := by decide +kernel
theorem dX9_count_125 : decode cX9_count 125 = .ok (.iconst 2, 1) := by decide +kernel
theorem dX9_count_126 : decode cX9_count 126 = .ok (.invokevirtual 179, 3) := by decide +kernel
theorem dX9_count_129 : decode cX9_count 129 = .ok (.i2l, 1) := by decide +kernel
theorem dX9_count_130 : decode cX9_count 130 = .ok (.lreturn, 1) := by decide +kernel
theorem dX9_count_131 : decode cX9_count 131 = .ok (.aload_n 0, 1) := by decide +kernel
theorem dX9_count_132 : decode cX9_count 132 = .ok (.iconst 4, 1) := by decide +kernel
theorem dX9_count_133 : decode cX9_count 133 = .ok (.invokevirtual 179, 3) := by decide +kernel
theorem dX9_count_136 : decode cX9_count 136 = .ok (.i2l, 1) := by decide +kernel
theorem dX9_count_137 : decode cX9_count 137 = .ok (.lreturn, 1) := by decide +kernel
theorem dX9_count_138 : decode cX9_count 138 = .ok (.aload_n 0, 1) := by decide +kernel
theorem dX9_count_139 : decode cX9_count 139 = .ok (.iload_n 1, 1) := by decide +kernel
theorem dX9_count_140 : decode cX9_count 140 = .ok (.iconst 2, 1) := by decide +kernel
theorem dX9_count_141 : decode cX9_count 141 = .ok (.isub, 1) := by decide +kernel
theorem dX9_count_142 : decode cX9_count 142 = .ok (.invokevirtual 157, 3) := by decide +kernel
theorem dX9_count_145 : decode cX9_count 145 = .ok (.i2l, 1) := by decide +kernel
theorem dX9_count_146 : decode cX9_count 146 = .ok (.lreturn, 1) := by decide +kernel
theorem dX9_count_147 : decode cX9_count 147 = .ok (.aload_n 0, 1) := by decide +kernel
theorem dX9_count_148 : decode cX9_count 148 = .ok (.getfield 99, 3) := by decide +kernel
theorem dX9_count_151 : decode cX9_count 151 = .ok (.i2l, 1) := by decide +kernel
theorem dX9_count_152 : decode cX9_count 152 = .ok (.lreturn, 1) := by decide +kernel
theorem dX9_count_153 : decode cX9_count 153 = .ok (.aload_n 0, 1) := by decide +kernel
theorem dX9_count_154 : decode cX9_count 154 = .ok (.getfield 102, 3) := by decide +kernel
theorem dX9_count_157 : decode cX9_count 157 = .ok (.i2l, 1) := by decide +kernel
theorem dX9_count_158 : decode cX9_count 158 = .ok (.lreturn, 1) := by decide +kernel
theorem dX9_count_159 : decode cX9_count 159 = .ok (.aload_n 0, 1) := by decide +kernel
theorem dX9_count_160 : decode cX9_count 160 = .ok (.getfield 105, 3) := by decide +kernel
theorem dX9_count_163 : decode cX9_count 163 = .ok (.i2l, 1) := by decide +kernel
theorem dX9_count_164 : decode cX9_count 164 = .ok (.lreturn, 1) := by decide +kernel
theorem dX9_count_165 : decode cX9_count 165 = .ok (.aload_n 0, 1) := by decide +kernel
theorem dX9_count_166 : decode cX9_count 166 = .ok (.getfield 108, 3) := by decide +kernel
theorem dX9_count_169 : decode cX9_count 169 = .ok (.lreturn, 1) := by decide +kernel
theorem dX9_count_170 : decode cX9_count 170 = .ok (.aload_n 0, 1) := by decide +kernel
theorem dX9_count_171 : decode cX9_count 171 = .ok (.getfield 112, 3) := by decide +kernel
theorem dX9_count_174 : decode cX9_count 174 = .ok (.i2l, 1) := by decide +kernel
theorem dX9_count_175 : decode cX9_count 175 = .ok (.lreturn, 1) := by decide +kernel
theorem dX9_count_176 : decode cX9_count 176 = .ok (.aload_n 0, 1) := by decide +kernel
theorem dX9_count_177 : decode cX9_count 177 = .ok (.getfield 115, 3) := by decide +kernel
theorem dX9_count_180 : decode cX9_count 180 = .ok (.i2l, 1) := by decide +kernel
theorem dX9_count_181 : decode cX9_count 181 = .ok (.lreturn, 1) := by decide +kernel
theorem dX9_count_182 : decode cX9_count 182 = .ok (.aload_n 0, 1) := by decide +kernel
theorem dX9_count_183 : decode cX9_count 183 = .ok (.getfield 96, 3) := by decide +kernel
theorem dX9_count_186 : decode cX9_count 186 = .ok (.i2l, 1) := by decide +kernel
theorem dX9_count_187 : decode cX9_count 187 = .ok (.lreturn, 1) := by decide +kernel
theorem dX9_count_188 : decode cX9_count 188 = .ok (.ldc2_w 182, 3) := by decide +kernel
theorem dX9_count_191 : decode cX9_count 191 = .ok (.lreturn, 1) := by decide +kernel
theorem dX9_slot_0 : decode cX9_slot 0 = .ok (.aload_n 0, 1) := by decide +kernel
theorem dX9_slot_1 : decode cX9_slot 1 = .ok (.iconst 0, 1) := by decide +kernel
theorem dX9_slot_2 : decode cX9_slot 2 = .ok (.putfield 83, 3) := by decide +kernel
theorem dX9_slot_5 : decode cX9_slot 5 = .ok (.iload_n 1, 1) := by decide +kernel
theorem dX9_slot_6 : decode cX9_slot 6 = .ok (.ifCond .lt 9, 3) := by decide +kernel
theorem dX9_slot_9 : decode cX9_slot 9 = .ok (.iload_n 1, 1) := by decide +kernel
theorem dX9_slot_10 : decode cX9_slot 10 = .ok (.bipush 12, 2) := by decide +kernel
theorem dX9_slot_12 : decode cX9_slot 12 = .ok (.if_icmp .lt 5, 3) := by decide +kernel
theorem dX9_slot_15 : decode cX9_slot 15 = .ok (.iconst (-1), 1) := by decide +kernel
theorem dX9_slot_16 : decode cX9_slot 16 = .ok (.ireturn, 1) := by decide +kernel
theorem dX9_slot_17 : decode cX9_slot 17 = .ok (.iload_n 2, 1) := by decide +kernel
theorem dX9_slot_18 : decode cX9_slot 18 = .ok (.tableswitch 148 0 4 #[34, 41, 65, 86, 117], 34) := by decide +kernel
theorem dX9_slot_52 : decode cX9_slot 52 = .ok (.aload_n 0, 1) := by decide +kernel
theorem dX9_slot_53 : decode cX9_slot 53 = .ok (.getfield 22, 3) := by decide +kernel
theorem dX9_slot_56 : decode cX9_slot 56 = .ok (.iload_n 1, 1) := by decide +kernel
theorem dX9_slot_57 : decode cX9_slot 57 = .ok (.iaload, 1) := by decide +kernel
theorem dX9_slot_58 : decode cX9_slot 58 = .ok (.ireturn, 1) := by decide +kernel
theorem dX9_slot_59 : decode cX9_slot 59 = .ok (.aload_n 0, 1) := by decide +kernel
theorem dX9_slot_60 : decode cX9_slot 60 = .ok (.getfield 22, 3) := by decide +kernel
theorem dX9_slot_63 : decode cX9_slot 63 = .ok (.iload_n 1, 1) := by decide +kernel
theorem dX9_slot_64 : decode cX9_slot 64 = .ok (.iaload, 1) := by decide +kernel
theorem dX9_slot_65 : decode cX9_slot 65 = .ok (.ifCond .le 16, 3) := by decide +kernel
theorem dX9_slot_68 : decode cX9_slot 68 = .ok (.aload_n 0, 1) := by decide +kernel
theorem dX9_slot_69 : decode cX9_slot 69 = .ok (.getfield 25, 3) := by decide +kernel
theorem dX9_slot_72 : decode cX9_slot 72 = .ok (.iload_n 1, 1) := by decide +kernel
theorem dX9_slot_73 : decode cX9_slot 73 = .ok (.baload, 1) := by decide +kernel
theorem dX9_slot_74 : decode cX9_slot 74 = .ok (.ifCond .eq 7, 3) := by decide +kernel
theorem dX9_slot_77 : decode cX9_slot 77 = .ok (.iconst 1, 1) := by decide +kernel
theorem dX9_slot_78 : decode cX9_slot 78 = .ok (.goto 4, 3) := by decide +kernel
theorem dX9_slot_81 : decode cX9_slot 81 = .ok (.iconst 0, 1) := by decide +kernel
theorem dX9_slot_82 : decode cX9_slot 82 = .ok (.ireturn, 1) := by decide +kernel
theorem dX9_slot_83 : decode cX9_slot 83 = .ok (.aload_n 0, 1) := by decide +kernel
theorem dX9_slot_84 : decode cX9_slot 84 = .ok (.getfield 22, 3) := by decide +kernel
theorem dX9_slot_87 : decode cX9_slot 87 = .ok (.iload_n 1, 1) := by decide +kernel
theorem dX9_slot_88 : decode cX9_slot 88 = .ok (.iaload, 1) := by decide +kernel
theorem dX9_slot_89 : decode cX9_slot 89 = .ok (.iconst 3, 1) := by decide +kernel
theorem dX9_slot_90 : decode cX9_slot 90 = .ok (.if_icmp .lt 12, 3) := by decide +kernel
theorem dX9_slot_93 : decode cX9_slot 93 = .ok (.aload_n 0, 1) := by decide +kernel
theorem dX9_slot_94 : decode cX9_slot 94 = .ok (.getfield 29, 3) := by decide +kernel
theorem dX9_slot_97 : decode cX9_slot 97 = .ok (.iload_n 1, 1) := by decide +kernel
theorem dX9_slot_98 : decode cX9_slot 98 = .ok (.iaload, 1) := by decide +kernel
theorem dX9_slot_99 : decode cX9_slot 99 = .ok (.goto 4, 3) := by decide +kernel
theorem dX9_slot_102 : decode cX9_slot 102 = .ok (.iconst (-1), 1) := by decide +kernel
theorem dX9_slot_103 : decode cX9_slot 103 = .ok (.ireturn, 1) := by decide +kernel
theorem dX9_slot_104 : decode cX9_slot 104 = .ok (.aload_n 0, 1) := by decide +kernel
theorem dX9_slot_105 : decode cX9_slot 105 = .ok (.getfield 22, 3) := by decide +kernel
theorem dX9_slot_108 : decode cX9_slot 108 = .ok (.iload_n 1, 1) := by decide +kernel
theorem dX9_slot_109 : decode cX9_slot 109 = .ok (.iaload, 1) := by decide +kernel
theorem dX9_slot_110 : decode cX9_slot 110 = .ok (.iconst 1, 1) := by decide +kernel
theorem dX9_slot_111 : decode cX9_slot 111 = .ok (.if_icmp .eq 13, 3) := by decide +kernel
theorem dX9_slot_114 : decode cX9_slot 114 = .ok (.aload_n 0, 1) := by decide +kernel
theorem dX9_slot_115 : decode cX9_slot 115 = .ok (.getfield 22, 3) := by decide +kernel
theorem dX9_slot_118 : decode cX9_slot 118 = .ok (.iload_n 1, 1) := by decide +kernel
theorem dX9_slot_119 : decode cX9_slot 119 = .ok (.iaload, 1) := by decide +kernel
theorem dX9_slot_120 : decode cX9_slot 120 = .ok (.iconst 3, 1) := by decide +kernel
theorem dX9_slot_121 : decode cX9_slot 121 = .ok (.if_icmp .ne 12, 3) := by decide +kernel
theorem dX9_slot_124 : decode cX9_slot 124 = .ok (.aload_n 0, 1) := by decide +kernel
theorem dX9_slot_125 : decode cX9_slot 125 = .ok (.getfield 32, 3) := by decide +kernel
theorem dX9_slot_128 : decode cX9_slot 128 = .ok (.iload_n 1, 1) := by decide +kernel
theorem dX9_slot_129 : decode cX9_slot 129 = .ok (.iaload, 1) := by decide +kernel
theorem dX9_slot_130 : decode cX9_slot 130 = .ok (.goto 4, 3) := by decide +kernel
theorem dX9_slot_133 : decode cX9_slot 133 = .ok (.iconst 0, 1) := by decide +kernel
theorem dX9_slot_134 : decode cX9_slot 134 = .ok (.ireturn, 1) := by decide +kernel
theorem dX9_slot_135 : decode cX9_slot 135 = .ok (.aload_n 0, 1) := by decide +kernel
theorem dX9_slot_136 : decode cX9_slot 136 = .ok (.getfield 22, 3) := by decide +kernel
theorem dX9_slot_139 : decode cX9_slot 139 = .ok (.iload_n 1, 1) := by decide +kernel
theorem dX9_slot_140 : decode cX9_slot 140 = .ok (.iaload, 1) := by decide +kernel
theorem dX9_slot_141 : decode cX9_slot 141 = .ok (.iconst 2, 1) := by decide +kernel
theorem dX9_slot_142 : decode cX9_slot 142 = .ok (.if_icmp .eq 13, 3) := by decide +kernel
theorem dX9_slot_145 : decode cX9_slot 145 = .ok (.aload_n 0, 1) := by decide +kernel
theorem dX9_slot_146 : decode cX9_slot 146 = .ok (.getfield 22, 3) := by decide +kernel
theorem dX9_slot_149 : decode cX9_slot 149 = .ok (.iload_n 1, 1) := by decide +kernel
theorem dX9_slot_150 : decode cX9_slot 150 = .ok (.iaload, 1) := by decide +kernel
theorem dX9_slot_151 : decode cX9_slot 151 = .ok (.iconst 4, 1) := by decide +kernel
theorem dX9_slot_152 : decode cX9_slot 152 = .ok (.if_icmp .ne 12, 3) := by decide +kernel
theorem dX9_slot_155 : decode cX9_slot 155 = .ok (.aload_n 0, 1) := by decide +kernel
theorem dX9_slot_156 : decode cX9_slot 156 = .ok (.getfield 35, 3) := by decide +kernel
theorem dX9_slot_159 : decode cX9_slot 159 = .ok (.iload_n 1, 1) := by decide +kernel
theorem dX9_slot_160 : decode cX9_slot 160 = .ok (.iaload, 1) := by decide +kernel
theorem dX9_slot_161 : decode cX9_slot 161 = .ok (.goto 4, 3) := by decide +kernel
theorem dX9_slot_164 : decode cX9_slot 164 = .ok (.iconst 0, 1) := by decide +kernel
theorem dX9_slot_165 : decode cX9_slot 165 = .ok (.ireturn, 1) := by decide +kernel
theorem dX9_slot_166 : decode cX9_slot 166 = .ok (.iconst (-1), 1) := by decide +kernel
theorem dX9_slot_167 : decode cX9_slot 167 = .ok (.ireturn, 1) := by decide +kernel
set_option maxRecDepth 20000 in
theorem ggX9_told_X9_linesOf : GoodIn wsX9_told wsX9_linesOf := goodIn_r _ [12, 13, 14, 15, 16, 17, 18, 19, 20, 21, 22, 23, 24, 25, 26, 27, 28, 29, 30, 31, 32, 33, 34, 35, 36, 37, 38, 39, 40, 41, 42, 43, 44, 45, 46, 47, 48, 49, 50, 51, 52, 53] (by decide +kernel) (by decide +kernel)
set_option maxRecDepth 20000 in
theorem gX9_told_X9_linesOf : GoodIn wsX9_told (wsV RX9 184 RX9 yX9_linesOf wsX9_linesOf) := goodIn_app (goodIn_of _ (by decide +kernel)) ggX9_told_X9_linesOf
theorem dX9_told_0 : decode cX9_told 0 = .ok (.aload_n 0, 1) := by decide +kernel
theorem dX9_told_1 : decode cX9_told 1 = .ok (.iconst 0, 1) := by decide +kernel
theorem dX9_told_2 : decode cX9_told 2 = .ok (.putfield 83, 3) := by decide +kernel
theorem dX9_told_5 : decode cX9_told 5 = .ok (.iload_n 1, 1) := by decide +kernel
theorem dX9_told_6 : decode cX9_told 6 = .ok (.ifCond .lt 20, 3) := by decide +kernel
theorem dX9_told_9 : decode cX9_told 9 = .ok (.iload_n 1, 1) := by decide +kernel
theorem dX9_told_10 : decode cX9_told 10 = .ok (.aload_n 0, 1) := by decide +kernel
theorem dX9_told_11 : decode cX9_told 11 = .ok (.getfield 90, 3) := by decide +kernel
theorem dX9_told_14 : decode cX9_told 14 = .ok (.if_icmp .ge 12, 3) := by decide +kernel
theorem dX9_told_17 : decode cX9_told 17 = .ok (.iload_n 2, 1) := by decide +kernel
theorem dX9_told_18 : decode cX9_told 18 = .ok (.ifCond .lt 8, 3) := by decide +kernel
theorem dX9_told_21 : decode cX9_told 21 = .ok (.iload_n 2, 1) := by decide +kernel
theorem dX9_told_22 : decode cX9_told 22 = .ok (.iconst 5, 1) := by decide +kernel
theorem dX9_told_23 : decode cX9_told 23 = .ok (.if_icmp .le 10, 3) := by decide +kernel
theorem dX9_told_26 : decode cX9_told 26 = .ok (.aload_n 0, 1) := by decide +kernel
theorem dX9_told_27 : decode cX9_told 27 = .ok (.iconst 1, 1) := by decide +kernel
theorem dX9_told_28 : decode cX9_told 28 = .ok (.putfield 83, 3) := by decide +kernel
theorem dX9_told_31 : decode cX9_told 31 = .ok (.iconst 0, 1) := by decide +kernel
theorem dX9_told_32 : decode cX9_told 32 = .ok (.ireturn, 1) := by decide +kernel
theorem dX9_told_33 : decode cX9_told 33 = .ok (.iload_n 2, 1) := by decide +kernel
theorem dX9_told_34 : decode cX9_told 34 = .ok (.tableswitch 68 0 4 #[34, 41, 48, 54, 61], 34) := by decide +kernel
theorem dX9_told_68 : decode cX9_told 68 = .ok (.aload_n 0, 1) := by decide +kernel
theorem dX9_told_69 : decode cX9_told 69 = .ok (.getfield 53, 3) := by decide +kernel
theorem dX9_told_72 : decode cX9_told 72 = .ok (.iload_n 1, 1) := by decide +kernel
theorem dX9_told_73 : decode cX9_told 73 = .ok (.iaload, 1) := by decide +kernel
theorem dX9_told_74 : decode cX9_told 74 = .ok (.ireturn, 1) := by decide +kernel
theorem dX9_told_75 : decode cX9_told 75 = .ok (.aload_n 0, 1) := by decide +kernel
theorem dX9_told_76 : decode cX9_told 76 = .ok (.getfield 56, 3) := by decide +kernel
theorem dX9_told_79 : decode cX9_told 79 = .ok (.iload_n 1, 1) := by decide +kernel
theorem dX9_told_80 : decode cX9_told 80 = .ok (.iaload, 1) := by decide +kernel
theorem dX9_told_81 : decode cX9_told 81 = .ok (.ireturn, 1) := by decide +kernel
theorem dX9_told_82 : decode cX9_told 82 = .ok (.aload_n 0, 1) := by decide +kernel
theorem dX9_told_83 : decode cX9_told 83 = .ok (.iload_n 1, 1) := by decide +kernel
theorem dX9_told_84 : decode cX9_told 84 = .ok (.invokevirtual 184, 3) := by decide +kernel
theorem dX9_told_87 : decode cX9_told 87 = .ok (.ireturn, 1) := by decide +kernel
theorem dX9_told_88 : decode cX9_told 88 = .ok (.aload_n 0, 1) := by decide +kernel
theorem dX9_told_89 : decode cX9_told 89 = .ok (.getfield 59, 3) := by decide +kernel
theorem dX9_told_92 : decode cX9_told 92 = .ok (.iload_n 1, 1) := by decide +kernel
theorem dX9_told_93 : decode cX9_told 93 = .ok (.iaload, 1) := by decide +kernel
theorem dX9_told_94 : decode cX9_told 94 = .ok (.ireturn, 1) := by decide +kernel
theorem dX9_told_95 : decode cX9_told 95 = .ok (.aload_n 0, 1) := by decide +kernel
theorem dX9_told_96 : decode cX9_told 96 = .ok (.getfield 38, 3) := by decide +kernel
theorem dX9_told_99 : decode cX9_told 99 = .ok (.iload_n 1, 1) := by decide +kernel
theorem dX9_told_100 : decode cX9_told 100 = .ok (.iaload, 1) := by decide +kernel
theorem dX9_told_101 : decode cX9_told 101 = .ok (.ireturn, 1) := by decide +kernel
theorem dX9_told_102 : decode cX9_told 102 = .ok (.aload_n 0, 1) := by decide +kernel
theorem dX9_told_103 : decode cX9_told 103 = .ok (.getfield 41, 3) := by decide +kernel
theorem dX9_told_106 : decode cX9_told 106 = .ok (.iload_n 1, 1) := by decide +kernel
theorem dX9_told_107 : decode cX9_told 107 = .ok (.iaload, 1) := by decide +kernel
theorem dX9_told_108 : decode cX9_told 108 = .ok (.ireturn, 1) := by decide +kernel
theorem dX9_event_0 : decode cX9_event 0 = .ok (.aload_n 0, 1) := by decide +kernel
theorem dX9_event_1 : decode cX9_event 1 = .ok (.iconst 0, 1) := by decide +kernel
theorem dX9_event_2 : decode cX9_event 2 = .ok (.putfield 83, 3) := by decide +kernel
theorem dX9_event_5 : decode cX9_event 5 = .ok (.iload_n 1, 1) := by decide +kernel
theorem dX9_event_6 : decode cX9_event 6 = .ok (.ifCond .lt 27, 3) := by decide +kernel
theorem dX9_event_9 : decode cX9_event 9 = .ok (.iload_n 1, 1) := by decide +kernel
theorem dX9_event_10 : decode cX9_event 10 = .ok (.sipush 150, 3) := by decide +kernel
theorem dX9_event_13 : decode cX9_event 13 = .ok (.if_icmp .ge 20, 3) := by decide +kernel
theorem dX9_event_16 : decode cX9_event 16 = .ok (.iload_n 1, 1) := by decide +kernel
theorem dX9_event_17 : decode cX9_event 17 = .ok (.aload_n 0, 1) := by decide +kernel
theorem dX9_event_18 : decode cX9_event 18 = .ok (.getfield 96, 3) := by decide +kernel
theorem dX9_event_21 : decode cX9_event 21 = .ok (.if_icmp .ge 12, 3) := by decide +kernel
theorem dX9_event_24 : decode cX9_event 24 = .ok (.iload_n 2, 1) := by decide +kernel
theorem dX9_event_25 : decode cX9_event 25 = .ok (.ifCond .lt 8, 3) := by decide +kernel
theorem dX9_event_28 : decode cX9_event 28 = .ok (.iload_n 2, 1) := by decide +kernel
theorem dX9_event_29 : decode cX9_event 29 = .ok (.iconst 3, 1) := by decide +kernel
theorem dX9_event_30 : decode cX9_event 30 = .ok (.if_icmp .le 5, 3) := by decide +kernel
theorem dX9_event_33 : decode cX9_event 33 = .ok (.iconst (-1), 1) := by decide +kernel
theorem dX9_event_34 : decode cX9_event 34 = .ok (.ireturn, 1) := by decide +kernel
theorem dX9_event_35 : decode cX9_event 35 = .ok (.aload_n 0, 1) := by decide +kernel
theorem dX9_event_36 : decode cX9_event 36 = .ok (.getfield 71, 3) := by decide +kernel
theorem dX9_event_39 : decode cX9_event 39 = .ok (.iconst 4, 1) := by decide +kernel
theorem dX9_event_40 : decode cX9_event 40 = .ok (.aload_n 0, 1) := by decide +kernel
theorem dX9_event_41 : decode cX9_event 41 = .ok (.getfield 96, 3) := by decide +kernel
theorem dX9_event_44 : decode cX9_event 44 = .ok (.iconst 1, 1) := by decide +kernel
theorem dX9_event_45 : decode cX9_event 45 = .ok (.isub, 1) := by decide +kernel
theorem dX9_event_46 : decode cX9_event 46 = .ok (.iload_n 1, 1) := by decide +kernel
theorem dX9_event_47 : decode cX9_event 47 = .ok (.isub, 1) := by decide +kernel
theorem dX9_event_48 : decode cX9_event 48 = .ok (.sipush 150, 3) := by decide +kernel
theorem dX9_event_51 : decode cX9_event 51 = .ok (.irem, 1) := by decide +kernel
theorem dX9_event_52 : decode cX9_event 52 = .ok (.imul, 1) := by decide +kernel
theorem dX9_event_53 : decode cX9_event 53 = .ok (.iload_n 2, 1) := by decide +kernel
theorem dX9_event_54 : decode cX9_event 54 = .ok (.iadd, 1) := by decide +kernel
theorem dX9_event_55 : decode cX9_event 55 = .ok (.iaload, 1) := by decide +kernel
theorem dX9_event_56 : decode cX9_event 56 = .ok (.ireturn, 1) := by decide +kernel
theorem dX9_gcd_0 : decode cX9_gcd 0 = .ok (.lload_n 0, 1) := by decide +kernel
theorem dX9_gcd_1 : decode cX9_gcd 1 = .ok (.lstore 4, 2) := by decide +kernel
theorem dX9_gcd_3 : decode cX9_gcd 3 = .ok (.lload_n 2, 1) := by decide +kernel
theorem dX9_gcd_4 : decode cX9_gcd 4 = .ok (.lstore 6, 2) := by decide +kernel
theorem dX9_gcd_6 : decode cX9_gcd 6 = .ok (.lload 6, 2) := by decide +kernel
theorem dX9_gcd_8 : decode cX9_gcd 8 = .ok (.lconst 0, 1) := by decide +kernel
theorem dX9_gcd_9 : decode cX9_gcd 9 = .ok (.lcmp, 1) := by decide +kernel
theorem dX9_gcd_10 : decode cX9_gcd 10 = .ok (.ifCond .eq 21, 3) := by decide +kernel
theorem dX9_gcd_13 : decode cX9_gcd 13 = .ok (.lload 4, 2) := by decide +kernel
theorem dX9_gcd_15 : decode cX9_gcd 15 = .ok (.lload 6, 2) := by decide +kernel
theorem dX9_gcd_17 : decode cX9_gcd 17 = .ok (.lrem, 1) := by decide +kernel
theorem dX9_gcd_18 : decode cX9_gcd 18 = .ok (.lstore 8, 2) := by decide +kernel
theorem dX9_gcd_20 : decode cX9_gcd 20 = .ok (.lload 6, 2) := by decide +kernel
theorem dX9_gcd_22 : decode cX9_gcd 22 = .ok (.lstore 4, 2) := by decide +kernel
theorem dX9_gcd_24 : decode cX9_gcd 24 = .ok (.lload 8, 2) := by decide +kernel
theorem dX9_gcd_26 : decode cX9_gcd 26 = .ok (.lstore 6, 2) := by decide +kernel
theorem dX9_gcd_28 : decode cX9_gcd 28 = .ok (.goto (-22), 3) := by decide +kernel
theorem dX9_gcd_31 : decode cX9_gcd 31 = .ok (.lload 4, 2) := by decide +kernel
theorem dX9_gcd_33 : decode cX9_gcd 33 = .ok (.lreturn, 1) := by decide +kernel
theorem dX9_rate_0 : decode cX9_rate 0 = .ok (.iload_n 1, 1) := by decide +kernel
theorem dX9_rate_1 : decode cX9_rate 1 = .ok (.iload_n 2, 1) := by decide +kernel
theorem dX9_rate_2 : decode cX9_rate 2 = .ok (.if_icmp .ge 7, 3) := by decide +kernel
theorem dX9_rate_5 : decode cX9_rate 5 = .ok (.iload_n 1, 1) := by decide +kernel
theorem dX9_rate_6 : decode cX9_rate 6 = .ok (.goto 4, 3) := by decide +kernel
theorem dX9_rate_9 : decode cX9_rate 9 = .ok (.iload_n 2, 1) := by decide +kernel
theorem dX9_rate_10 : decode cX9_rate 10 = .ok (.istore_n 3, 1) := by decide +kernel
theorem dX9_rate_11 : decode cX9_rate 11 = .ok (.iload_n 3, 1) := by decide +kernel
theorem dX9_rate_12 : decode cX9_rate 12 = .ok (.i2l, 1) := by decide +kernel
theorem dX9_rate_13 : decode cX9_rate 13 = .ok (.aload_n 0, 1) := by decide +kernel
theorem dX9_rate_14 : decode cX9_rate 14 = .ok (.getfield 19, 3) := by decide +kernel
theorem dX9_rate_17 : decode cX9_rate 17 = .ok (.iload_n 3, 1) := by decide +kernel
theorem dX9_rate_18 : decode cX9_rate 18 = .ok (.iaload, 1) := by decide +kernel
theorem dX9_rate_19 : decode cX9_rate 19 = .ok (.bipush 9, 2) := by decide +kernel
theorem dX9_rate_21 : decode cX9_rate 21 = .ok (.if_icmp .ge 12, 3) := by decide +kernel
theorem dX9_rate_24 : decode cX9_rate 24 = .ok (.aload_n 0, 1) := by decide +kernel
theorem dX9_rate_25 : decode cX9_rate 25 = .ok (.getfield 19, 3) := by decide +kernel
theorem dX9_rate_28 : decode cX9_rate 28 = .ok (.iload_n 3, 1) := by decide +kernel
theorem dX9_rate_29 : decode cX9_rate 29 = .ok (.iaload, 1) := by decide +kernel
theorem dX9_rate_30 : decode cX9_rate 30 = .ok (.goto 5, 3) := by decide +kernel
theorem dX9_rate_33 : decode cX9_rate 33 = .ok (.bipush 9, 2) := by decide +kernel
theorem dX9_rate_35 : decode cX9_rate 35 = .ok (.i2l, 1) := by decide +kernel
theorem dX9_rate_36 : decode cX9_rate 36 = .ok (.lmul, 1) := by decide +kernel
theorem dX9_rate_37 : decode cX9_rate 37 = .ok (.lreturn, 1) := by decide +kernel
set_option maxRecDepth 20000 in
theorem ggX9_reckon_X9_rate : GoodIn wsX9_reckon wsX9_rate := goodIn_r _ [7, 8, 12, 13, 14, 15, 16, 17, 18, 19, 20, 21, 22, 23, 24, 25, 26, 27, 28, 29, 30, 31, 32, 33, 34, 35, 36, 37, 38, 39, 40, 41, 42, 43, 44, 45, 46, 47, 48, 49, 50] (by decide +kernel) (by decide +kernel)
set_option maxRecDepth 20000 in
theorem gX9_reckon_X9_rate : GoodIn wsX9_reckon (wsV RX9 193 RX9 yX9_rate wsX9_rate) := goodIn_app (goodIn_of _ (by decide +kernel)) ggX9_reckon_X9_rate
set_option maxRecDepth 20000 in
theorem ggX9_reckon_X9_gcd : GoodIn wsX9_reckon wsX9_gcd := goodIn_r _ [11] (by decide +kernel) (by decide +kernel)
set_option maxRecDepth 20000 in
theorem gX9_reckon_X9_gcd : GoodIn wsX9_reckon (va_wsS RX9 197 yX9_gcd wsX9_gcd) := goodIn_app (goodIn_of _ (by decide +kernel)) ggX9_reckon_X9_gcd
theorem dX9_reckon_0 : decode cX9_reckon 0 = .ok (.aload_n 0, 1) := by decide +kernel
theorem dX9_reckon_1 : decode cX9_reckon 1 = .ok (.lconst 0, 1) := by decide +kernel
theorem dX9_reckon_2 : decode cX9_reckon 2 = .ok (.putfield 187, 3) := by decide +kernel
theorem dX9_reckon_5 : decode cX9_reckon 5 = .ok (.aload_n 0, 1) := by decide +kernel
theorem dX9_reckon_6 : decode cX9_reckon 6 = .ok (.lconst 0, 1) := by decide +kernel
theorem dX9_reckon_7 : decode cX9_reckon 7 = .ok (.putfield 190, 3) := by decide +kernel
theorem dX9_reckon_10 : decode cX9_reckon 10 = .ok (.iconst 0, 1) := by decide +kernel
theorem dX9_reckon_11 : decode cX9_reckon 11 = .ok (.istore 4, 2) := by decide +kernel
theorem dX9_reckon_13 : decode cX9_reckon 13 = .ok (.iload 4, 2) := by decide +kernel
theorem dX9_reckon_15 : decode cX9_reckon 15 = .ok (.iload_n 1, 1) := by decide +kernel
theorem dX9_reckon_16 : decode cX9_reckon 16 = .ok (.if_icmp .gt 118, 3) := by decide +kernel
theorem dX9_reckon_19 : decode cX9_reckon 19 = .ok (.lconst 1, 1) := by decide +kernel
theorem dX9_reckon_20 : decode cX9_reckon 20 = .ok (.lstore 5, 2) := by decide +kernel
theorem dX9_reckon_22 : decode cX9_reckon 22 = .ok (.iconst 0, 1) := by decide +kernel
theorem dX9_reckon_23 : decode cX9_reckon 23 = .ok (.istore 7, 2) := by decide +kernel
theorem dX9_reckon_25 : decode cX9_reckon 25 = .ok (.iload 7, 2) := by decide +kernel
theorem dX9_reckon_27 : decode cX9_reckon 27 = .ok (.iload 4, 2) := by decide +kernel
theorem dX9_reckon_29 : decode cX9_reckon 29 = .ok (.if_icmp .ge 22, 3) := by decide +kernel
theorem dX9_reckon_32 : decode cX9_reckon 32 = .ok (.lload 5, 2) := by decide +kernel
theorem dX9_reckon_34 : decode cX9_reckon 34 = .ok (.iload_n 1, 1) := by decide +kernel
theorem dX9_reckon_35 : decode cX9_reckon 35 = .ok (.iload 7, 2) := by decide +kernel
theorem dX9_reckon_37 : decode cX9_reckon 37 = .ok (.isub, 1) := by decide +kernel
theorem dX9_reckon_38 : decode cX9_reckon 38 = .ok (.i2l, 1) := by decide +kernel
theorem dX9_reckon_39 : decode cX9_reckon 39 = .ok (.iload_n 2, 1) := by decide +kernel
theorem dX9_reckon_40 : decode cX9_reckon 40 = .ok (.i2l, 1) := by decide +kernel
theorem dX9_reckon_41 : decode cX9_reckon 41 = .ok (.lmul, 1) := by decide +kernel
theorem dX9_reckon_42 : decode cX9_reckon 42 = .ok (.lmul, 1) := by decide +kernel
theorem dX9_reckon_43 : decode cX9_reckon 43 = .ok (.lstore 5, 2) := by decide +kernel
theorem dX9_reckon_45 : decode cX9_reckon 45 = .ok (.iinc 7 1, 3) := by decide +kernel
theorem dX9_reckon_48 : decode cX9_reckon 48 = .ok (.goto (-23), 3) := by decide +kernel
theorem dX9_reckon_51 : decode cX9_reckon 51 = .ok (.iload 4, 2) := by decide +kernel
theorem dX9_reckon_53 : decode cX9_reckon 53 = .ok (.iconst 1, 1) := by decide +kernel
theorem dX9_reckon_54 : decode cX9_reckon 54 = .ok (.iadd, 1) := by decide +kernel
theorem dX9_reckon_55 : decode cX9_reckon 55 = .ok (.istore 7, 2) := by decide +kernel
theorem dX9_reckon_57 : decode cX9_reckon 57 = .ok (.iload 7, 2) := by decide +kernel
theorem dX9_reckon_59 : decode cX9_reckon 59 = .ok (.iload_n 1, 1) := by decide +kernel
theorem dX9_reckon_60 : decode cX9_reckon 60 = .ok (.if_icmp .gt 21, 3) := by decide +kernel
theorem dX9_reckon_63 : decode cX9_reckon 63 = .ok (.lload 5, 2) := by decide +kernel
theorem dX9_reckon_65 : decode cX9_reckon 65 = .ok (.aload_n 0, 1) := by decide +kernel
theorem dX9_reckon_66 : decode cX9_reckon 66 = .ok (.iload 7, 2) := by decide +kernel
theorem dX9_reckon_68 : decode cX9_reckon 68 = .ok (.iload_n 3, 1) := by decide +kernel
theorem dX9_reckon_69 : decode cX9_reckon 69 = .ok (.invokevirtual 193, 3) := by decide +kernel
theorem dX9_reckon_72 : decode cX9_reckon 72 = .ok (.lmul, 1) := by decide +kernel
theorem dX9_reckon_73 : decode cX9_reckon 73 = .ok (.lstore 5, 2) := by decide +kernel
theorem dX9_reckon_75 : decode cX9_reckon 75 = .ok (.iinc 7 1, 3) := by decide +kernel
theorem dX9_reckon_78 : decode cX9_reckon 78 = .ok (.goto (-21), 3) := by decide +kernel
theorem dX9_reckon_81 : decode cX9_reckon 81 = .ok (.iload 4, 2) := by decide +kernel
theorem dX9_reckon_83 : decode cX9_reckon 83 = .ok (.iload_n 3, 1) := by decide +kernel
theorem dX9_reckon_84 : decode cX9_reckon 84 = .ok (.if_icmp .le 20, 3) := by decide +kernel
theorem dX9_reckon_87 : decode cX9_reckon 87 = .ok (.aload_n 0, 1) := by decide +kernel
theorem dX9_reckon_88 : decode cX9_reckon 88 = .ok (.dup, 1) := by decide +kernel
theorem dX9_reckon_89 : decode cX9_reckon 89 = .ok (.getfield 187, 3) := by decide +kernel
theorem dX9_reckon_92 : decode cX9_reckon 92 = .ok (.lload 5, 2) := by decide +kernel
theorem dX9_reckon_94 : decode cX9_reckon 94 = .ok (.iload 4, 2) := by decide +kernel
theorem dX9_reckon_96 : decode cX9_reckon 96 = .ok (.iload_n 3, 1) := by decide +kernel
theorem dX9_reckon_97 : decode cX9_reckon 97 = .ok (.isub, 1) := by decide +kernel
theorem dX9_reckon_98 : decode cX9_reckon 98 = .ok (.i2l, 1) := by decide +kernel
theorem dX9_reckon_99 : decode cX9_reckon 99 = .ok (.lmul, 1) := by decide +kernel
theorem dX9_reckon_100 : decode cX9_reckon 100 = .ok (.ladd, 1) := by decide +kernel
theorem dX9_reckon_101 : decode cX9_reckon 101 = .ok (.putfield 187, 3) := by decide +kernel
theorem dX9_reckon_104 : decode cX9_reckon 104 = .ok (.iload 4, 2) := by decide +kernel
theorem dX9_reckon_106 : decode cX9_reckon 106 = .ok (.ifCond .le 22, 3) := by decide +kernel
theorem dX9_reckon_109 : decode cX9_reckon 109 = .ok (.aload_n 0, 1) := by decide +kernel
theorem dX9_reckon_110 : decode cX9_reckon 110 = .ok (.dup, 1) := by decide +kernel
theorem dX9_reckon_111 : decode cX9_reckon 111 = .ok (.getfield 190, 3) := by decide +kernel
theorem dX9_reckon_114 : decode cX9_reckon 114 = .ok (.lload 5, 2) := by decide +kernel
theorem dX9_reckon_116 : decode cX9_reckon 116 = .ok (.aload_n 0, 1) := by decide +kernel
theorem dX9_reckon_117 : decode cX9_reckon 117 = .ok (.iload 4, 2) := by decide +kernel
theorem dX9_reckon_119 : decode cX9_reckon 119 = .ok (.iload_n 3, 1) := by decide +kernel
theorem dX9_reckon_120 : decode cX9_reckon 120 = .ok (.invokevirtual 193, 3) := by decide +kernel
theorem dX9_reckon_123 : decode cX9_reckon 123 = .ok (.lmul, 1) := by decide +kernel
theorem dX9_reckon_124 : decode cX9_reckon 124 = .ok (.ladd, 1) := by decide +kernel
theorem dX9_reckon_125 : decode cX9_reckon 125 = .ok (.putfield 190, 3) := by decide +kernel
theorem dX9_reckon_128 : decode cX9_reckon 128 = .ok (.iinc 4 1, 3) := by decide +kernel
theorem dX9_reckon_131 : decode cX9_reckon 131 = .ok (.goto (-118), 3) := by decide +kernel
theorem dX9_reckon_134 : decode cX9_reckon 134 = .ok (.aload_n 0, 1) := by decide +kernel
theorem dX9_reckon_135 : decode cX9_reckon 135 = .ok (.getfield 187, 3) := by decide +kernel
theorem dX9_reckon_138 : decode cX9_reckon 138 = .ok (.aload_n 0, 1) := by decide +kernel
theorem dX9_reckon_139 : decode cX9_reckon 139 = .ok (.getfield 190, 3) := by decide +kernel
theorem dX9_reckon_142 : decode cX9_reckon 142 = .ok (.invokestatic 197, 3) := by decide +kernel
theorem dX9_reckon_145 : decode cX9_reckon 145 = .ok (.lstore 4, 2) := by decide +kernel
theorem dX9_reckon_147 : decode cX9_reckon 147 = .ok (.aload_n 0, 1) := by decide +kernel
theorem dX9_reckon_148 : decode cX9_reckon 148 = .ok (.dup, 1) := by decide +kernel
theorem dX9_reckon_149 : decode cX9_reckon 149 = .ok (.getfield 187, 3) := by decide +kernel
theorem dX9_reckon_152 : decode cX9_reckon 152 = .ok (.lload 4, 2) := by decide +kernel
theorem dX9_reckon_154 : decode cX9_reckon 154 = .ok (.ldiv, 1) := by decide +kernel
theorem dX9_reckon_155 : decode cX9_reckon 155 = .ok (.putfield 187, 3) := by decide +kernel
theorem dX9_reckon_158 : decode cX9_reckon 158 = .ok (.aload_n 0, 1) := by decide +kernel
theorem dX9_reckon_159 : decode cX9_reckon 159 = .ok (.dup, 1) := by decide +kernel
theorem dX9_reckon_160 : decode cX9_reckon 160 = .ok (.getfield 190, 3) := by decide +kernel
theorem dX9_reckon_163 : decode cX9_reckon 163 = .ok (.lload 4, 2) := by decide +kernel
theorem dX9_reckon_165 : decode cX9_reckon 165 = .ok (.ldiv, 1) := by decide +kernel
theorem dX9_reckon_166 : decode cX9_reckon 166 = .ok (.putfield 190, 3) := by decide +kernel
theorem dX9_reckon_169 : decode cX9_reckon 169 = .ok (.return_, 1) := by decide +kernel
theorem dX9_in_0 : decode cX9_in 0 = .ok (.iload_n 0, 1) := by decide +kernel
theorem dX9_in_1 : decode cX9_in 1 = .ok (.iload_n 1, 1) := by decide +kernel
theorem dX9_in_2 : decode cX9_in 2 = .ok (.if_icmp .lt 12, 3) := by decide +kernel
theorem dX9_in_5 : decode cX9_in 5 = .ok (.iload_n 0, 1) := by decide +kernel
theorem dX9_in_6 : decode cX9_in 6 = .ok (.iload_n 2, 1) := by decide +kernel
theorem dX9_in_7 : decode cX9_in 7 = .ok (.if_icmp .gt 7, 3) := by decide +kernel
theorem dX9_in_10 : decode cX9_in 10 = .ok (.iconst 1, 1) := by decide +kernel
theorem dX9_in_11 : decode cX9_in 11 = .ok (.goto 4, 3) := by decide +kernel
theorem dX9_in_14 : decode cX9_in 14 = .ok (.iconst 0, 1) := by decide +kernel
theorem dX9_in_15 : decode cX9_in 15 = .ok (.ireturn, 1) := by decide +kernel
set_option maxRecDepth 20000 in
theorem ggX9_mean_X9_in : GoodIn wsX9_mean wsX9_in := goodIn_r _ [8] (by decide +kernel) (by decide +kernel)
set_option maxRecDepth 20000 in
theorem gX9_mean_X9_in : GoodIn wsX9_mean (va_wsS RX9 201 yX9_in wsX9_in) := goodIn_app (goodIn_of _ (by decide +kernel)) ggX9_mean_X9_in
set_option maxRecDepth 20000 in
theorem ggX9_mean_X9_reckon : GoodIn wsX9_mean wsX9_reckon := goodIn_r _ [12, 3, 4, 13, 14, 15, 7, 16, 17, 18, 19, 20, 21, 22, 23, 24, 25, 26, 27, 28, 29, 30, 31, 32, 33, 34, 35, 36, 37, 38, 39, 40, 41, 42, 43, 44, 45, 46, 47, 48, 49, 50, 51, 52, 53, 54, 55, 56, 57, 58, 59] (by decide +kernel) (by decide +kernel)
set_option maxRecDepth 20000 in
theorem gX9_mean_X9_reckon : GoodIn wsX9_mean (wsV RX9 205 RX9 yX9_reckon wsX9_reckon) := goodIn_app (goodIn_of _ (by decide +kernel)) ggX9_mean_X9_reckon
theorem dX9_mean_0 : decode cX9_mean 0 = .ok (.aload_n 0, 1) := by decide +kernel
theorem dX9_mean_1 : decode cX9_mean 1 = .ok (.iconst 0, 1) := by decide +kernel
theorem dX9_mean_2 : decode cX9_mean 2 = .ok (.putfield 83, 3) := by decide +kernel
theorem dX9_mean_5 : decode cX9_mean 5 = .ok (.iload_n 1, 1) := by decide +kernel
theorem dX9_mean_6 : decode cX9_mean 6 = .ok (.iconst 1, 1) := by decide +kernel
theorem dX9_mean_7 : decode cX9_mean 7 = .ok (.bipush 8, 2) := by decide +kernel
theorem dX9_mean_9 : decode cX9_mean 9 = .ok (.invokestatic 201, 3) := by decide +kernel
theorem dX9_mean_12 : decode cX9_mean 12 = .ok (.ifCond .eq 33, 3) := by decide +kernel
theorem dX9_mean_15 : decode cX9_mean 15 = .ok (.iload_n 2, 1) := by decide +kernel
theorem dX9_mean_16 : decode cX9_mean 16 = .ok (.iconst 1, 1) := by decide +kernel
theorem dX9_mean_17 : decode cX9_mean 17 = .ok (.bipush 9, 2) := by decide +kernel
theorem dX9_mean_19 : decode cX9_mean 19 = .ok (.invokestatic 201, 3) := by decide +kernel
theorem dX9_mean_22 : decode cX9_mean 22 = .ok (.ifCond .eq 23, 3) := by decide +kernel
theorem dX9_mean_25 : decode cX9_mean 25 = .ok (.iload_n 3, 1) := by decide +kernel
theorem dX9_mean_26 : decode cX9_mean 26 = .ok (.iconst 1, 1) := by decide +kernel
theorem dX9_mean_27 : decode cX9_mean 27 = .ok (.bipush 8, 2) := by decide +kernel
theorem dX9_mean_29 : decode cX9_mean 29 = .ok (.invokestatic 201, 3) := by decide +kernel
theorem dX9_mean_32 : decode cX9_mean 32 = .ok (.ifCond .eq 13, 3) := by decide +kernel
theorem dX9_mean_35 : decode cX9_mean 35 = .ok (.iload 4, 2) := by decide +kernel
theorem dX9_mean_37 : decode cX9_mean 37 = .ok (.iconst 0, 1) := by decide +kernel
theorem dX9_mean_38 : decode cX9_mean 38 = .ok (.iconst 1, 1) := by decide +kernel
theorem dX9_mean_39 : decode cX9_mean 39 = .ok (.invokestatic 201, 3) := by decide +kernel
theorem dX9_mean_42 : decode cX9_mean 42 = .ok (.ifCond .ne 7, 3) := by decide +kernel
theorem dX9_mean_45 : decode cX9_mean 45 = .ok (.ldc2_w 182, 3) := by decide +kernel
theorem dX9_mean_48 : decode cX9_mean 48 = .ok (.lreturn, 1) := by decide +kernel
theorem dX9_mean_49 : decode cX9_mean 49 = .ok (.aload_n 0, 1) := by decide +kernel
theorem dX9_mean_50 : decode cX9_mean 50 = .ok (.iload_n 1, 1) := by decide +kernel
theorem dX9_mean_51 : decode cX9_mean 51 = .ok (.iload_n 2, 1) := by decide +kernel
theorem dX9_mean_52 : decode cX9_mean 52 = .ok (.iload_n 3, 1) := by decide +kernel
theorem dX9_mean_53 : decode cX9_mean 53 = .ok (.invokevirtual 205, 3) := by decide +kernel
theorem dX9_mean_56 : decode cX9_mean 56 = .ok (.iload 4, 2) := by decide +kernel
theorem dX9_mean_58 : decode cX9_mean 58 = .ok (.ifCond .ne 10, 3) := by decide +kernel
theorem dX9_mean_61 : decode cX9_mean 61 = .ok (.aload_n 0, 1) := by decide +kernel
theorem dX9_mean_62 : decode cX9_mean 62 = .ok (.getfield 187, 3) := by decide +kernel
theorem dX9_mean_65 : decode cX9_mean 65 = .ok (.goto 7, 3) := by decide +kernel
theorem dX9_mean_68 : decode cX9_mean 68 = .ok (.aload_n 0, 1) := by decide +kernel
theorem dX9_mean_69 : decode cX9_mean 69 = .ok (.getfield 190, 3) := by decide +kernel
theorem dX9_mean_72 : decode cX9_mean 72 = .ok (.lreturn, 1) := by decide +kernel
theorem dX9_isLess_0 : decode cX9_isLess 0 = .ok (.lload_n 0, 1) := by decide +kernel
theorem dX9_isLess_1 : decode cX9_isLess 1 = .ok (.lstore 8, 2) := by decide +kernel
theorem dX9_isLess_3 : decode cX9_isLess 3 = .ok (.lload_n 2, 1) := by decide +kernel
theorem dX9_isLess_4 : decode cX9_isLess 4 = .ok (.lstore 10, 2) := by decide +kernel
theorem dX9_isLess_6 : decode cX9_isLess 6 = .ok (.lload 4, 2) := by decide +kernel
theorem dX9_isLess_8 : decode cX9_isLess 8 = .ok (.lstore 12, 2) := by decide +kernel
theorem dX9_isLess_10 : decode cX9_isLess 10 = .ok (.lload 6, 2) := by decide +kernel
theorem dX9_isLess_12 : decode cX9_isLess 12 = .ok (.lstore 14, 2) := by decide +kernel
theorem dX9_isLess_14 : decode cX9_isLess 14 = .ok (.iconst 0, 1) := by decide +kernel
theorem dX9_isLess_15 : decode cX9_isLess 15 = .ok (.istore 16, 2) := by decide +kernel
theorem dX9_isLess_17 : decode cX9_isLess 17 = .ok (.lload 8, 2) := by decide +kernel
theorem dX9_isLess_19 : decode cX9_isLess 19 = .ok (.lload 10, 2) := by decide +kernel
theorem dX9_isLess_21 : decode cX9_isLess 21 = .ok (.ldiv, 1) := by decide +kernel
theorem dX9_isLess_22 : decode cX9_isLess 22 = .ok (.lstore 17, 2) := by decide +kernel
theorem dX9_isLess_24 : decode cX9_isLess 24 = .ok (.lload 12, 2) := by decide +kernel
theorem dX9_isLess_26 : decode cX9_isLess 26 = .ok (.lload 14, 2) := by decide +kernel
theorem dX9_isLess_28 : decode cX9_isLess 28 = .ok (.ldiv, 1) := by decide +kernel
theorem dX9_isLess_29 : decode cX9_isLess 29 = .ok (.lstore 19, 2) := by decide +kernel
theorem dX9_isLess_31 : decode cX9_isLess 31 = .ok (.lload 17, 2) := by decide +kernel
theorem dX9_isLess_33 : decode cX9_isLess 33 = .ok (.lload 19, 2) := by decide +kernel
theorem dX9_isLess_35 : decode cX9_isLess 35 = .ok (.lcmp, 1) := by decide +kernel
theorem dX9_isLess_36 : decode cX9_isLess 36 = .ok (.ifCond .eq 27, 3) := by decide +kernel
theorem dX9_isLess_39 : decode cX9_isLess 39 = .ok (.lload 17, 2) := by decide +kernel
theorem dX9_isLess_41 : decode cX9_isLess 41 = .ok (.lload 19, 2) := by decide +kernel
theorem dX9_isLess_43 : decode cX9_isLess 43 = .ok (.lcmp, 1) := by decide +kernel
theorem dX9_isLess_44 : decode cX9_isLess 44 = .ok (.ifCond .ge 7, 3) := by decide +kernel
theorem dX9_isLess_47 : decode cX9_isLess 47 = .ok (.iconst 1, 1) := by decide +kernel
theorem dX9_isLess_48 : decode cX9_isLess 48 = .ok (.goto 4, 3) := by decide +kernel
theorem dX9_isLess_51 : decode cX9_isLess 51 = .ok (.iconst 0, 1) := by decide +kernel
theorem dX9_isLess_52 : decode cX9_isLess 52 = .ok (.iload 16, 2) := by decide +kernel
theorem dX9_isLess_54 : decode cX9_isLess 54 = .ok (.if_icmp .eq 7, 3) := by decide +kernel
theorem dX9_isLess_57 : decode cX9_isLess 57 = .ok (.iconst 1, 1) := by decide +kernel
theorem dX9_isLess_58 : decode cX9_isLess 58 = .ok (.goto 4, 3) := by decide +kernel
theorem dX9_isLess_61 : decode cX9_isLess 61 = .ok (.iconst 0, 1) := by decide +kernel
theorem dX9_isLess_62 : decode cX9_isLess 62 = .ok (.ireturn, 1) := by decide +kernel
theorem dX9_isLess_63 : decode cX9_isLess 63 = .ok (.lload 8, 2) := by decide +kernel
theorem dX9_isLess_65 : decode cX9_isLess 65 = .ok (.lload 17, 2) := by decide +kernel
theorem dX9_isLess_67 : decode cX9_isLess 67 = .ok (.lload 10, 2) := by decide +kernel
theorem dX9_isLess_69 : decode cX9_isLess 69 = .ok (.lmul, 1) := by decide +kernel
theorem dX9_isLess_70 : decode cX9_isLess 70 = .ok (.lsub, 1) := by decide +kernel
theorem dX9_isLess_71 : decode cX9_isLess 71 = .ok (.lstore 8, 2) := by decide +kernel
theorem dX9_isLess_73 : decode cX9_isLess 73 = .ok (.lload 12, 2) := by decide +kernel
theorem dX9_isLess_75 : decode cX9_isLess 75 = .ok (.lload 19, 2) := by decide +kernel
theorem dX9_isLess_77 : decode cX9_isLess 77 = .ok (.lload 14, 2) := by decide +kernel
theorem dX9_isLess_79 : decode cX9_isLess 79 = .ok (.lmul, 1) := by decide +kernel
theorem dX9_isLess_80 : decode cX9_isLess 80 = .ok (.lsub, 1) := by decide +kernel
theorem dX9_isLess_81 : decode cX9_isLess 81 = .ok (.lstore 12, 2) := by decide +kernel
theorem dX9_isLess_83 : decode cX9_isLess 83 = .ok (.lload 8, 2) := by decide +kernel
theorem dX9_isLess_85 : decode cX9_isLess 85 = .ok (.lconst 0, 1) := by decide +kernel
theorem dX9_isLess_86 : decode cX9_isLess 86 = .ok (.lcmp, 1) := by decide +kernel
theorem dX9_isLess_87 : decode cX9_isLess 87 = .ok (.ifCond .eq 10, 3) := by decide +kernel
theorem dX9_isLess_90 : decode cX9_isLess 90 = .ok (.lload 12, 2) := by decide +kernel
theorem dX9_isLess_92 : decode cX9_isLess 92 = .ok (.lconst 0, 1) := by decide +kernel
theorem dX9_isLess_93 : decode cX9_isLess 93 = .ok (.lcmp, 1) := by decide +kernel
theorem dX9_isLess_94 : decode cX9_isLess 94 = .ok (.ifCond .ne 47, 3) := by decide +kernel
theorem dX9_isLess_97 : decode cX9_isLess 97 = .ok (.lload 8, 2) := by decide +kernel
theorem dX9_isLess_99 : decode cX9_isLess 99 = .ok (.lconst 0, 1) := by decide +kernel
theorem dX9_isLess_100 : decode cX9_isLess 100 = .ok (.lcmp, 1) := by decide +kernel
theorem dX9_isLess_101 : decode cX9_isLess 101 = .ok (.ifCond .ne 14, 3) := by decide +kernel
theorem dX9_isLess_104 : decode cX9_isLess 104 = .ok (.lload 12, 2) := by decide +kernel
theorem dX9_isLess_106 : decode cX9_isLess 106 = .ok (.lconst 0, 1) := by decide +kernel
theorem dX9_isLess_107 : decode cX9_isLess 107 = .ok (.lcmp, 1) := by decide +kernel
theorem dX9_isLess_108 : decode cX9_isLess 108 = .ok (.ifCond .eq 7, 3) := by decide +kernel
theorem dX9_isLess_111 : decode cX9_isLess 111 = .ok (.iconst 1, 1) := by decide +kernel
theorem dX9_isLess_112 : decode cX9_isLess 112 = .ok (.goto 4, 3) := by decide +kernel
theorem dX9_isLess_115 : decode cX9_isLess 115 = .ok (.iconst 0, 1) := by decide +kernel
theorem dX9_isLess_116 : decode cX9_isLess 116 = .ok (.iload 16, 2) := by decide +kernel
theorem dX9_isLess_118 : decode cX9_isLess 118 = .ok (.if_icmp .eq 21, 3) := by decide +kernel
theorem dX9_isLess_121 : decode cX9_isLess 121 = .ok (.lload 8, 2) := by decide +kernel
theorem dX9_isLess_123 : decode cX9_isLess 123 = .ok (.lconst 0, 1) := by decide +kernel
theorem dX9_isLess_124 : decode cX9_isLess 124 = .ok (.lcmp, 1) := by decide +kernel
theorem dX9_isLess_125 : decode cX9_isLess 125 = .ok (.ifCond .ne 10, 3) := by decide +kernel
theorem dX9_isLess_128 : decode cX9_isLess 128 = .ok (.lload 12, 2) := by decide +kernel
theorem dX9_isLess_130 : decode cX9_isLess 130 = .ok (.lconst 0, 1) := by decide +kernel
theorem dX9_isLess_131 : decode cX9_isLess 131 = .ok (.lcmp, 1) := by decide +kernel
theorem dX9_isLess_132 : decode cX9_isLess 132 = .ok (.ifCond .eq 7, 3) := by decide +kernel
theorem dX9_isLess_135 : decode cX9_isLess 135 = .ok (.iconst 1, 1) := by decide +kernel
theorem dX9_isLess_136 : decode cX9_isLess 136 = .ok (.goto 4, 3) := by decide +kernel
theorem dX9_isLess_139 : decode cX9_isLess 139 = .ok (.iconst 0, 1) := by decide +kernel
theorem dX9_isLess_140 : decode cX9_isLess 140 = .ok (.ireturn, 1) := by decide +kernel
theorem dX9_isLess_141 : decode cX9_isLess 141 = .ok (.lload 8, 2) := by decide +kernel
theorem dX9_isLess_143 : decode cX9_isLess 143 = .ok (.lstore 21, 2) := by decide +kernel
theorem dX9_isLess_145 : decode cX9_isLess 145 = .ok (.lload 10, 2) := by decide +kernel
theorem dX9_isLess_147 : decode cX9_isLess 147 = .ok (.lstore 8, 2) := by decide +kernel
theorem dX9_isLess_149 : decode cX9_isLess 149 = .ok (.lload 21, 2) := by decide +kernel
theorem dX9_isLess_151 : decode cX9_isLess 151 = .ok (.lstore 10, 2) := by decide +kernel
theorem dX9_isLess_153 : decode cX9_isLess 153 = .ok (.lload 12, 2) := by decide +kernel
theorem dX9_isLess_155 : decode cX9_isLess 155 = .ok (.lstore 21, 2) := by decide +kernel
theorem dX9_isLess_157 : decode cX9_isLess 157 = .ok (.lload 14, 2) := by decide +kernel
theorem dX9_isLess_159 : decode cX9_isLess 159 = .ok (.lstore 12, 2) := by decide +kernel
theorem dX9_isLess_161 : decode cX9_isLess 161 = .ok (.lload 21, 2) := by decide +kernel
theorem dX9_isLess_163 : decode cX9_isLess 163 = .ok (.lstore 14, 2) := by decide +kernel
theorem dX9_isLess_165 : decode cX9_isLess 165 = .ok (.iload 16, 2) := by decide +kernel
theorem dX9_isLess_167 : decode cX9_isLess 167 = .ok (.ifCond .ne 7, 3) := by decide +kernel
theorem dX9_isLess_170 : decode cX9_isLess 170 = .ok (.iconst 1, 1) := by decide +kernel
theorem dX9_isLess_171 : decode cX9_isLess 171 = .ok (.goto 4, 3) := by decide +kernel
theorem dX9_isLess_174 : decode cX9_isLess 174 = .ok (.iconst 0, 1) := by decide +kernel
theorem dX9_isLess_175 : decode cX9_isLess 175 = .ok (.istore 16, 2) := by decide +kernel
theorem dX9_isLess_177 : decode cX9_isLess 177 = .ok (.goto (-160), 3) := by decide +kernel
set_option maxRecDepth 20000 in
theorem ggX9_best_X9_in : GoodIn wsX9_best wsX9_in := goodIn_r _ [7] (by decide +kernel) (by decide +kernel)
set_option maxRecDepth 20000 in
theorem gX9_best_X9_in : GoodIn wsX9_best (va_wsS RX9 201 yX9_in wsX9_in) := goodIn_app (goodIn_of _ (by decide +kernel)) ggX9_best_X9_in
set_option maxRecDepth 20000 in
theorem ggX9_best_X9_reckon : GoodIn wsX9_best wsX9_reckon := goodIn_r _ [11, 2, 3, 12, 13, 14, 6, 15, 16, 17, 18, 19, 23, 24, 25, 26, 27, 28, 29, 30, 31, 32, 33, 34, 35, 36, 37, 38, 39, 40, 41, 42, 43, 44, 45, 46, 47, 48, 49, 50, 51, 52, 53, 54, 55, 56, 57, 58, 59, 60, 61] (by decide +kernel) (by decide +kernel)
set_option maxRecDepth 20000 in
theorem gX9_best_X9_reckon : GoodIn wsX9_best (wsV RX9 205 RX9 yX9_reckon wsX9_reckon) := goodIn_app (goodIn_of _ (by decide +kernel)) ggX9_best_X9_reckon
set_option maxRecDepth 20000 in
theorem ggX9_best_X9_isLess : GoodIn wsX9_best wsX9_isLess := goodIn_r _ [22] (by decide +kernel) (by decide +kernel)
set_option maxRecDepth 20000 in
theorem gX9_best_X9_isLess : GoodIn wsX9_best (va_wsS RX9 208 yX9_isLess wsX9_isLess) := goodIn_app (goodIn_of _ (by decide +kernel)) ggX9_best_X9_isLess
theorem dX9_best_0 : decode cX9_best 0 = .ok (.aload_n 0, 1) := by decide +kernel
theorem dX9_best_1 : decode cX9_best 1 = .ok (.iconst 0, 1) := by decide +kernel
theorem dX9_best_2 : decode cX9_best 2 = .ok (.putfield 83, 3) := by decide +kernel
theorem dX9_best_5 : decode cX9_best 5 = .ok (.iload_n 1, 1) := by decide +kernel
theorem dX9_best_6 : decode cX9_best 6 = .ok (.iconst 1, 1) := by decide +kernel
theorem dX9_best_7 : decode cX9_best 7 = .ok (.bipush 8, 2) := by decide +kernel
theorem dX9_best_9 : decode cX9_best 9 = .ok (.invokestatic 201, 3) := by decide +kernel
theorem dX9_best_12 : decode cX9_best 12 = .ok (.ifCond .eq 23, 3) := by decide +kernel
theorem dX9_best_15 : decode cX9_best 15 = .ok (.iload_n 2, 1) := by decide +kernel
theorem dX9_best_16 : decode cX9_best 16 = .ok (.iconst 1, 1) := by decide +kernel
theorem dX9_best_17 : decode cX9_best 17 = .ok (.bipush 9, 2) := by decide +kernel
theorem dX9_best_19 : decode cX9_best 19 = .ok (.invokestatic 201, 3) := by decide +kernel
theorem dX9_best_22 : decode cX9_best 22 = .ok (.ifCond .eq 13, 3) := by decide +kernel
theorem dX9_best_25 : decode cX9_best 25 = .ok (.iload_n 3, 1) := by decide +kernel
theorem dX9_best_26 : decode cX9_best 26 = .ok (.iconst 1, 1) := by decide +kernel
theorem dX9_best_27 : decode cX9_best 27 = .ok (.bipush 8, 2) := by decide +kernel
theorem dX9_best_29 : decode cX9_best 29 = .ok (.invokestatic 201, 3) := by decide +kernel
theorem dX9_best_32 : decode cX9_best 32 = .ok (.ifCond .ne 5, 3) := by decide +kernel
theorem dX9_best_35 : decode cX9_best 35 = .ok (.iconst (-1), 1) := by decide +kernel
theorem dX9_best_36 : decode cX9_best 36 = .ok (.ireturn, 1) := by decide +kernel
theorem dX9_best_37 : decode cX9_best 37 = .ok (.iconst 1, 1) := by decide +kernel
theorem dX9_best_38 : decode cX9_best 38 = .ok (.istore 4, 2) := by decide +kernel
theorem dX9_best_40 : decode cX9_best 40 = .ok (.aload_n 0, 1) := by decide +kernel
theorem dX9_best_41 : decode cX9_best 41 = .ok (.iload_n 1, 1) := by decide +kernel
theorem dX9_best_42 : decode cX9_best 42 = .ok (.iload_n 2, 1) := by decide +kernel
theorem dX9_best_43 : decode cX9_best 43 = .ok (.iconst 1, 1) := by decide +kernel
theorem dX9_best_44 : decode cX9_best 44 = .ok (.invokevirtual 205, 3) := by decide +kernel
theorem dX9_best_47 : decode cX9_best 47 = .ok (.aload_n 0, 1) := by decide +kernel
theorem dX9_best_48 : decode cX9_best 48 = .ok (.getfield 187, 3) := by decide +kernel
theorem dX9_best_51 : decode cX9_best 51 = .ok (.lstore 5, 2) := by decide +kernel
theorem dX9_best_53 : decode cX9_best 53 = .ok (.aload_n 0, 1) := by decide +kernel
theorem dX9_best_54 : decode cX9_best 54 = .ok (.getfield 190, 3) := by decide +kernel
theorem dX9_best_57 : decode cX9_best 57 = .ok (.lstore 7, 2) := by decide +kernel
theorem dX9_best_59 : decode cX9_best 59 = .ok (.iconst 2, 1) := by decide +kernel
theorem dX9_best_60 : decode cX9_best 60 = .ok (.istore 9, 2) := by decide +kernel
theorem dX9_best_62 : decode cX9_best 62 = .ok (.iload 9, 2) := by decide +kernel
theorem dX9_best_64 : decode cX9_best 64 = .ok (.iload_n 3, 1) := by decide +kernel
theorem dX9_best_65 : decode cX9_best 65 = .ok (.if_icmp .gt 54, 3) := by decide +kernel
theorem dX9_best_68 : decode cX9_best 68 = .ok (.aload_n 0, 1) := by decide +kernel
theorem dX9_best_69 : decode cX9_best 69 = .ok (.iload_n 1, 1) := by decide +kernel
theorem dX9_best_70 : decode cX9_best 70 = .ok (.iload_n 2, 1) := by decide +kernel
theorem dX9_best_71 : decode cX9_best 71 = .ok (.iload 9, 2) := by decide +kernel
theorem dX9_best_73 : decode cX9_best 73 = .ok (.invokevirtual 205, 3) := by decide +kernel
theorem dX9_best_76 : decode cX9_best 76 = .ok (.aload_n 0, 1) := by decide +kernel
theorem dX9_best_77 : decode cX9_best 77 = .ok (.getfield 187, 3) := by decide +kernel
theorem dX9_best_80 : decode cX9_best 80 = .ok (.aload_n 0, 1) := by decide +kernel
theorem dX9_best_81 : decode cX9_best 81 = .ok (.getfield 190, 3) := by decide +kernel
theorem dX9_best_84 : decode cX9_best 84 = .ok (.lload 5, 2) := by decide +kernel
theorem dX9_best_86 : decode cX9_best 86 = .ok (.lload 7, 2) := by decide +kernel
theorem dX9_best_88 : decode cX9_best 88 = .ok (.invokestatic 208, 3) := by decide +kernel
theorem dX9_best_91 : decode cX9_best 91 = .ok (.ifCond .ne 6, 3) := by decide +kernel
theorem dX9_best_94 : decode cX9_best 94 = .ok (.goto 19, 3) := by decide +kernel
theorem dX9_best_97 : decode cX9_best 97 = .ok (.iload 9, 2) := by decide +kernel
theorem dX9_best_99 : decode cX9_best 99 = .ok (.istore 4, 2) := by decide +kernel
theorem dX9_best_101 : decode cX9_best 101 = .ok (.aload_n 0, 1) := by decide +kernel
theorem dX9_best_102 : decode cX9_best 102 = .ok (.getfield 187, 3) := by decide +kernel
theorem dX9_best_105 : decode cX9_best 105 = .ok (.lstore 5, 2) := by decide +kernel
theorem dX9_best_107 : decode cX9_best 107 = .ok (.aload_n 0, 1) := by decide +kernel
theorem dX9_best_108 : decode cX9_best 108 = .ok (.getfield 190, 3) := by decide +kernel
theorem dX9_best_111 : decode cX9_best 111 = .ok (.lstore 7, 2) := by decide +kernel
theorem dX9_best_113 : decode cX9_best 113 = .ok (.iinc 9 1, 3) := by decide +kernel
theorem dX9_best_116 : decode cX9_best 116 = .ok (.goto (-54), 3) := by decide +kernel
theorem dX9_best_119 : decode cX9_best 119 = .ok (.iload 4, 2) := by decide +kernel
theorem dX9_best_121 : decode cX9_best 121 = .ok (.ireturn, 1) := by decide +kernel
set_option maxRecDepth 20000 in
theorem ggX9_crowd_X9_in : GoodIn wsX9_crowd wsX9_in := goodIn_r _ [7] (by decide +kernel) (by decide +kernel)
set_option maxRecDepth 20000 in
theorem gX9_crowd_X9_in : GoodIn wsX9_crowd (va_wsS RX9 201 yX9_in wsX9_in) := goodIn_app (goodIn_of _ (by decide +kernel)) ggX9_crowd_X9_in
theorem dX9_crowd_0 : decode cX9_crowd 0 = .ok (.aload_n 0, 1) := by decide +kernel
theorem dX9_crowd_1 : decode cX9_crowd 1 = .ok (.iconst 0, 1) := by decide +kernel
theorem dX9_crowd_2 : decode cX9_crowd 2 = .ok (.putfield 83, 3) := by decide +kernel
theorem dX9_crowd_5 : decode cX9_crowd 5 = .ok (.iload_n 1, 1) := by decide +kernel
theorem dX9_crowd_6 : decode cX9_crowd 6 = .ok (.iconst 1, 1) := by decide +kernel
theorem dX9_crowd_7 : decode cX9_crowd 7 = .ok (.iconst 4, 1) := by decide +kernel
theorem dX9_crowd_8 : decode cX9_crowd 8 = .ok (.invokestatic 201, 3) := by decide +kernel
theorem dX9_crowd_11 : decode cX9_crowd 11 = .ok (.ifCond .eq 12, 3) := by decide +kernel
theorem dX9_crowd_14 : decode cX9_crowd 14 = .ok (.aload_n 0, 1) := by decide +kernel
theorem dX9_crowd_15 : decode cX9_crowd 15 = .ok (.getfield 118, 3) := by decide +kernel
theorem dX9_crowd_18 : decode cX9_crowd 18 = .ok (.bipush 6, 2) := by decide +kernel
theorem dX9_crowd_20 : decode cX9_crowd 20 = .ok (.if_icmp .ne 5, 3) := by decide +kernel
theorem dX9_crowd_23 : decode cX9_crowd 23 = .ok (.iconst (-1), 1) := by decide +kernel
theorem dX9_crowd_24 : decode cX9_crowd 24 = .ok (.ireturn, 1) := by decide +kernel
theorem dX9_crowd_25 : decode cX9_crowd 25 = .ok (.aload_n 0, 1) := by decide +kernel
theorem dX9_crowd_26 : decode cX9_crowd 26 = .ok (.getfield 74, 3) := by decide +kernel
theorem dX9_crowd_29 : decode cX9_crowd 29 = .ok (.aload_n 0, 1) := by decide +kernel
theorem dX9_crowd_30 : decode cX9_crowd 30 = .ok (.getfield 118, 3) := by decide +kernel
theorem dX9_crowd_33 : decode cX9_crowd 33 = .ok (.iload_n 1, 1) := by decide +kernel
theorem dX9_crowd_34 : decode cX9_crowd 34 = .ok (.iastore, 1) := by decide +kernel
theorem dX9_crowd_35 : decode cX9_crowd 35 = .ok (.aload_n 0, 1) := by decide +kernel
theorem dX9_crowd_36 : decode cX9_crowd 36 = .ok (.dup, 1) := by decide +kernel
theorem dX9_crowd_37 : decode cX9_crowd 37 = .ok (.getfield 118, 3) := by decide +kernel
theorem dX9_crowd_40 : decode cX9_crowd 40 = .ok (.iconst 1, 1) := by decide +kernel
theorem dX9_crowd_41 : decode cX9_crowd 41 = .ok (.iadd, 1) := by decide +kernel
theorem dX9_crowd_42 : decode cX9_crowd 42 = .ok (.putfield 118, 3) := by decide +kernel
theorem dX9_crowd_45 : decode cX9_crowd 45 = .ok (.aload_n 0, 1) := by decide +kernel
theorem dX9_crowd_46 : decode cX9_crowd 46 = .ok (.getfield 118, 3) := by decide +kernel
theorem dX9_crowd_49 : decode cX9_crowd 49 = .ok (.ireturn, 1) := by decide +kernel
theorem dX9_scatter_0 : decode cX9_scatter 0 = .ok (.aload_n 0, 1) := by decide +kernel
theorem dX9_scatter_1 : decode cX9_scatter 1 = .ok (.iconst 0, 1) := by decide +kernel
theorem dX9_scatter_2 : decode cX9_scatter 2 = .ok (.putfield 83, 3) := by decide +kernel
theorem dX9_scatter_5 : decode cX9_scatter 5 = .ok (.aload_n 0, 1) := by decide +kernel
theorem dX9_scatter_6 : decode cX9_scatter 6 = .ok (.getfield 118, 3) := by decide +kernel
theorem dX9_scatter_9 : decode cX9_scatter 9 = .ok (.istore_n 1, 1) := by decide +kernel
theorem dX9_scatter_10 : decode cX9_scatter 10 = .ok (.aload_n 0, 1) := by decide +kernel
theorem dX9_scatter_11 : decode cX9_scatter 11 = .ok (.iconst 0, 1) := by decide +kernel
theorem dX9_scatter_12 : decode cX9_scatter 12 = .ok (.putfield 118, 3) := by decide +kernel
theorem dX9_scatter_15 : decode cX9_scatter 15 = .ok (.iload_n 1, 1) := by decide +kernel
theorem dX9_scatter_16 : decode cX9_scatter 16 = .ok (.ireturn, 1) := by decide +kernel
theorem dX9_walk_0 : decode cX9_walk 0 = .ok (.iconst 0, 1) := by decide +kernel
theorem dX9_walk_1 : decode cX9_walk 1 = .ok (.istore_n 2, 1) := by decide +kernel
theorem dX9_walk_2 : decode cX9_walk 2 = .ok (.iload_n 2, 1) := by decide +kernel
theorem dX9_walk_3 : decode cX9_walk 3 = .ok (.sipush 15625, 3) := by decide +kernel
theorem dX9_walk_6 : decode cX9_walk 6 = .ok (.if_icmp .ge 16, 3) := by decide +kernel
theorem dX9_walk_9 : decode cX9_walk 9 = .ok (.aload_n 0, 1) := by decide +kernel
theorem dX9_walk_10 : decode cX9_walk 10 = .ok (.getfield 77, 3) := by decide +kernel
theorem dX9_walk_13 : decode cX9_walk 13 = .ok (.iload_n 2, 1) := by decide +kernel
theorem dX9_walk_14 : decode cX9_walk 14 = .ok (.iconst 0, 1) := by decide +kernel
theorem dX9_walk_15 : decode cX9_walk 15 = .ok (.bastore, 1) := by decide +kernel
theorem dX9_walk_16 : decode cX9_walk 16 = .ok (.iinc 2 1, 3) := by decide +kernel
theorem dX9_walk_19 : decode cX9_walk 19 = .ok (.goto (-17), 3) := by decide +kernel
theorem dX9_walk_22 : decode cX9_walk 22 = .ok (.aload_n 0, 1) := by decide +kernel
theorem dX9_walk_23 : decode cX9_walk 23 = .ok (.getfield 77, 3) := by decide +kernel
theorem dX9_walk_26 : decode cX9_walk 26 = .ok (.iconst 0, 1) := by decide +kernel
theorem dX9_walk_27 : decode cX9_walk 27 = .ok (.iconst 1, 1) := by decide +kernel
theorem dX9_walk_28 : decode cX9_walk 28 = .ok (.bastore, 1) := by decide +kernel
theorem dX9_walk_29 : decode cX9_walk 29 = .ok (.aload_n 0, 1) := by decide +kernel
theorem dX9_walk_30 : decode cX9_walk 30 = .ok (.getfield 80, 3) := by decide +kernel
theorem dX9_walk_33 : decode cX9_walk 33 = .ok (.iconst 0, 1) := by decide +kernel
theorem dX9_walk_34 : decode cX9_walk 34 = .ok (.iconst 0, 1) := by decide +kernel
theorem dX9_walk_35 : decode cX9_walk 35 = .ok (.iastore, 1) := by decide +kernel
theorem dX9_walk_36 : decode cX9_walk 36 = .ok (.iconst 0, 1) := by decide +kernel
theorem dX9_walk_37 : decode cX9_walk 37 = .ok (.istore_n 2, 1) := by decide +kernel
theorem dX9_walk_38 : decode cX9_walk 38 = .ok (.iconst 1, 1) := by decide +kernel
theorem dX9_walk_39 : decode cX9_walk 39 = .ok (.istore_n 3, 1) := by decide +kernel
theorem dX9_walk_40 : decode cX9_walk 40 = .ok (.aload_n 0, 1) := by decide +kernel
theorem dX9_walk_41 : decode cX9_walk 41 = .ok (.iconst 0, 1) := by decide +kernel
theorem dX9_walk_42 : decode cX9_walk 42 = .ok (.putfield 212, 3) := by decide +kernel
theorem dX9_walk_45 : decode cX9_walk 45 = .ok (.iload_n 2, 1) := by decide +kernel
theorem dX9_walk_46 : decode cX9_walk 46 = .ok (.iload_n 3, 1) := by decide +kernel
theorem dX9_walk_47 : decode cX9_walk 47 = .ok (.if_icmp .ge 203, 3) := by decide +kernel
theorem dX9_walk_50 : decode cX9_walk 50 = .ok (.aload_n 0, 1) := by decide +kernel
theorem dX9_walk_51 : decode cX9_walk 51 = .ok (.getfield 80, 3) := by decide +kernel
theorem dX9_walk_54 : decode cX9_walk 54 = .ok (.iload_n 2, 1) := by decide +kernel
theorem dX9_walk_55 : decode cX9_walk 55 = .ok (.iaload, 1) := by decide +kernel
theorem dX9_walk_56 : decode cX9_walk 56 = .ok (.istore 4, 2) := by decide +kernel
theorem dX9_walk_58 : decode cX9_walk 58 = .ok (.iinc 2 1, 3) := by decide +kernel
theorem dX9_walk_61 : decode cX9_walk 61 = .ok (.iconst 0, 1) := by decide +kernel
theorem dX9_walk_62 : decode cX9_walk 62 = .ok (.istore 5, 2) := by decide +kernel
theorem dX9_walk_64 : decode cX9_walk 64 = .ok (.iconst 1, 1) := by decide +kernel
theorem dX9_walk_65 : decode cX9_walk 65 = .ok (.istore 6, 2) := by decide +kernel
theorem dX9_walk_67 : decode cX9_walk 67 = .ok (.iload 4, 2) := by decide +kernel
theorem dX9_walk_69 : decode cX9_walk 69 = .ok (.istore 7, 2) := by decide +kernel
theorem dX9_walk_71 : decode cX9_walk 71 = .ok (.iconst 0, 1) := by decide +kernel
theorem dX9_walk_72 : decode cX9_walk 72 = .ok (.istore 8, 2) := by decide +kernel
theorem dX9_walk_74 : decode cX9_walk 74 = .ok (.iload 8, 2) := by decide +kernel
theorem dX9_walk_76 : decode cX9_walk 76 = .ok (.aload_n 0, 1) := by decide +kernel
theorem dX9_walk_77 : decode cX9_walk 77 = .ok (.getfield 118, 3) := by decide +kernel
theorem dX9_walk_80 : decode cX9_walk 80 = .ok (.if_icmp .ge 46, 3) := by decide +kernel
theorem dX9_walk_83 : decode cX9_walk 83 = .ok (.iload 7, 2) := by decide +kernel
theorem dX9_walk_85 : decode cX9_walk 85 = .ok (.iconst 5, 1) := by decide +kernel
theorem dX9_walk_86 : decode cX9_walk 86 = .ok (.irem, 1) := by decide +kernel
theorem dX9_walk_87 : decode cX9_walk 87 = .ok (.istore 9, 2) := by decide +kernel
theorem dX9_walk_89 : decode cX9_walk 89 = .ok (.iload 7, 2) := by decide +kernel
theorem dX9_walk_91 : decode cX9_walk 91 = .ok (.iconst 5, 1) := by decide +kernel
theorem dX9_walk_92 : decode cX9_walk 92 = .ok (.idiv, 1) := by decide +kernel
theorem dX9_walk_93 : decode cX9_walk 93 = .ok (.istore 7, 2) := by decide +kernel
theorem dX9_walk_95 : decode cX9_walk 95 = .ok (.iload 9, 2) := by decide +kernel
theorem dX9_walk_97 : decode cX9_walk 97 = .ok (.aload_n 0, 1) := by decide +kernel
theorem dX9_walk_98 : decode cX9_walk 98 = .ok (.getfield 74, 3) := by decide +kernel
theorem dX9_walk_101 : decode cX9_walk 101 = .ok (.iload 8, 2) := by decide +kernel
theorem dX9_walk_103 : decode cX9_walk 103 = .ok (.iaload, 1) := by decide +kernel
theorem dX9_walk_104 : decode cX9_walk 104 = .ok (.if_icmp .ne 6, 3) := by decide +kernel
theorem dX9_walk_107 : decode cX9_walk 107 = .ok (.goto 13, 3) := by decide +kernel
theorem dX9_walk_110 : decode cX9_walk 110 = .ok (.iload 5, 2) := by decide +kernel
theorem dX9_walk_112 : decode cX9_walk 112 = .ok (.iload 9, 2) := by decide +kernel
theorem dX9_walk_114 : decode cX9_walk 114 = .ok (.iadd, 1) := by decide +kernel
theorem dX9_walk_115 : decode cX9_walk 115 = .ok (.istore 5, 2) := by decide +kernel
theorem dX9_walk_117 : decode cX9_walk 117 = .ok (.iconst 0, 1) := by decide +kernel
theorem dX9_walk_118 : decode cX9_walk 118 = .ok (.istore 6, 2) := by decide +kernel
theorem dX9_walk_120 : decode cX9_walk 120 = .ok (.iinc 8 1, 3) := by decide +kernel
theorem dX9_walk_123 : decode cX9_walk 123 = .ok (.goto (-49), 3) := by decide +kernel
theorem dX9_walk_126 : decode cX9_walk 126 = .ok (.iload 6, 2) := by decide +kernel
theorem dX9_walk_128 : decode cX9_walk 128 = .ok (.ifCond .ne 19, 3) := by decide +kernel
theorem dX9_walk_131 : decode cX9_walk 131 = .ok (.iload 5, 2) := by decide +kernel
theorem dX9_walk_133 : decode cX9_walk 133 = .ok (.iload_n 1, 1) := by decide +kernel
theorem dX9_walk_134 : decode cX9_walk 134 = .ok (.if_icmp .ne 13, 3) := by decide +kernel
theorem dX9_walk_137 : decode cX9_walk 137 = .ok (.aload_n 0, 1) := by decide +kernel
theorem dX9_walk_138 : decode cX9_walk 138 = .ok (.dup, 1) := by decide +kernel
theorem dX9_walk_139 : decode cX9_walk 139 = .ok (.getfield 212, 3) := by decide +kernel
theorem dX9_walk_142 : decode cX9_walk 142 = .ok (.iconst 1, 1) := by decide +kernel
theorem dX9_walk_143 : decode cX9_walk 143 = .ok (.iadd, 1) := by decide +kernel
theorem dX9_walk_144 : decode cX9_walk 144 = .ok (.putfield 212, 3) := by decide +kernel
theorem dX9_walk_147 : decode cX9_walk 147 = .ok (.iconst 1, 1) := by decide +kernel
theorem dX9_walk_148 : decode cX9_walk 148 = .ok (.istore 8, 2) := by decide +kernel
theorem dX9_walk_150 : decode cX9_walk 150 = .ok (.iload 4, 2) := by decide +kernel
theorem dX9_walk_152 : decode cX9_walk 152 = .ok (.istore 7, 2) := by decide +kernel
theorem dX9_walk_154 : decode cX9_walk 154 = .ok (.iconst 0, 1) := by decide +kernel
theorem dX9_walk_155 : decode cX9_walk 155 = .ok (.istore 9, 2) := by decide +kernel
theorem dX9_walk_157 : decode cX9_walk 157 = .ok (.iload 9, 2) := by decide +kernel
theorem dX9_walk_159 : decode cX9_walk 159 = .ok (.aload_n 0, 1) := by decide +kernel
theorem dX9_walk_160 : decode cX9_walk 160 = .ok (.getfield 118, 3) := by decide +kernel
theorem dX9_walk_163 : decode cX9_walk 163 = .ok (.if_icmp .ge 84, 3) := by decide +kernel
theorem dX9_walk_166 : decode cX9_walk 166 = .ok (.iload 7, 2) := by decide +kernel
theorem dX9_walk_168 : decode cX9_walk 168 = .ok (.iconst 5, 1) := by decide +kernel
theorem dX9_walk_169 : decode cX9_walk 169 = .ok (.irem, 1) := by decide +kernel
theorem dX9_walk_170 : decode cX9_walk 170 = .ok (.istore 10, 2) := by decide +kernel
theorem dX9_walk_172 : decode cX9_walk 172 = .ok (.iload 7, 2) := by decide +kernel
theorem dX9_walk_174 : decode cX9_walk 174 = .ok (.iconst 5, 1) := by decide +kernel
theorem dX9_walk_175 : decode cX9_walk 175 = .ok (.idiv, 1) := by decide +kernel
theorem dX9_walk_176 : decode cX9_walk 176 = .ok (.istore 7, 2) := by decide +kernel
theorem dX9_walk_178 : decode cX9_walk 178 = .ok (.iload 4, 2) := by decide +kernel
theorem dX9_walk_180 : decode cX9_walk 180 = .ok (.iload 8, 2) := by decide +kernel
theorem dX9_walk_182 : decode cX9_walk 182 = .ok (.iadd, 1) := by decide +kernel
theorem dX9_walk_183 : decode cX9_walk 183 = .ok (.istore 11, 2) := by decide +kernel
theorem dX9_walk_185 : decode cX9_walk 185 = .ok (.iload 8, 2) := by decide +kernel
theorem dX9_walk_187 : decode cX9_walk 187 = .ok (.iconst 5, 1) := by decide +kernel
theorem dX9_walk_188 : decode cX9_walk 188 = .ok (.imul, 1) := by decide +kernel
theorem dX9_walk_189 : decode cX9_walk 189 = .ok (.istore 8, 2) := by decide +kernel
theorem dX9_walk_191 : decode cX9_walk 191 = .ok (.iload 10, 2) := by decide +kernel
theorem dX9_walk_193 : decode cX9_walk 193 = .ok (.aload_n 0, 1) := by decide +kernel
theorem dX9_walk_194 : decode cX9_walk 194 = .ok (.getfield 74, 3) := by decide +kernel
theorem dX9_walk_197 : decode cX9_walk 197 = .ok (.iload 9, 2) := by decide +kernel
theorem dX9_walk_199 : decode cX9_walk 199 = .ok (.iaload, 1) := by decide +kernel
theorem dX9_walk_200 : decode cX9_walk 200 = .ok (.if_icmp .eq 41, 3) := by decide +kernel
theorem dX9_walk_203 : decode cX9_walk 203 = .ok (.iload 5, 2) := by decide +kernel
theorem dX9_walk_205 : decode cX9_walk 205 = .ok (.iload_n 1, 1) := by decide +kernel
theorem dX9_walk_206 : decode cX9_walk 206 = .ok (.if_icmp .eq 35, 3) := by decide +kernel
theorem dX9_walk_209 : decode cX9_walk 209 = .ok (.aload_n 0, 1) := by decide +kernel
theorem dX9_walk_210 : decode cX9_walk 210 = .ok (.getfield 77, 3) := by decide +kernel
theorem dX9_walk_213 : decode cX9_walk 213 = .ok (.iload 11, 2) := by decide +kernel
theorem dX9_walk_215 : decode cX9_walk 215 = .ok (.baload, 1) := by decide +kernel
theorem dX9_walk_216 : decode cX9_walk 216 = .ok (.ifCond .eq 6, 3) := by decide +kernel
theorem dX9_walk_219 : decode cX9_walk 219 = .ok (.goto 22, 3) := by decide +kernel
theorem dX9_walk_222 : decode cX9_walk 222 = .ok (.aload_n 0, 1) := by decide +kernel
theorem dX9_walk_223 : decode cX9_walk 223 = .ok (.getfield 77, 3) := by decide +kernel
theorem dX9_walk_226 : decode cX9_walk 226 = .ok (.iload 11, 2) := by decide +kernel
theorem dX9_walk_228 : decode cX9_walk 228 = .ok (.iconst 1, 1) := by decide +kernel
theorem dX9_walk_229 : decode cX9_walk 229 = .ok (.bastore, 1) := by decide +kernel
theorem dX9_walk_230 : decode cX9_walk 230 = .ok (.aload_n 0, 1) := by decide +kernel
theorem dX9_walk_231 : decode cX9_walk 231 = .ok (.getfield 80, 3) := by decide +kernel
theorem dX9_walk_234 : decode cX9_walk 234 = .ok (.iload_n 3, 1) := by decide +kernel
theorem dX9_walk_235 : decode cX9_walk 235 = .ok (.iload 11, 2) := by decide +kernel
theorem dX9_walk_237 : decode cX9_walk 237 = .ok (.iastore, 1) := by decide +kernel
theorem dX9_walk_238 : decode cX9_walk 238 = .ok (.iinc 3 1, 3) := by decide +kernel
theorem dX9_walk_241 : decode cX9_walk 241 = .ok (.iinc 9 1, 3) := by decide +kernel
theorem dX9_walk_244 : decode cX9_walk 244 = .ok (.goto (-87), 3) := by decide +kernel
theorem dX9_walk_247 : decode cX9_walk 247 = .ok (.goto (-202), 3) := by decide +kernel
theorem dX9_walk_250 : decode cX9_walk 250 = .ok (.iload_n 3, 1) := by decide +kernel
theorem dX9_walk_251 : decode cX9_walk 251 = .ok (.ireturn, 1) := by decide +kernel
set_option maxRecDepth 20000 in
theorem ggX9_states_X9_in : GoodIn wsX9_states wsX9_in := goodIn_r _ [6] (by decide +kernel) (by decide +kernel)
set_option maxRecDepth 20000 in
theorem gX9_states_X9_in : GoodIn wsX9_states (va_wsS RX9 201 yX9_in wsX9_in) := goodIn_app (goodIn_of _ (by decide +kernel)) ggX9_states_X9_in
set_option maxRecDepth 20000 in
theorem ggX9_states_X9_walk : GoodIn wsX9_states wsX9_walk := goodIn_r _ [10, 11, 12, 2, 13, 14, 15, 16, 17, 18, 19, 20, 21, 22, 23, 24, 25, 26, 27, 28, 29, 30, 31, 32, 33, 34, 35, 36, 37, 38, 39, 40, 41, 42, 43, 44, 45, 46, 47, 48, 49, 50, 51, 52, 53] (by decide +kernel) (by decide +kernel)
set_option maxRecDepth 20000 in
theorem gX9_states_X9_walk : GoodIn wsX9_states (wsV RX9 215 RX9 yX9_walk wsX9_walk) := goodIn_app (goodIn_of _ (by decide +kernel)) ggX9_states_X9_walk
theorem dX9_states_0 : decode cX9_states 0 = .ok (.aload_n 0, 1) := by decide +kernel
theorem dX9_states_1 : decode cX9_states 1 = .ok (.iconst 0, 1) := by decide +kernel
theorem dX9_states_2 : decode cX9_states 2 = .ok (.putfield 83, 3) := by decide +kernel
theorem dX9_states_5 : decode cX9_states 5 = .ok (.iload_n 1, 1) := by decide +kernel
theorem dX9_states_6 : decode cX9_states 6 = .ok (.iconst 1, 1) := by decide +kernel
theorem dX9_states_7 : decode cX9_states 7 = .ok (.bipush 24, 2) := by decide +kernel
theorem dX9_states_9 : decode cX9_states 9 = .ok (.invokestatic 201, 3) := by decide +kernel
theorem dX9_states_12 : decode cX9_states 12 = .ok (.ifCond .eq 12, 3) := by decide +kernel
theorem dX9_states_15 : decode cX9_states 15 = .ok (.iload_n 2, 1) := by decide +kernel
theorem dX9_states_16 : decode cX9_states 16 = .ok (.iconst 0, 1) := by decide +kernel
theorem dX9_states_17 : decode cX9_states 17 = .ok (.iconst 1, 1) := by decide +kernel
theorem dX9_states_18 : decode cX9_states 18 = .ok (.invokestatic 201, 3) := by decide +kernel
theorem dX9_states_21 : decode cX9_states 21 = .ok (.ifCond .ne 5, 3) := by decide +kernel
theorem dX9_states_24 : decode cX9_states 24 = .ok (.iconst (-1), 1) := by decide +kernel
theorem dX9_states_25 : decode cX9_states 25 = .ok (.ireturn, 1) := by decide +kernel
theorem dX9_states_26 : decode cX9_states 26 = .ok (.aload_n 0, 1) := by decide +kernel
theorem dX9_states_27 : decode cX9_states 27 = .ok (.iload_n 1, 1) := by decide +kernel
theorem dX9_states_28 : decode cX9_states 28 = .ok (.invokevirtual 215, 3) := by decide +kernel
theorem dX9_states_31 : decode cX9_states 31 = .ok (.istore_n 3, 1) := by decide +kernel
theorem dX9_states_32 : decode cX9_states 32 = .ok (.iload_n 2, 1) := by decide +kernel
theorem dX9_states_33 : decode cX9_states 33 = .ok (.ifCond .ne 7, 3) := by decide +kernel
theorem dX9_states_36 : decode cX9_states 36 = .ok (.iload_n 3, 1) := by decide +kernel
theorem dX9_states_37 : decode cX9_states 37 = .ok (.goto 7, 3) := by decide +kernel
theorem dX9_states_40 : decode cX9_states 40 = .ok (.aload_n 0, 1) := by decide +kernel
theorem dX9_states_41 : decode cX9_states 41 = .ok (.getfield 212, 3) := by decide +kernel
theorem dX9_states_44 : decode cX9_states 44 = .ok (.ireturn, 1) := by decide +kernel
set_option maxRecDepth 20000 in
theorem ggX9_sure_X9_walk : GoodIn wsX9_sure wsX9_walk := goodIn_r _ [7, 8, 9, 2, 10, 11, 12, 13, 14, 15, 16, 17, 18, 19, 20, 21, 22, 23, 24, 25, 26, 27, 28, 29, 30, 31, 32, 33, 34, 35, 36, 37, 38, 39, 40, 41, 42, 43, 44, 45, 46, 47, 48, 49, 50] (by decide +kernel) (by decide +kernel)
set_option maxRecDepth 20000 in
theorem gX9_sure_X9_walk : GoodIn wsX9_sure (wsV RX9 215 RX9 yX9_walk wsX9_walk) := goodIn_app (goodIn_of _ (by decide +kernel)) ggX9_sure_X9_walk
theorem dX9_sure_0 : decode cX9_sure 0 = .ok (.aload_n 0, 1) := by decide +kernel
theorem dX9_sure_1 : decode cX9_sure 1 = .ok (.iconst 0, 1) := by decide +kernel
theorem dX9_sure_2 : decode cX9_sure 2 = .ok (.putfield 83, 3) := by decide +kernel
theorem dX9_sure_5 : decode cX9_sure 5 = .ok (.iconst 1, 1) := by decide +kernel
theorem dX9_sure_6 : decode cX9_sure 6 = .ok (.istore_n 1, 1) := by decide +kernel
theorem dX9_sure_7 : decode cX9_sure 7 = .ok (.iconst 1, 1) := by decide +kernel
theorem dX9_sure_8 : decode cX9_sure 8 = .ok (.istore_n 2, 1) := by decide +kernel
theorem dX9_sure_9 : decode cX9_sure 9 = .ok (.iload_n 2, 1) := by decide +kernel
theorem dX9_sure_10 : decode cX9_sure 10 = .ok (.bipush 25, 2) := by decide +kernel
theorem dX9_sure_12 : decode cX9_sure 12 = .ok (.if_icmp .ge 26, 3) := by decide +kernel
theorem dX9_sure_15 : decode cX9_sure 15 = .ok (.aload_n 0, 1) := by decide +kernel
theorem dX9_sure_16 : decode cX9_sure 16 = .ok (.iload_n 2, 1) := by decide +kernel
theorem dX9_sure_17 : decode cX9_sure 17 = .ok (.invokevirtual 215, 3) := by decide +kernel
theorem dX9_sure_20 : decode cX9_sure 20 = .ok (.pop, 1) := by decide +kernel
theorem dX9_sure_21 : decode cX9_sure 21 = .ok (.aload_n 0, 1) := by decide +kernel
theorem dX9_sure_22 : decode cX9_sure 22 = .ok (.getfield 212, 3) := by decide +kernel
theorem dX9_sure_25 : decode cX9_sure 25 = .ok (.ifCond .le 7, 3) := by decide +kernel
theorem dX9_sure_28 : decode cX9_sure 28 = .ok (.iload_n 2, 1) := by decide +kernel
theorem dX9_sure_29 : decode cX9_sure 29 = .ok (.iconst 1, 1) := by decide +kernel
theorem dX9_sure_30 : decode cX9_sure 30 = .ok (.iadd, 1) := by decide +kernel
theorem dX9_sure_31 : decode cX9_sure 31 = .ok (.istore_n 1, 1) := by decide +kernel
theorem dX9_sure_32 : decode cX9_sure 32 = .ok (.iinc 2 1, 3) := by decide +kernel
theorem dX9_sure_35 : decode cX9_sure 35 = .ok (.goto (-26), 3) := by decide +kernel
theorem dX9_sure_38 : decode cX9_sure 38 = .ok (.iload_n 1, 1) := by decide +kernel
theorem dX9_sure_39 : decode cX9_sure 39 = .ok (.ireturn, 1) := by decide +kernel
theorem dJ9_floorMod_7cf53_0 : decode cJ9_floorMod_7cf53 0 = .ok (.iload_n 0, 1) := by decide +kernel
theorem dJ9_floorMod_7cf53_1 : decode cJ9_floorMod_7cf53 1 = .ok (.iload_n 1, 1) := by decide +kernel
theorem dJ9_floorMod_7cf53_2 : decode cJ9_floorMod_7cf53 2 = .ok (.irem, 1) := by decide +kernel
theorem dJ9_floorMod_7cf53_3 : decode cJ9_floorMod_7cf53 3 = .ok (.istore_n 2, 1) := by decide +kernel
theorem dJ9_floorMod_7cf53_4 : decode cJ9_floorMod_7cf53 4 = .ok (.iload_n 0, 1) := by decide +kernel
theorem dJ9_floorMod_7cf53_5 : decode cJ9_floorMod_7cf53 5 = .ok (.iload_n 1, 1) := by decide +kernel
theorem dJ9_floorMod_7cf53_6 : decode cJ9_floorMod_7cf53 6 = .ok (.ixor, 1) := by decide +kernel
theorem dJ9_floorMod_7cf53_7 : decode cJ9_floorMod_7cf53 7 = .ok (.ifCond .ge 11, 3) := by decide +kernel
theorem dJ9_floorMod_7cf53_10 : decode cJ9_floorMod_7cf53 10 = .ok (.iload_n 2, 1) := by decide +kernel
theorem dJ9_floorMod_7cf53_11 : decode cJ9_floorMod_7cf53 11 = .ok (.ifCond .eq 7, 3) := by decide +kernel
theorem dJ9_floorMod_7cf53_14 : decode cJ9_floorMod_7cf53 14 = .ok (.iload_n 2, 1) := by decide +kernel
theorem dJ9_floorMod_7cf53_15 : decode cJ9_floorMod_7cf53 15 = .ok (.iload_n 1, 1) := by decide +kernel
theorem dJ9_floorMod_7cf53_16 : decode cJ9_floorMod_7cf53 16 = .ok (.iadd, 1) := by decide +kernel
theorem dJ9_floorMod_7cf53_17 : decode cJ9_floorMod_7cf53 17 = .ok (.ireturn, 1) := by decide +kernel
theorem dJ9_floorMod_7cf53_18 : decode cJ9_floorMod_7cf53 18 = .ok (.iload_n 2, 1) := by decide +kernel
theorem dJ9_floorMod_7cf53_19 : decode cJ9_floorMod_7cf53 19 = .ok (.ireturn, 1) := by decide +kernel
theorem dJ9_max_7cf53_0 : decode cJ9_max_7cf53 0 = .ok (.iload_n 0, 1) := by decide +kernel
theorem dJ9_max_7cf53_1 : decode cJ9_max_7cf53 1 = .ok (.iload_n 1, 1) := by decide +kernel
theorem dJ9_max_7cf53_2 : decode cJ9_max_7cf53 2 = .ok (.if_icmp .lt 7, 3) := by decide +kernel
theorem dJ9_max_7cf53_5 : decode cJ9_max_7cf53 5 = .ok (.iload_n 0, 1) := by decide +kernel
theorem dJ9_max_7cf53_6 : decode cJ9_max_7cf53 6 = .ok (.goto 4, 3) := by decide +kernel
theorem dJ9_max_7cf53_9 : decode cJ9_max_7cf53 9 = .ok (.iload_n 1, 1) := by decide +kernel
theorem dJ9_max_7cf53_10 : decode cJ9_max_7cf53 10 = .ok (.ireturn, 1) := by decide +kernel
theorem dJ9_min_7cf53_0 : decode cJ9_min_7cf53 0 = .ok (.iload_n 0, 1) := by decide +kernel
theorem dJ9_min_7cf53_1 : decode cJ9_min_7cf53 1 = .ok (.iload_n 1, 1) := by decide +kernel
theorem dJ9_min_7cf53_2 : decode cJ9_min_7cf53 2 = .ok (.if_icmp .gt 7, 3) := by decide +kernel
theorem dJ9_min_7cf53_5 : decode cJ9_min_7cf53 5 = .ok (.iload_n 0, 1) := by decide +kernel
theorem dJ9_min_7cf53_6 : decode cJ9_min_7cf53 6 = .ok (.goto 4, 3) := by decide +kernel
theorem dJ9_min_7cf53_9 : decode cJ9_min_7cf53 9 = .ok (.iload_n 1, 1) := by decide +kernel
theorem dJ9_min_7cf53_10 : decode cJ9_min_7cf53 10 = .ok (.ireturn, 1) := by decide +kernel
set_option maxRecDepth 20000 in
theorem ggL_told_X8_told : GoodIn wsL_told wsX8_told := goodIn_ca (goodIn_r _ [6, 7, 8, 9, 10, 11, 12, 13, 14, 15, 16, 5, 17, 18, 19, 20, 21, 22, 23, 24, 25, 26, 27, 28, 29, 30, 31, 32, 33, 34, 35, 36, 37, 38, 39, 40, 41, 42, 43, 44, 45, 46, 47, 48, 49, 50, 51, 52, 53, 54, 55, 56, 57, 58, 59, 60, 61, 62, 63, 64, 65, 66, 67, 68, 69, 70, 71] (by decide +kernel) (by decide +kernel)) (goodIn_sub (fun _ h => List.mem_cons_of_mem _ (List.mem_append_right _ h)) (by decide +kernel))
set_option maxRecDepth 20000 in
theorem gL_told_X8_told : GoodIn wsL_told (wsV RL 7 RX8 yX8_told wsX8_told) := goodIn_app (goodIn_of _ (by decide +kernel)) ggL_told_X8_told
