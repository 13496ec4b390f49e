theorem dX12_twoOf_20 : decode cX12_twoOf 20 = .ok (.if_icmp .ne 7, 3) := by decide +kernel
theorem dX12_twoOf_23 : decode cX12_twoOf 23 = .ok (.iload_n 2, 1) := by decide +kernel
theorem dX12_twoOf_24 : decode cX12_twoOf 24 = .ok (.iload_n 3, 1) := by decide +kernel
theorem dX12_twoOf_25 : decode cX12_twoOf 25 = .ok (.imul, 1) := by decide +kernel
theorem dX12_twoOf_26 : decode cX12_twoOf 26 = .ok (.ireturn, 1) := by decide +kernel
theorem dX12_twoOf_27 : decode cX12_twoOf 27 = .ok (.iload_n 1, 1) := by decide +kernel
theorem dX12_twoOf_28 : decode cX12_twoOf 28 = .ok (.iconst 5, 1) := by decide +kernel
theorem dX12_twoOf_29 : decode cX12_twoOf 29 = .ok (.if_icmp .ne 7, 3) := by decide +kernel
theorem dX12_twoOf_32 : decode cX12_twoOf 32 = .ok (.iload_n 2, 1) := by decide +kernel
theorem dX12_twoOf_33 : decode cX12_twoOf 33 = .ok (.iload_n 3, 1) := by decide +kernel
theorem dX12_twoOf_34 : decode cX12_twoOf 34 = .ok (.idiv, 1) := by decide +kernel
theorem dX12_twoOf_35 : decode cX12_twoOf 35 = .ok (.ireturn, 1) := by decide +kernel
theorem dX12_twoOf_36 : decode cX12_twoOf 36 = .ok (.iload_n 1, 1) := by decide +kernel
theorem dX12_twoOf_37 : decode cX12_twoOf 37 = .ok (.bipush 6, 2) := by decide +kernel
theorem dX12_twoOf_39 : decode cX12_twoOf 39 = .ok (.if_icmp .ne 14, 3) := by decide +kernel
theorem dX12_twoOf_42 : decode cX12_twoOf 42 = .ok (.iload_n 2, 1) := by decide +kernel
theorem dX12_twoOf_43 : decode cX12_twoOf 43 = .ok (.iload_n 3, 1) := by decide +kernel
theorem dX12_twoOf_44 : decode cX12_twoOf 44 = .ok (.if_icmp .ge 7, 3) := by decide +kernel
theorem dX12_twoOf_47 : decode cX12_twoOf 47 = .ok (.iconst 1, 1) := by decide +kernel
theorem dX12_twoOf_48 : decode cX12_twoOf 48 = .ok (.goto 4, 3) := by decide +kernel
theorem dX12_twoOf_51 : decode cX12_twoOf 51 = .ok (.iconst 0, 1) := by decide +kernel
theorem dX12_twoOf_52 : decode cX12_twoOf 52 = .ok (.ireturn, 1) := by decide +kernel
theorem dX12_twoOf_53 : decode cX12_twoOf 53 = .ok (.iload_n 1, 1) := by decide +kernel
theorem dX12_twoOf_54 : decode cX12_twoOf 54 = .ok (.bipush 7, 2) := by decide +kernel
theorem dX12_twoOf_56 : decode cX12_twoOf 56 = .ok (.if_icmp .ne 14, 3) := by decide +kernel
theorem dX12_twoOf_59 : decode cX12_twoOf 59 = .ok (.iload_n 2, 1) := by decide +kernel
theorem dX12_twoOf_60 : decode cX12_twoOf 60 = .ok (.iload_n 3, 1) := by decide +kernel
theorem dX12_twoOf_61 : decode cX12_twoOf 61 = .ok (.if_icmp .ne 7, 3) := by decide +kernel
theorem dX12_twoOf_64 : decode cX12_twoOf 64 = .ok (.iconst 1, 1) := by decide +kernel
theorem dX12_twoOf_65 : decode cX12_twoOf 65 = .ok (.goto 4, 3) := by decide +kernel
theorem dX12_twoOf_68 : decode cX12_twoOf 68 = .ok (.iconst 0, 1) := by decide +kernel
theorem dX12_twoOf_69 : decode cX12_twoOf 69 = .ok (.ireturn, 1) := by decide +kernel
theorem dX12_twoOf_70 : decode cX12_twoOf 70 = .ok (.iload_n 1, 1) := by decide +kernel
theorem dX12_twoOf_71 : decode cX12_twoOf 71 = .ok (.bipush 8, 2) := by decide +kernel
theorem dX12_twoOf_73 : decode cX12_twoOf 73 = .ok (.if_icmp .ne 14, 3) := by decide +kernel
theorem dX12_twoOf_76 : decode cX12_twoOf 76 = .ok (.iload_n 2, 1) := by decide +kernel
theorem dX12_twoOf_77 : decode cX12_twoOf 77 = .ok (.iload_n 3, 1) := by decide +kernel
theorem dX12_twoOf_78 : decode cX12_twoOf 78 = .ok (.if_icmp .le 7, 3) := by decide +kernel
theorem dX12_twoOf_81 : decode cX12_twoOf 81 = .ok (.iconst 1, 1) := by decide +kernel
theorem dX12_twoOf_82 : decode cX12_twoOf 82 = .ok (.goto 4, 3) := by decide +kernel
theorem dX12_twoOf_85 : decode cX12_twoOf 85 = .ok (.iconst 0, 1) := by decide +kernel
theorem dX12_twoOf_86 : decode cX12_twoOf 86 = .ok (.ireturn, 1) := by decide +kernel
theorem dX12_twoOf_87 : decode cX12_twoOf 87 = .ok (.iload_n 1, 1) := by decide +kernel
theorem dX12_twoOf_88 : decode cX12_twoOf 88 = .ok (.bipush 10, 2) := by decide +kernel
theorem dX12_twoOf_90 : decode cX12_twoOf 90 = .ok (.if_icmp .ne 9, 3) := by decide +kernel
theorem dX12_twoOf_93 : decode cX12_twoOf 93 = .ok (.iload_n 2, 1) := by decide +kernel
theorem dX12_twoOf_94 : decode cX12_twoOf 94 = .ok (.iload_n 3, 1) := by decide +kernel
theorem dX12_twoOf_95 : decode cX12_twoOf 95 = .ok (.imul, 1) := by decide +kernel
theorem dX12_twoOf_96 : decode cX12_twoOf 96 = .ok (.goto 14, 3) := by decide +kernel
theorem dX12_twoOf_99 : decode cX12_twoOf 99 = .ok (.iload_n 2, 1) := by decide +kernel
theorem dX12_twoOf_100 : decode cX12_twoOf 100 = .ok (.iload_n 3, 1) := by decide +kernel
theorem dX12_twoOf_101 : decode cX12_twoOf 101 = .ok (.iadd, 1) := by decide +kernel
theorem dX12_twoOf_102 : decode cX12_twoOf 102 = .ok (.ifCond .le 7, 3) := by decide +kernel
theorem dX12_twoOf_105 : decode cX12_twoOf 105 = .ok (.iconst 1, 1) := by decide +kernel
theorem dX12_twoOf_106 : decode cX12_twoOf 106 = .ok (.goto 4, 3) := by decide +kernel
theorem dX12_twoOf_109 : decode cX12_twoOf 109 = .ok (.iconst 0, 1) := by decide +kernel
theorem dX12_twoOf_110 : decode cX12_twoOf 110 = .ok (.ireturn, 1) := by decide +kernel
theorem dX12_isSo_0 : decode cX12_isSo 0 = .ok (.aload_n 0, 1) := by decide +kernel
theorem dX12_isSo_1 : decode cX12_isSo 1 = .ok (.getfield 74, 3) := by decide +kernel
theorem dX12_isSo_4 : decode cX12_isSo 4 = .ok (.iload_n 2, 1) := by decide +kernel
theorem dX12_isSo_5 : decode cX12_isSo 5 = .ok (.iaload, 1) := by decide +kernel
theorem dX12_isSo_6 : decode cX12_isSo 6 = .ok (.aload_n 0, 1) := by decide +kernel
theorem dX12_isSo_7 : decode cX12_isSo 7 = .ok (.getfield 77, 3) := by decide +kernel
theorem dX12_isSo_10 : decode cX12_isSo 10 = .ok (.iload_n 2, 1) := by decide +kernel
theorem dX12_isSo_11 : decode cX12_isSo 11 = .ok (.iaload, 1) := by decide +kernel
theorem dX12_isSo_12 : decode cX12_isSo 12 = .ok (.if_icmp .ne 5, 3) := by decide +kernel
theorem dX12_isSo_15 : decode cX12_isSo 15 = .ok (.iconst 1, 1) := by decide +kernel
theorem dX12_isSo_16 : decode cX12_isSo 16 = .ok (.ireturn, 1) := by decide +kernel
theorem dX12_isSo_17 : decode cX12_isSo 17 = .ok (.iconst 0, 1) := by decide +kernel
theorem dX12_isSo_18 : decode cX12_isSo 18 = .ok (.istore_n 3, 1) := by decide +kernel
theorem dX12_isSo_19 : decode cX12_isSo 19 = .ok (.sipush 400, 3) := by decide +kernel
theorem dX12_isSo_22 : decode cX12_isSo 22 = .ok (.iload_n 1, 1) := by decide +kernel
theorem dX12_isSo_23 : decode cX12_isSo 23 = .ok (.imul, 1) := by decide +kernel
theorem dX12_isSo_24 : decode cX12_isSo 24 = .ok (.aload_n 0, 1) := by decide +kernel
theorem dX12_isSo_25 : decode cX12_isSo 25 = .ok (.getfield 74, 3) := by decide +kernel
theorem dX12_isSo_28 : decode cX12_isSo 28 = .ok (.iload_n 2, 1) := by decide +kernel
theorem dX12_isSo_29 : decode cX12_isSo 29 = .ok (.iaload, 1) := by decide +kernel
theorem dX12_isSo_30 : decode cX12_isSo 30 = .ok (.iadd, 1) := by decide +kernel
theorem dX12_isSo_31 : decode cX12_isSo 31 = .ok (.istore 4, 2) := by decide +kernel
theorem dX12_isSo_33 : decode cX12_isSo 33 = .ok (.iload 4, 2) := by decide +kernel
theorem dX12_isSo_35 : decode cX12_isSo 35 = .ok (.sipush 400, 3) := by decide +kernel
theorem dX12_isSo_38 : decode cX12_isSo 38 = .ok (.iload_n 1, 1) := by decide +kernel
theorem dX12_isSo_39 : decode cX12_isSo 39 = .ok (.imul, 1) := by decide +kernel
theorem dX12_isSo_40 : decode cX12_isSo 40 = .ok (.aload_n 0, 1) := by decide +kernel
theorem dX12_isSo_41 : decode cX12_isSo 41 = .ok (.getfield 77, 3) := by decide +kernel
theorem dX12_isSo_44 : decode cX12_isSo 44 = .ok (.iload_n 2, 1) := by decide +kernel
theorem dX12_isSo_45 : decode cX12_isSo 45 = .ok (.iaload, 1) := by decide +kernel
theorem dX12_isSo_46 : decode cX12_isSo 46 = .ok (.iadd, 1) := by decide +kernel
theorem dX12_isSo_47 : decode cX12_isSo 47 = .ok (.if_icmp .ge 145, 3) := by decide +kernel
theorem dX12_isSo_50 : decode cX12_isSo 50 = .ok (.aload_n 0, 1) := by decide +kernel
theorem dX12_isSo_51 : decode cX12_isSo 51 = .ok (.getfield 80, 3) := by decide +kernel
theorem dX12_isSo_54 : decode cX12_isSo 54 = .ok (.iload 4, 2) := by decide +kernel
theorem dX12_isSo_56 : decode cX12_isSo 56 = .ok (.iaload, 1) := by decide +kernel
theorem dX12_isSo_57 : decode cX12_isSo 57 = .ok (.ifCond .eq 14, 3) := by decide +kernel
theorem dX12_isSo_60 : decode cX12_isSo 60 = .ok (.aload_n 0, 1) := by decide +kernel
theorem dX12_isSo_61 : decode cX12_isSo 61 = .ok (.getfield 80, 3) := by decide +kernel
theorem dX12_isSo_64 : decode cX12_isSo 64 = .ok (.iload 4, 2) := by decide +kernel
theorem dX12_isSo_66 : decode cX12_isSo 66 = .ok (.iaload, 1) := by decide +kernel
theorem dX12_isSo_67 : decode cX12_isSo 67 = .ok (.iconst 1, 1) := by decide +kernel
theorem dX12_isSo_68 : decode cX12_isSo 68 = .ok (.if_icmp .ne 48, 3) := by decide +kernel
theorem dX12_isSo_71 : decode cX12_isSo 71 = .ok (.aload_n 0, 1) := by decide +kernel
theorem dX12_isSo_72 : decode cX12_isSo 72 = .ok (.getfield 95, 3) := by decide +kernel
theorem dX12_isSo_75 : decode cX12_isSo 75 = .ok (.iload_n 3, 1) := by decide +kernel
theorem dX12_isSo_76 : decode cX12_isSo 76 = .ok (.aload_n 0, 1) := by decide +kernel
theorem dX12_isSo_77 : decode cX12_isSo 77 = .ok (.getfield 80, 3) := by decide +kernel
theorem dX12_isSo_80 : decode cX12_isSo 80 = .ok (.iload 4, 2) := by decide +kernel
theorem dX12_isSo_82 : decode cX12_isSo 82 = .ok (.iaload, 1) := by decide +kernel
theorem dX12_isSo_83 : decode cX12_isSo 83 = .ok (.ifCond .ne 13, 3) := by decide +kernel
theorem dX12_isSo_86 : decode cX12_isSo 86 = .ok (.aload_n 0, 1) := by decide +kernel
theorem dX12_isSo_87 : decode cX12_isSo 87 = .ok (.getfield 83, 3) := by decide +kernel
theorem dX12_isSo_90 : decode cX12_isSo 90 = .ok (.iload 4, 2) := by decide +kernel
theorem dX12_isSo_92 : decode cX12_isSo 92 = .ok (.iaload, 1) := by decide +kernel
theorem dX12_isSo_93 : decode cX12_isSo 93 = .ok (.goto 15, 3) := by decide +kernel
theorem dX12_isSo_96 : decode cX12_isSo 96 = .ok (.aload_n 0, 1) := by decide +kernel
theorem dX12_isSo_97 : decode cX12_isSo 97 = .ok (.getfield 92, 3) := by decide +kernel
theorem dX12_isSo_100 : decode cX12_isSo 100 = .ok (.aload_n 0, 1) := by decide +kernel
theorem dX12_isSo_101 : decode cX12_isSo 101 = .ok (.getfield 83, 3) := by decide +kernel
theorem dX12_isSo_104 : decode cX12_isSo 104 = .ok (.iload 4, 2) := by decide +kernel
theorem dX12_isSo_106 : decode cX12_isSo 106 = .ok (.iaload, 1) := by decide +kernel
theorem dX12_isSo_107 : decode cX12_isSo 107 = .ok (.iaload, 1) := by decide +kernel
theorem dX12_isSo_108 : decode cX12_isSo 108 = .ok (.iastore, 1) := by decide +kernel
theorem dX12_isSo_109 : decode cX12_isSo 109 = .ok (.iload_n 3, 1) := by decide +kernel
theorem dX12_isSo_110 : decode cX12_isSo 110 = .ok (.iconst 1, 1) := by decide +kernel
theorem dX12_isSo_111 : decode cX12_isSo 111 = .ok (.iadd, 1) := by decide +kernel
theorem dX12_isSo_112 : decode cX12_isSo 112 = .ok (.istore_n 3, 1) := by decide +kernel
theorem dX12_isSo_113 : decode cX12_isSo 113 = .ok (.goto 73, 3) := by decide +kernel
theorem dX12_isSo_116 : decode cX12_isSo 116 = .ok (.aload_n 0, 1) := by decide +kernel
theorem dX12_isSo_117 : decode cX12_isSo 117 = .ok (.getfield 80, 3) := by decide +kernel
theorem dX12_isSo_120 : decode cX12_isSo 120 = .ok (.iload 4, 2) := by decide +kernel
theorem dX12_isSo_122 : decode cX12_isSo 122 = .ok (.iaload, 1) := by decide +kernel
theorem dX12_isSo_123 : decode cX12_isSo 123 = .ok (.bipush 9, 2) := by decide +kernel
theorem dX12_isSo_125 : decode cX12_isSo 125 = .ok (.if_icmp .ne 24, 3) := by decide +kernel
theorem dX12_isSo_128 : decode cX12_isSo 128 = .ok (.aload_n 0, 1) := by decide +kernel
theorem dX12_isSo_129 : decode cX12_isSo 129 = .ok (.getfield 95, 3) := by decide +kernel
theorem dX12_isSo_132 : decode cX12_isSo 132 = .ok (.iload_n 3, 1) := by decide +kernel
theorem dX12_isSo_133 : decode cX12_isSo 133 = .ok (.iconst 1, 1) := by decide +kernel
theorem dX12_isSo_134 : decode cX12_isSo 134 = .ok (.isub, 1) := by decide +kernel
theorem dX12_isSo_135 : decode cX12_isSo 135 = .ok (.iconst 1, 1) := by decide +kernel
theorem dX12_isSo_136 : decode cX12_isSo 136 = .ok (.aload_n 0, 1) := by decide +kernel
theorem dX12_isSo_137 : decode cX12_isSo 137 = .ok (.getfield 95, 3) := by decide +kernel
theorem dX12_isSo_140 : decode cX12_isSo 140 = .ok (.iload_n 3, 1) := by decide +kernel
theorem dX12_isSo_141 : decode cX12_isSo 141 = .ok (.iconst 1, 1) := by decide +kernel
theorem dX12_isSo_142 : decode cX12_isSo 142 = .ok (.isub, 1) := by decide +kernel
theorem dX12_isSo_143 : decode cX12_isSo 143 = .ok (.iaload, 1) := by decide +kernel
theorem dX12_isSo_144 : decode cX12_isSo 144 = .ok (.isub, 1) := by decide +kernel
theorem dX12_isSo_145 : decode cX12_isSo 145 = .ok (.iastore, 1) := by decide +kernel
theorem dX12_isSo_146 : decode cX12_isSo 146 = .ok (.goto 40, 3) := by decide +kernel
theorem dX12_isSo_149 : decode cX12_isSo 149 = .ok (.iload_n 3, 1) := by decide +kernel
theorem dX12_isSo_150 : decode cX12_isSo 150 = .ok (.iconst 1, 1) := by decide +kernel
theorem dX12_isSo_151 : decode cX12_isSo 151 = .ok (.isub, 1) := by decide +kernel
theorem dX12_isSo_152 : decode cX12_isSo 152 = .ok (.istore_n 3, 1) := by decide +kernel
theorem dX12_isSo_153 : decode cX12_isSo 153 = .ok (.aload_n 0, 1) := by decide +kernel
theorem dX12_isSo_154 : decode cX12_isSo 154 = .ok (.getfield 95, 3) := by decide +kernel
theorem dX12_isSo_157 : decode cX12_isSo 157 = .ok (.iload_n 3, 1) := by decide +kernel
theorem dX12_isSo_158 : decode cX12_isSo 158 = .ok (.iconst 1, 1) := by decide +kernel
theorem dX12_isSo_159 : decode cX12_isSo 159 = .ok (.isub, 1) := by decide +kernel
theorem dX12_isSo_160 : decode cX12_isSo 160 = .ok (.aload_n 0, 1) := by decide +kernel
theorem dX12_isSo_161 : decode cX12_isSo 161 = .ok (.aload_n 0, 1) := by decide +kernel
theorem dX12_isSo_162 : decode cX12_isSo 162 = .ok (.getfield 80, 3) := by decide +kernel
theorem dX12_isSo_165 : decode cX12_isSo 165 = .ok (.iload 4, 2) := by decide +kernel
theorem dX12_isSo_167 : decode cX12_isSo 167 = .ok (.iaload, 1) := by decide +kernel
theorem dX12_isSo_168 : decode cX12_isSo 168 = .ok (.aload_n 0, 1) := by decide +kernel
theorem dX12_isSo_169 : decode cX12_isSo 169 = .ok (.getfield 95, 3) := by decide +kernel
theorem dX12_isSo_172 : decode cX12_isSo 172 = .ok (.iload_n 3, 1) := by decide +kernel
theorem dX12_isSo_173 : decode cX12_isSo 173 = .ok (.iconst 1, 1) := by decide +kernel
theorem dX12_isSo_174 : decode cX12_isSo 174 = .ok (.isub, 1) := by decide +kernel
theorem dX12_isSo_175 : decode cX12_isSo 175 = .ok (.iaload, 1) := by decide +kernel
theorem dX12_isSo_176 : decode cX12_isSo 176 = .ok (.aload_n 0, 1) := by decide +kernel
theorem dX12_isSo_177 : decode cX12_isSo 177 = .ok (.getfield 95, 3) := by decide +kernel
theorem dX12_isSo_180 : decode cX12_isSo 180 = .ok (.iload_n 3, 1) := by decide +kernel
theorem dX12_isSo_181 : decode cX12_isSo 181 = .ok (.iaload, 1) := by decide +kernel
theorem dX12_isSo_182 : decode cX12_isSo 182 = .ok (.invokevirtual 275, 3) := by decide +kernel
theorem dX12_isSo_185 : decode cX12_isSo 185 = .ok (.iastore, 1) := by decide +kernel
theorem dX12_isSo_186 : decode cX12_isSo 186 = .ok (.iinc 4 1, 3) := by decide +kernel
theorem dX12_isSo_189 : decode cX12_isSo 189 = .ok (.goto (-156), 3) := by decide +kernel
theorem dX12_isSo_192 : decode cX12_isSo 192 = .ok (.aload_n 0, 1) := by decide +kernel
theorem dX12_isSo_193 : decode cX12_isSo 193 = .ok (.getfield 95, 3) := by decide +kernel
theorem dX12_isSo_196 : decode cX12_isSo 196 = .ok (.iconst 0, 1) := by decide +kernel
theorem dX12_isSo_197 : decode cX12_isSo 197 = .ok (.iaload, 1) := by decide +kernel
theorem dX12_isSo_198 : decode cX12_isSo 198 = .ok (.ifCond .eq 7, 3) := by decide +kernel
theorem dX12_isSo_201 : decode cX12_isSo 201 = .ok (.iconst 1, 1) := by decide +kernel
theorem dX12_isSo_202 : decode cX12_isSo 202 = .ok (.goto 4, 3) := by decide +kernel
theorem dX12_isSo_205 : decode cX12_isSo 205 = .ok (.iconst 0, 1) := by decide +kernel
theorem dX12_isSo_206 : decode cX12_isSo 206 = .ok (.ireturn, 1) := by decide +kernel
theorem dX12_seenFrom_0 : decode cX12_seenFrom 0 = .ok (.aload_n 0, 1) := by decide +kernel
theorem dX12_seenFrom_1 : decode cX12_seenFrom 1 = .ok (.getfield 20, 3) := by decide +kernel
theorem dX12_seenFrom_4 : decode cX12_seenFrom 4 = .ok (.bipush 7, 2) := by decide +kernel
theorem dX12_seenFrom_6 : decode cX12_seenFrom 6 = .ok (.iload_n 1, 1) := by decide +kernel
theorem dX12_seenFrom_7 : decode cX12_seenFrom 7 = .ok (.imul, 1) := by decide +kernel
theorem dX12_seenFrom_8 : decode cX12_seenFrom 8 = .ok (.iload_n 2, 1) := by decide +kernel
theorem dX12_seenFrom_9 : decode cX12_seenFrom 9 = .ok (.iadd, 1) := by decide +kernel
theorem dX12_seenFrom_10 : decode cX12_seenFrom 10 = .ok (.iaload, 1) := by decide +kernel
theorem dX12_seenFrom_11 : decode cX12_seenFrom 11 = .ok (.istore_n 3, 1) := by decide +kernel
theorem dX12_seenFrom_12 : decode cX12_seenFrom 12 = .ok (.iconst 0, 1) := by decide +kernel
theorem dX12_seenFrom_13 : decode cX12_seenFrom 13 = .ok (.istore 4, 2) := by decide +kernel
theorem dX12_seenFrom_15 : decode cX12_seenFrom 15 = .ok (.iload 4, 2) := by decide +kernel
theorem dX12_seenFrom_17 : decode cX12_seenFrom 17 = .ok (.aload_n 0, 1) := by decide +kernel
theorem dX12_seenFrom_18 : decode cX12_seenFrom 18 = .ok (.getfield 152, 3) := by decide +kernel
theorem dX12_seenFrom_21 : decode cX12_seenFrom 21 = .ok (.if_icmp .ge 54, 3) := by decide +kernel
theorem dX12_seenFrom_24 : decode cX12_seenFrom 24 = .ok (.aload_n 0, 1) := by decide +kernel
theorem dX12_seenFrom_25 : decode cX12_seenFrom 25 = .ok (.getfield 23, 3) := by decide +kernel
theorem dX12_seenFrom_28 : decode cX12_seenFrom 28 = .ok (.iload 4, 2) := by decide +kernel
theorem dX12_seenFrom_30 : decode cX12_seenFrom 30 = .ok (.iaload, 1) := by decide +kernel
theorem dX12_seenFrom_31 : decode cX12_seenFrom 31 = .ok (.iload_n 1, 1) := by decide +kernel
theorem dX12_seenFrom_32 : decode cX12_seenFrom 32 = .ok (.if_icmp .ne 37, 3) := by decide +kernel
theorem dX12_seenFrom_35 : decode cX12_seenFrom 35 = .ok (.aload_n 0, 1) := by decide +kernel
theorem dX12_seenFrom_36 : decode cX12_seenFrom 36 = .ok (.getfield 26, 3) := by decide +kernel
theorem dX12_seenFrom_39 : decode cX12_seenFrom 39 = .ok (.iload 4, 2) := by decide +kernel
theorem dX12_seenFrom_41 : decode cX12_seenFrom 41 = .ok (.iaload, 1) := by decide +kernel
theorem dX12_seenFrom_42 : decode cX12_seenFrom 42 = .ok (.iload_n 2, 1) := by decide +kernel
theorem dX12_seenFrom_43 : decode cX12_seenFrom 43 = .ok (.if_icmp .ne 26, 3) := by decide +kernel
theorem dX12_seenFrom_46 : decode cX12_seenFrom 46 = .ok (.iload_n 3, 1) := by decide +kernel
theorem dX12_seenFrom_47 : decode cX12_seenFrom 47 = .ok (.aload_n 0, 1) := by decide +kernel
theorem dX12_seenFrom_48 : decode cX12_seenFrom 48 = .ok (.getfield 155, 3) := by decide +kernel
theorem dX12_seenFrom_51 : decode cX12_seenFrom 51 = .ok (.aload_n 0, 1) := by decide +kernel
theorem dX12_seenFrom_52 : decode cX12_seenFrom 52 = .ok (.getfield 32, 3) := by decide +kernel
theorem dX12_seenFrom_55 : decode cX12_seenFrom 55 = .ok (.iload 4, 2) := by decide +kernel
theorem dX12_seenFrom_57 : decode cX12_seenFrom 57 = .ok (.iaload, 1) := by decide +kernel
theorem dX12_seenFrom_58 : decode cX12_seenFrom 58 = .ok (.isub, 1) := by decide +kernel
theorem dX12_seenFrom_59 : decode cX12_seenFrom 59 = .ok (.aload_n 0, 1) := by decide +kernel
theorem dX12_seenFrom_60 : decode cX12_seenFrom 60 = .ok (.getfield 29, 3) := by decide +kernel
theorem dX12_seenFrom_63 : decode cX12_seenFrom 63 = .ok (.iload 4, 2) := by decide +kernel
theorem dX12_seenFrom_65 : decode cX12_seenFrom 65 = .ok (.iaload, 1) := by decide +kernel
theorem dX12_seenFrom_66 : decode cX12_seenFrom 66 = .ok (.imul, 1) := by decide +kernel
theorem dX12_seenFrom_67 : decode cX12_seenFrom 67 = .ok (.isub, 1) := by decide +kernel
theorem dX12_seenFrom_68 : decode cX12_seenFrom 68 = .ok (.istore_n 3, 1) := by decide +kernel
theorem dX12_seenFrom_69 : decode cX12_seenFrom 69 = .ok (.iinc 4 1, 3) := by decide +kernel
theorem dX12_seenFrom_72 : decode cX12_seenFrom 72 = .ok (.goto (-57), 3) := by decide +kernel
theorem dX12_seenFrom_75 : decode cX12_seenFrom 75 = .ok (.iload_n 3, 1) := by decide +kernel
theorem dX12_seenFrom_76 : decode cX12_seenFrom 76 = .ok (.ifCond .ge 7, 3) := by decide +kernel
theorem dX12_seenFrom_79 : decode cX12_seenFrom 79 = .ok (.iconst 0, 1) := by decide +kernel
theorem dX12_seenFrom_80 : decode cX12_seenFrom 80 = .ok (.goto 4, 3) := by decide +kernel
theorem dX12_seenFrom_83 : decode cX12_seenFrom 83 = .ok (.iload_n 3, 1) := by decide +kernel
theorem dX12_seenFrom_84 : decode cX12_seenFrom 84 = .ok (.ireturn, 1) := by decide +kernel
theorem dX12_sees_0 : decode cX12_sees 0 = .ok (.aload_n 0, 1) := by decide +kernel
theorem dX12_sees_1 : decode cX12_sees 1 = .ok (.iconst 0, 1) := by decide +kernel
theorem dX12_sees_2 : decode cX12_sees 2 = .ok (.putfield 134, 3) := by decide +kernel
theorem dX12_sees_5 : decode cX12_sees 5 = .ok (.aload_n 0, 1) := by decide +kernel
theorem dX12_sees_6 : decode cX12_sees 6 = .ok (.iload_n 1, 1) := by decide +kernel
theorem dX12_sees_7 : decode cX12_sees 7 = .ok (.invokevirtual 175, 3) := by decide +kernel
theorem dX12_sees_10 : decode cX12_sees 10 = .ok (.ifCond .eq 25, 3) := by decide +kernel
theorem dX12_sees_13 : decode cX12_sees 13 = .ok (.aload_n 0, 1) := by decide +kernel
theorem dX12_sees_14 : decode cX12_sees 14 = .ok (.iload_n 2, 1) := by decide +kernel
theorem dX12_sees_15 : decode cX12_sees 15 = .ok (.invokevirtual 178, 3) := by decide +kernel
theorem dX12_sees_18 : decode cX12_sees 18 = .ok (.ifCond .eq 17, 3) := by decide +kernel
theorem dX12_sees_21 : decode cX12_sees 21 = .ok (.aload_n 0, 1) := by decide +kernel
theorem dX12_sees_22 : decode cX12_sees 22 = .ok (.aload_n 0, 1) := by decide +kernel
theorem dX12_sees_23 : decode cX12_sees 23 = .ok (.getfield 17, 3) := by decide +kernel
theorem dX12_sees_26 : decode cX12_sees 26 = .ok (.iload_n 1, 1) := by decide +kernel
theorem dX12_sees_27 : decode cX12_sees 27 = .ok (.iaload, 1) := by decide +kernel
theorem dX12_sees_28 : decode cX12_sees 28 = .ok (.iload_n 2, 1) := by decide +kernel
theorem dX12_sees_29 : decode cX12_sees 29 = .ok (.invokevirtual 279, 3) := by decide +kernel
theorem dX12_sees_32 : decode cX12_sees 32 = .ok (.goto 4, 3) := by decide +kernel
theorem dX12_sees_35 : decode cX12_sees 35 = .ok (.iconst (-1), 1) := by decide +kernel
theorem dX12_sees_36 : decode cX12_sees 36 = .ok (.ireturn, 1) := by decide +kernel
theorem dX12_findsYards_0 : decode cX12_findsYards 0 = .ok (.iconst 0, 1) := by decide +kernel
theorem dX12_findsYards_1 : decode cX12_findsYards 1 = .ok (.istore_n 1, 1) := by decide +kernel
theorem dX12_findsYards_2 : decode cX12_findsYards 2 = .ok (.iload_n 1, 1) := by decide +kernel
theorem dX12_findsYards_3 : decode cX12_findsYards 3 = .ok (.bipush 8, 2) := by decide +kernel
theorem dX12_findsYards_5 : decode cX12_findsYards 5 = .ok (.if_icmp .ge 42, 3) := by decide +kernel
theorem dX12_findsYards_8 : decode cX12_findsYards 8 = .ok (.iconst 0, 1) := by decide +kernel
theorem dX12_findsYards_9 : decode cX12_findsYards 9 = .ok (.istore_n 2, 1) := by decide +kernel
theorem dX12_findsYards_10 : decode cX12_findsYards 10 = .ok (.iload_n 2, 1) := by decide +kernel
theorem dX12_findsYards_11 : decode cX12_findsYards 11 = .ok (.aload_n 0, 1) := by decide +kernel
theorem dX12_findsYards_12 : decode cX12_findsYards 12 = .ok (.getfield 142, 3) := by decide +kernel
theorem dX12_findsYards_15 : decode cX12_findsYards 15 = .ok (.if_icmp .ge 26, 3) := by decide +kernel
theorem dX12_findsYards_18 : decode cX12_findsYards 18 = .ok (.aload_n 0, 1) := by decide +kernel
theorem dX12_findsYards_19 : decode cX12_findsYards 19 = .ok (.getfield 98, 3) := by decide +kernel
theorem dX12_findsYards_22 : decode cX12_findsYards 22 = .ok (.bipush 7, 2) := by decide +kernel
theorem dX12_findsYards_24 : decode cX12_findsYards 24 = .ok (.iload_n 1, 1) := by decide +kernel
theorem dX12_findsYards_25 : decode cX12_findsYards 25 = .ok (.imul, 1) := by decide +kernel
theorem dX12_findsYards_26 : decode cX12_findsYards 26 = .ok (.iload_n 2, 1) := by decide +kernel
theorem dX12_findsYards_27 : decode cX12_findsYards 27 = .ok (.iadd, 1) := by decide +kernel
theorem dX12_findsYards_28 : decode cX12_findsYards 28 = .ok (.aload_n 0, 1) := by decide +kernel
theorem dX12_findsYards_29 : decode cX12_findsYards 29 = .ok (.iload_n 1, 1) := by decide +kernel
theorem dX12_findsYards_30 : decode cX12_findsYards 30 = .ok (.iload_n 2, 1) := by decide +kernel
theorem dX12_findsYards_31 : decode cX12_findsYards 31 = .ok (.invokevirtual 279, 3) := by decide +kernel
theorem dX12_findsYards_34 : decode cX12_findsYards 34 = .ok (.iastore, 1) := by decide +kernel
theorem dX12_findsYards_35 : decode cX12_findsYards 35 = .ok (.iinc 2 1, 3) := by decide +kernel
theorem dX12_findsYards_38 : decode cX12_findsYards 38 = .ok (.goto (-28), 3) := by decide +kernel
theorem dX12_findsYards_41 : decode cX12_findsYards 41 = .ok (.iinc 1 1, 3) := by decide +kernel
theorem dX12_findsYards_44 : decode cX12_findsYards 44 = .ok (.goto (-42), 3) := by decide +kernel
theorem dX12_findsYards_47 : decode cX12_findsYards 47 = .ok (.return_, 1) := by decide +kernel
theorem dX12_worthFrom_0 : decode cX12_worthFrom 0 = .ok (.iconst 0, 1) := by decide +kernel
theorem dX12_worthFrom_1 : decode cX12_worthFrom 1 = .ok (.istore 4, 2) := by decide +kernel
theorem dX12_worthFrom_3 : decode cX12_worthFrom 3 = .ok (.iconst 0, 1) := by decide +kernel
theorem dX12_worthFrom_4 : decode cX12_worthFrom 4 = .ok (.istore 5, 2) := by decide +kernel
theorem dX12_worthFrom_6 : decode cX12_worthFrom 6 = .ok (.iload 5, 2) := by decide +kernel
theorem dX12_worthFrom_8 : decode cX12_worthFrom 8 = .ok (.aload_n 0, 1) := by decide +kernel
theorem dX12_worthFrom_9 : decode cX12_worthFrom 9 = .ok (.getfield 142, 3) := by decide +kernel
theorem dX12_worthFrom_12 : decode cX12_worthFrom 12 = .ok (.if_icmp .ge 143, 3) := by decide +kernel
theorem dX12_worthFrom_15 : decode cX12_worthFrom 15 = .ok (.aload_n 0, 1) := by decide +kernel
theorem dX12_worthFrom_16 : decode cX12_worthFrom 16 = .ok (.getfield 98, 3) := by decide +kernel
theorem dX12_worthFrom_19 : decode cX12_worthFrom 19 = .ok (.bipush 7, 2) := by decide +kernel
theorem dX12_worthFrom_21 : decode cX12_worthFrom 21 = .ok (.iload_n 1, 1) := by decide +kernel
theorem dX12_worthFrom_22 : decode cX12_worthFrom 22 = .ok (.imul, 1) := by decide +kernel
theorem dX12_worthFrom_23 : decode cX12_worthFrom 23 = .ok (.iload 5, 2) := by decide +kernel
theorem dX12_worthFrom_25 : decode cX12_worthFrom 25 = .ok (.iadd, 1) := by decide +kernel
theorem dX12_worthFrom_26 : decode cX12_worthFrom 26 = .ok (.iaload, 1) := by decide +kernel
theorem dX12_worthFrom_27 : decode cX12_worthFrom 27 = .ok (.istore 6, 2) := by decide +kernel
theorem dX12_worthFrom_29 : decode cX12_worthFrom 29 = .ok (.iload 4, 2) := by decide +kernel
theorem dX12_worthFrom_31 : decode cX12_worthFrom 31 = .ok (.iload 6, 2) := by decide +kernel
theorem dX12_worthFrom_33 : decode cX12_worthFrom 33 = .ok (.aload_n 0, 1) := by decide +kernel
theorem dX12_worthFrom_34 : decode cX12_worthFrom 34 = .ok (.getfield 35, 3) := by decide +kernel
theorem dX12_worthFrom_37 : decode cX12_worthFrom 37 = .ok (.iconst 4, 1) := by decide +kernel
theorem dX12_worthFrom_38 : decode cX12_worthFrom 38 = .ok (.iload_n 2, 1) := by decide +kernel
theorem dX12_worthFrom_39 : decode cX12_worthFrom 39 = .ok (.imul, 1) := by decide +kernel
theorem dX12_worthFrom_40 : decode cX12_worthFrom 40 = .ok (.aload_n 0, 1) := by decide +kernel
theorem dX12_worthFrom_41 : decode cX12_worthFrom 41 = .ok (.getfield 62, 3) := by decide +kernel
theorem dX12_worthFrom_44 : decode cX12_worthFrom 44 = .ok (.iload_n 3, 1) := by decide +kernel
theorem dX12_worthFrom_45 : decode cX12_worthFrom 45 = .ok (.iload 5, 2) := by decide +kernel
theorem dX12_worthFrom_47 : decode cX12_worthFrom 47 = .ok (.iadd, 1) := by decide +kernel
theorem dX12_worthFrom_48 : decode cX12_worthFrom 48 = .ok (.iaload, 1) := by decide +kernel
theorem dX12_worthFrom_49 : decode cX12_worthFrom 49 = .ok (.iadd, 1) := by decide +kernel
theorem dX12_worthFrom_50 : decode cX12_worthFrom 50 = .ok (.iaload, 1) := by decide +kernel
theorem dX12_worthFrom_51 : decode cX12_worthFrom 51 = .ok (.imul, 1) := by decide +kernel
theorem dX12_worthFrom_52 : decode cX12_worthFrom 52 = .ok (.iadd, 1) := by decide +kernel
theorem dX12_worthFrom_53 : decode cX12_worthFrom 53 = .ok (.istore 4, 2) := by decide +kernel
theorem dX12_worthFrom_55 : decode cX12_worthFrom 55 = .ok (.iconst 0, 1) := by decide +kernel
theorem dX12_worthFrom_56 : decode cX12_worthFrom 56 = .ok (.istore 7, 2) := by decide +kernel
theorem dX12_worthFrom_58 : decode cX12_worthFrom 58 = .ok (.iload 7, 2) := by decide +kernel
theorem dX12_worthFrom_60 : decode cX12_worthFrom 60 = .ok (.iload 5, 2) := by decide +kernel
theorem dX12_worthFrom_62 : decode cX12_worthFrom 62 = .ok (.if_icmp .ge 87, 3) := by decide +kernel
theorem dX12_worthFrom_65 : decode cX12_worthFrom 65 = .ok (.aload_n 0, 1) := by decide +kernel
theorem dX12_worthFrom_66 : decode cX12_worthFrom 66 = .ok (.getfield 98, 3) := by decide +kernel
theorem dX12_worthFrom_69 : decode cX12_worthFrom 69 = .ok (.bipush 7, 2) := by decide +kernel
theorem dX12_worthFrom_71 : decode cX12_worthFrom 71 = .ok (.iload_n 1, 1) := by decide +kernel
theorem dX12_worthFrom_72 : decode cX12_worthFrom 72 = .ok (.imul, 1) := by decide +kernel
theorem dX12_worthFrom_73 : decode cX12_worthFrom 73 = .ok (.iload 7, 2) := by decide +kernel
theorem dX12_worthFrom_75 : decode cX12_worthFrom 75 = .ok (.iadd, 1) := by decide +kernel
theorem dX12_worthFrom_76 : decode cX12_worthFrom 76 = .ok (.iaload, 1) := by decide +kernel
theorem dX12_worthFrom_77 : decode cX12_worthFrom 77 = .ok (.istore 8, 2) := by decide +kernel
theorem dX12_worthFrom_79 : decode cX12_worthFrom 79 = .ok (.aload_n 0, 1) := by decide +kernel
theorem dX12_worthFrom_80 : decode cX12_worthFrom 80 = .ok (.getfield 44, 3) := by decide +kernel
theorem dX12_worthFrom_83 : decode cX12_worthFrom 83 = .ok (.bipush 7, 2) := by decide +kernel
theorem dX12_worthFrom_85 : decode cX12_worthFrom 85 = .ok (.iload 5, 2) := by decide +kernel
theorem dX12_worthFrom_87 : decode cX12_worthFrom 87 = .ok (.imul, 1) := by decide +kernel
theorem dX12_worthFrom_88 : decode cX12_worthFrom 88 = .ok (.iload 7, 2) := by decide +kernel
theorem dX12_worthFrom_90 : decode cX12_worthFrom 90 = .ok (.iadd, 1) := by decide +kernel
theorem dX12_worthFrom_91 : decode cX12_worthFrom 91 = .ok (.iaload, 1) := by decide +kernel
theorem dX12_worthFrom_92 : decode cX12_worthFrom 92 = .ok (.iconst 1, 1) := by decide +kernel
theorem dX12_worthFrom_93 : decode cX12_worthFrom 93 = .ok (.if_icmp .ne 50, 3) := by decide +kernel
theorem dX12_worthFrom_96 : decode cX12_worthFrom 96 = .ok (.aload_n 0, 1) := by decide +kernel
theorem dX12_worthFrom_97 : decode cX12_worthFrom 97 = .ok (.getfield 62, 3) := by decide +kernel
theorem dX12_worthFrom_100 : decode cX12_worthFrom 100 = .ok (.iload_n 3, 1) := by decide +kernel
theorem dX12_worthFrom_101 : decode cX12_worthFrom 101 = .ok (.iload 5, 2) := by decide +kernel
theorem dX12_worthFrom_103 : decode cX12_worthFrom 103 = .ok (.iadd, 1) := by decide +kernel
theorem dX12_worthFrom_104 : decode cX12_worthFrom 104 = .ok (.iaload, 1) := by decide +kernel
theorem dX12_worthFrom_105 : decode cX12_worthFrom 105 = .ok (.aload_n 0, 1) := by decide +kernel
theorem dX12_worthFrom_106 : decode cX12_worthFrom 106 = .ok (.getfield 62, 3) := by decide +kernel
theorem dX12_worthFrom_109 : decode cX12_worthFrom 109 = .ok (.iload_n 3, 1) := by decide +kernel
theorem dX12_worthFrom_110 : decode cX12_worthFrom 110 = .ok (.iload 7, 2) := by decide +kernel
theorem dX12_worthFrom_112 : decode cX12_worthFrom 112 = .ok (.iadd, 1) := by decide +kernel
theorem dX12_worthFrom_113 : decode cX12_worthFrom 113 = .ok (.iaload, 1) := by decide +kernel
theorem dX12_worthFrom_114 : decode cX12_worthFrom 114 = .ok (.if_icmp .ne 29, 3) := by decide +kernel
theorem dX12_worthFrom_117 : decode cX12_worthFrom 117 = .ok (.iload 4, 2) := by decide +kernel
theorem dX12_worthFrom_119 : decode cX12_worthFrom 119 = .ok (.aload_n 0, 1) := by decide +kernel
theorem dX12_worthFrom_120 : decode cX12_worthFrom 120 = .ok (.getfield 41, 3) := by decide +kernel
theorem dX12_worthFrom_123 : decode cX12_worthFrom 123 = .ok (.iload_n 2, 1) := by decide +kernel
theorem dX12_worthFrom_124 : decode cX12_worthFrom 124 = .ok (.iaload, 1) := by decide +kernel
theorem dX12_worthFrom_125 : decode cX12_worthFrom 125 = .ok (.iload 6, 2) := by decide +kernel
theorem dX12_worthFrom_127 : decode cX12_worthFrom 127 = .ok (.iload 8, 2) := by decide +kernel
theorem dX12_worthFrom_129 : decode cX12_worthFrom 129 = .ok (.if_icmp .ge 8, 3) := by decide +kernel
theorem dX12_worthFrom_132 : decode cX12_worthFrom 132 = .ok (.iload 6, 2) := by decide +kernel
theorem dX12_worthFrom_134 : decode cX12_worthFrom 134 = .ok (.goto 5, 3) := by decide +kernel
theorem dX12_worthFrom_137 : decode cX12_worthFrom 137 = .ok (.iload 8, 2) := by decide +kernel
theorem dX12_worthFrom_139 : decode cX12_worthFrom 139 = .ok (.imul, 1) := by decide +kernel
theorem dX12_worthFrom_140 : decode cX12_worthFrom 140 = .ok (.iadd, 1) := by decide +kernel
theorem dX12_worthFrom_141 : decode cX12_worthFrom 141 = .ok (.istore 4, 2) := by decide +kernel
theorem dX12_worthFrom_143 : decode cX12_worthFrom 143 = .ok (.iinc 7 1, 3) := by decide +kernel
theorem dX12_worthFrom_146 : decode cX12_worthFrom 146 = .ok (.goto (-88), 3) := by decide +kernel
theorem dX12_worthFrom_149 : decode cX12_worthFrom 149 = .ok (.iinc 5 1, 3) := by decide +kernel
theorem dX12_worthFrom_152 : decode cX12_worthFrom 152 = .ok (.goto (-146), 3) := by decide +kernel
theorem dX12_worthFrom_155 : decode cX12_worthFrom 155 = .ok (.iload 4, 2) := by decide +kernel
theorem dX12_worthFrom_157 : decode cX12_worthFrom 157 = .ok (.ireturn, 1) := by decide +kernel
theorem dX12_worthOf_0 : decode cX12_worthOf 0 = .ok (.aload_n 0, 1) := by decide +kernel
theorem dX12_worthOf_1 : decode cX12_worthOf 1 = .ok (.aload_n 0, 1) := by decide +kernel
theorem dX12_worthOf_2 : decode cX12_worthOf 2 = .ok (.getfield 17, 3) := by decide +kernel
theorem dX12_worthOf_5 : decode cX12_worthOf 5 = .ok (.iload_n 1, 1) := by decide +kernel
theorem dX12_worthOf_6 : decode cX12_worthOf 6 = .ok (.iaload, 1) := by decide +kernel
theorem dX12_worthOf_7 : decode cX12_worthOf 7 = .ok (.iload_n 1, 1) := by decide +kernel
theorem dX12_worthOf_8 : decode cX12_worthOf 8 = .ok (.iload_n 2, 1) := by decide +kernel
theorem dX12_worthOf_9 : decode cX12_worthOf 9 = .ok (.invokevirtual 282, 3) := by decide +kernel
theorem dX12_worthOf_12 : decode cX12_worthOf 12 = .ok (.ireturn, 1) := by decide +kernel
theorem dX12_worth_0 : decode cX12_worth 0 = .ok (.aload_n 0, 1) := by decide +kernel
theorem dX12_worth_1 : decode cX12_worth 1 = .ok (.iconst 0, 1) := by decide +kernel
theorem dX12_worth_2 : decode cX12_worth 2 = .ok (.putfield 134, 3) := by decide +kernel
theorem dX12_worth_5 : decode cX12_worth 5 = .ok (.aload_n 0, 1) := by decide +kernel
theorem dX12_worth_6 : decode cX12_worth 6 = .ok (.iload_n 1, 1) := by decide +kernel
theorem dX12_worth_7 : decode cX12_worth 7 = .ok (.invokevirtual 175, 3) := by decide +kernel
theorem dX12_worth_10 : decode cX12_worth 10 = .ok (.ifCond .ne 7, 3) := by decide +kernel
theorem dX12_worth_13 : decode cX12_worth 13 = .ok (.ldc_w 285, 3) := by decide +kernel
theorem dX12_worth_16 : decode cX12_worth 16 = .ok (.ireturn, 1) := by decide +kernel
theorem dX12_worth_17 : decode cX12_worth 17 = .ok (.aload_n 0, 1) := by decide +kernel
theorem dX12_worth_18 : decode cX12_worth 18 = .ok (.invokevirtual 286, 3) := by decide +kernel
theorem dX12_worth_21 : decode cX12_worth 21 = .ok (.aload_n 0, 1) := by decide +kernel
theorem dX12_worth_22 : decode cX12_worth 22 = .ok (.iload_n 1, 1) := by decide +kernel
theorem dX12_worth_23 : decode cX12_worth 23 = .ok (.iconst 0, 1) := by decide +kernel
theorem dX12_worth_24 : decode cX12_worth 24 = .ok (.invokevirtual 289, 3) := by decide +kernel
theorem dX12_worth_27 : decode cX12_worth 27 = .ok (.ireturn, 1) := by decide +kernel
theorem dX12_says_0 : decode cX12_says 0 = .ok (.iload_n 1, 1) := by decide +kernel
theorem dX12_says_1 : decode cX12_says 1 = .ok (.aload_n 0, 1) := by decide +kernel
theorem dX12_says_2 : decode cX12_says 2 = .ok (.getfield 101, 3) := by decide +kernel
theorem dX12_says_5 : decode cX12_says 5 = .ok (.if_icmp .ne 21, 3) := by decide +kernel
theorem dX12_says_8 : decode cX12_says 8 = .ok (.iload_n 2, 1) := by decide +kernel
theorem dX12_says_9 : decode cX12_says 9 = .ok (.aload_n 0, 1) := by decide +kernel
theorem dX12_says_10 : decode cX12_says 10 = .ok (.getfield 292, 3) := by decide +kernel
theorem dX12_says_13 : decode cX12_says 13 = .ok (.if_icmp .ne 8, 3) := by decide +kernel
theorem dX12_says_16 : decode cX12_says 16 = .ok (.bipush 9, 2) := by decide +kernel
theorem dX12_says_18 : decode cX12_says 18 = .ok (.goto 18, 3) := by decide +kernel
theorem dX12_says_21 : decode cX12_says 21 = .ok (.bipush (-9), 2) := by decide +kernel
theorem dX12_says_23 : decode cX12_says 23 = .ok (.goto 13, 3) := by decide +kernel
theorem dX12_says_26 : decode cX12_says 26 = .ok (.aload_n 0, 1) := by decide +kernel
theorem dX12_says_27 : decode cX12_says 27 = .ok (.getfield 38, 3) := by decide +kernel
theorem dX12_says_30 : decode cX12_says 30 = .ok (.iconst 4, 1) := by decide +kernel
theorem dX12_says_31 : decode cX12_says 31 = .ok (.iload_n 1, 1) := by decide +kernel
theorem dX12_says_32 : decode cX12_says 32 = .ok (.imul, 1) := by decide +kernel
theorem dX12_says_33 : decode cX12_says 33 = .ok (.iload_n 2, 1) := by decide +kernel
theorem dX12_says_34 : decode cX12_says 34 = .ok (.iadd, 1) := by decide +kernel
theorem dX12_says_35 : decode cX12_says 35 = .ok (.iaload, 1) := by decide +kernel
theorem dX12_says_36 : decode cX12_says 36 = .ok (.ireturn, 1) := by decide +kernel
theorem dX12_bestColourOf_0 : decode cX12_bestColourOf 0 = .ok (.iconst 0, 1) := by decide +kernel
theorem dX12_bestColourOf_1 : decode cX12_bestColourOf 1 = .ok (.istore_n 2, 1) := by decide +kernel
theorem dX12_bestColourOf_2 : decode cX12_bestColourOf 2 = .ok (.iconst 1, 1) := by decide +kernel
theorem dX12_bestColourOf_3 : decode cX12_bestColourOf 3 = .ok (.istore_n 3, 1) := by decide +kernel
theorem dX12_bestColourOf_4 : decode cX12_bestColourOf 4 = .ok (.iload_n 3, 1) := by decide +kernel
theorem dX12_bestColourOf_5 : decode cX12_bestColourOf 5 = .ok (.aload_n 0, 1) := by decide +kernel
theorem dX12_bestColourOf_6 : decode cX12_bestColourOf 6 = .ok (.getfield 7, 3) := by decide +kernel
theorem dX12_bestColourOf_9 : decode cX12_bestColourOf 9 = .ok (.if_icmp .ge 26, 3) := by decide +kernel
theorem dX12_bestColourOf_12 : decode cX12_bestColourOf 12 = .ok (.aload_n 0, 1) := by decide +kernel
theorem dX12_bestColourOf_13 : decode cX12_bestColourOf 13 = .ok (.iload_n 1, 1) := by decide +kernel
theorem dX12_bestColourOf_14 : decode cX12_bestColourOf 14 = .ok (.iload_n 3, 1) := by decide +kernel
theorem dX12_bestColourOf_15 : decode cX12_bestColourOf 15 = .ok (.invokevirtual 295, 3) := by decide +kernel
theorem dX12_bestColourOf_18 : decode cX12_bestColourOf 18 = .ok (.aload_n 0, 1) := by decide +kernel
theorem dX12_bestColourOf_19 : decode cX12_bestColourOf 19 = .ok (.iload_n 1, 1) := by decide +kernel
theorem dX12_bestColourOf_20 : decode cX12_bestColourOf 20 = .ok (.iload_n 2, 1) := by decide +kernel
theorem dX12_bestColourOf_21 : decode cX12_bestColourOf 21 = .ok (.invokevirtual 295, 3) := by decide +kernel
theorem dX12_bestColourOf_24 : decode cX12_bestColourOf 24 = .ok (.if_icmp .le 5, 3) := by decide +kernel
theorem dX12_bestColourOf_27 : decode cX12_bestColourOf 27 = .ok (.iload_n 3, 1) := by decide +kernel
theorem dX12_bestColourOf_28 : decode cX12_bestColourOf 28 = .ok (.istore_n 2, 1) := by decide +kernel
theorem dX12_bestColourOf_29 : decode cX12_bestColourOf 29 = .ok (.iinc 3 1, 3) := by decide +kernel
theorem dX12_bestColourOf_32 : decode cX12_bestColourOf 32 = .ok (.goto (-28), 3) := by decide +kernel
theorem dX12_bestColourOf_35 : decode cX12_bestColourOf 35 = .ok (.iload_n 2, 1) := by decide +kernel
theorem dX12_bestColourOf_36 : decode cX12_bestColourOf 36 = .ok (.ireturn, 1) := by decide +kernel
theorem dX12_greatest_0 : decode cX12_greatest 0 = .ok (.iconst 0, 1) := by decide +kernel
theorem dX12_greatest_1 : decode cX12_greatest 1 = .ok (.istore_n 1, 1) := by decide +kernel
theorem dX12_greatest_2 : decode cX12_greatest 2 = .ok (.iconst 1, 1) := by decide +kernel
theorem dX12_greatest_3 : decode cX12_greatest 3 = .ok (.istore_n 2, 1) := by decide +kernel
theorem dX12_greatest_4 : decode cX12_greatest 4 = .ok (.iload_n 2, 1) := by decide +kernel
theorem dX12_greatest_5 : decode cX12_greatest 5 = .ok (.aload_n 0, 1) := by decide +kernel
theorem dX12_greatest_6 : decode cX12_greatest 6 = .ok (.getfield 7, 3) := by decide +kernel
theorem dX12_greatest_9 : decode cX12_greatest 9 = .ok (.if_icmp .ge 26, 3) := by decide +kernel
theorem dX12_greatest_12 : decode cX12_greatest 12 = .ok (.aload_n 0, 1) := by decide +kernel
theorem dX12_greatest_13 : decode cX12_greatest 13 = .ok (.getfield 104, 3) := by decide +kernel
theorem dX12_greatest_16 : decode cX12_greatest 16 = .ok (.iload_n 2, 1) := by decide +kernel
theorem dX12_greatest_17 : decode cX12_greatest 17 = .ok (.iaload, 1) := by decide +kernel
theorem dX12_greatest_18 : decode cX12_greatest 18 = .ok (.aload_n 0, 1) := by decide +kernel
theorem dX12_greatest_19 : decode cX12_greatest 19 = .ok (.getfield 104, 3) := by decide +kernel
theorem dX12_greatest_22 : decode cX12_greatest 22 = .ok (.iload_n 1, 1) := by decide +kernel
theorem dX12_greatest_23 : decode cX12_greatest 23 = .ok (.iaload, 1) := by decide +kernel
theorem dX12_greatest_24 : decode cX12_greatest 24 = .ok (.if_icmp .le 5, 3) := by decide +kernel
theorem dX12_greatest_27 : decode cX12_greatest 27 = .ok (.iload_n 2, 1) := by decide +kernel
theorem dX12_greatest_28 : decode cX12_greatest 28 = .ok (.istore_n 1, 1) := by decide +kernel
theorem dX12_greatest_29 : decode cX12_greatest 29 = .ok (.iinc 2 1, 3) := by decide +kernel
theorem dX12_greatest_32 : decode cX12_greatest 32 = .ok (.goto (-28), 3) := by decide +kernel
theorem dX12_greatest_35 : decode cX12_greatest 35 = .ok (.iload_n 1, 1) := by decide +kernel
theorem dX12_greatest_36 : decode cX12_greatest 36 = .ok (.ireturn, 1) := by decide +kernel
theorem dX12_byScores_0 : decode cX12_byScores 0 = .ok (.iconst 0, 1) := by decide +kernel
theorem dX12_byScores_1 : decode cX12_byScores 1 = .ok (.istore_n 3, 1) := by decide +kernel
theorem dX12_byScores_2 : decode cX12_byScores 2 = .ok (.iload_n 3, 1) := by decide +kernel
theorem dX12_byScores_3 : decode cX12_byScores 3 = .ok (.aload_n 0, 1) := by decide +kernel
theorem dX12_byScores_4 : decode cX12_byScores 4 = .ok (.getfield 7, 3) := by decide +kernel
theorem dX12_byScores_7 : decode cX12_byScores 7 = .ok (.if_icmp .ge 16, 3) := by decide +kernel
theorem dX12_byScores_10 : decode cX12_byScores 10 = .ok (.aload_n 0, 1) := by decide +kernel
theorem dX12_byScores_11 : decode cX12_byScores 11 = .ok (.getfield 104, 3) := by decide +kernel
theorem dX12_byScores_14 : decode cX12_byScores 14 = .ok (.iload_n 3, 1) := by decide +kernel
theorem dX12_byScores_15 : decode cX12_byScores 15 = .ok (.iconst 0, 1) := by decide +kernel
theorem dX12_byScores_16 : decode cX12_byScores 16 = .ok (.iastore, 1) := by decide +kernel
theorem dX12_byScores_17 : decode cX12_byScores 17 = .ok (.iinc 3 1, 3) := by decide +kernel
theorem dX12_byScores_20 : decode cX12_byScores 20 = .ok (.goto (-18), 3) := by decide +kernel
theorem dX12_byScores_23 : decode cX12_byScores 23 = .ok (.iconst 0, 1) := by decide +kernel
theorem dX12_byScores_24 : decode cX12_byScores 24 = .ok (.istore_n 3, 1) := by decide +kernel
theorem dX12_byScores_25 : decode cX12_byScores 25 = .ok (.iload_n 3, 1) := by decide +kernel
theorem dX12_byScores_26 : decode cX12_byScores 26 = .ok (.aload_n 0, 1) := by decide +kernel
theorem dX12_byScores_27 : decode cX12_byScores 27 = .ok (.getfield 145, 3) := by decide +kernel
theorem dX12_byScores_30 : decode cX12_byScores 30 = .ok (.if_icmp .ge 134, 3) := by decide +kernel
theorem dX12_byScores_33 : decode cX12_byScores 33 = .ok (.aload_n 0, 1) := by decide +kernel
theorem dX12_byScores_34 : decode cX12_byScores 34 = .ok (.getfield 98, 3) := by decide +kernel
theorem dX12_byScores_37 : decode cX12_byScores 37 = .ok (.bipush 7, 2) := by decide +kernel
theorem dX12_byScores_39 : decode cX12_byScores 39 = .ok (.aload_n 0, 1) := by decide +kernel
theorem dX12_byScores_40 : decode cX12_byScores 40 = .ok (.getfield 17, 3) := by decide +kernel
theorem dX12_byScores_43 : decode cX12_byScores 43 = .ok (.iload_n 3, 1) := by decide +kernel
theorem dX12_byScores_44 : decode cX12_byScores 44 = .ok (.iaload, 1) := by decide +kernel
theorem dX12_byScores_45 : decode cX12_byScores 45 = .ok (.imul, 1) := by decide +kernel
theorem dX12_byScores_46 : decode cX12_byScores 46 = .ok (.iload_n 2, 1) := by decide +kernel
theorem dX12_byScores_47 : decode cX12_byScores 47 = .ok (.iadd, 1) := by decide +kernel
theorem dX12_byScores_48 : decode cX12_byScores 48 = .ok (.iaload, 1) := by decide +kernel
theorem dX12_byScores_49 : decode cX12_byScores 49 = .ok (.istore 4, 2) := by decide +kernel
theorem dX12_byScores_51 : decode cX12_byScores 51 = .ok (.iload 4, 2) := by decide +kernel
theorem dX12_byScores_53 : decode cX12_byScores 53 = .ok (.ifCond .ne 6, 3) := by decide +kernel
theorem dX12_byScores_56 : decode cX12_byScores 56 = .ok (.goto 102, 3) := by decide +kernel
theorem dX12_byScores_59 : decode cX12_byScores 59 = .ok (.iconst 0, 1) := by decide +kernel
theorem dX12_byScores_60 : decode cX12_byScores 60 = .ok (.istore 5, 2) := by decide +kernel
theorem dX12_byScores_62 : decode cX12_byScores 62 = .ok (.iload 5, 2) := by decide +kernel
theorem dX12_byScores_64 : decode cX12_byScores 64 = .ok (.aload_n 0, 1) := by decide +kernel
theorem dX12_byScores_65 : decode cX12_byScores 65 = .ok (.getfield 7, 3) := by decide +kernel
theorem dX12_byScores_68 : decode cX12_byScores 68 = .ok (.if_icmp .ge 90, 3) := by decide +kernel
theorem dX12_byScores_71 : decode cX12_byScores 71 = .ok (.iload 5, 2) := by decide +kernel
theorem dX12_byScores_73 : decode cX12_byScores 73 = .ok (.aload_n 0, 1) := by decide +kernel
theorem dX12_byScores_74 : decode cX12_byScores 74 = .ok (.iload_n 3, 1) := by decide +kernel
theorem dX12_byScores_75 : decode cX12_byScores 75 = .ok (.invokevirtual 298, 3) := by decide +kernel
theorem dX12_byScores_78 : decode cX12_byScores 78 = .ok (.if_icmp .ne 7, 3) := by decide +kernel
theorem dX12_byScores_81 : decode cX12_byScores 81 = .ok (.iconst 1, 1) := by decide +kernel
theorem dX12_byScores_82 : decode cX12_byScores 82 = .ok (.goto 4, 3) := by decide +kernel
theorem dX12_byScores_85 : decode cX12_byScores 85 = .ok (.iconst 0, 1) := by decide +kernel
theorem dX12_byScores_86 : decode cX12_byScores 86 = .ok (.istore 6, 2) := by decide +kernel
theorem dX12_byScores_88 : decode cX12_byScores 88 = .ok (.iload_n 1, 1) := by decide +kernel
theorem dX12_byScores_89 : decode cX12_byScores 89 = .ok (.iconst 4, 1) := by decide +kernel
theorem dX12_byScores_90 : decode cX12_byScores 90 = .ok (.if_icmp .ne 31, 3) := by decide +kernel
theorem dX12_byScores_93 : decode cX12_byScores 93 = .ok (.aload_n 0, 1) := by decide +kernel
theorem dX12_byScores_94 : decode cX12_byScores 94 = .ok (.getfield 104, 3) := by decide +kernel
theorem dX12_byScores_97 : decode cX12_byScores 97 = .ok (.iload 5, 2) := by decide +kernel
theorem dX12_byScores_99 : decode cX12_byScores 99 = .ok (.aload_n 0, 1) := by decide +kernel
theorem dX12_byScores_100 : decode cX12_byScores 100 = .ok (.getfield 104, 3) := by decide +kernel
theorem dX12_byScores_103 : decode cX12_byScores 103 = .ok (.iload 5, 2) := by decide +kernel
theorem dX12_byScores_105 : decode cX12_byScores 105 = .ok (.iaload, 1) := by decide +kernel
theorem dX12_byScores_106 : decode cX12_byScores 106 = .ok (.iload 4, 2) := by decide +kernel
theorem dX12_byScores_108 : decode cX12_byScores 108 = .ok (.aload_n 0, 1) := by decide +kernel
theorem dX12_byScores_109 : decode cX12_byScores 109 = .ok (.iload_n 3, 1) := by decide +kernel
theorem dX12_byScores_110 : decode cX12_byScores 110 = .ok (.iload 5, 2) := by decide +kernel
theorem dX12_byScores_112 : decode cX12_byScores 112 = .ok (.invokevirtual 295, 3) := by decide +kernel
theorem dX12_byScores_115 : decode cX12_byScores 115 = .ok (.imul, 1) := by decide +kernel
theorem dX12_byScores_116 : decode cX12_byScores 116 = .ok (.iadd, 1) := by decide +kernel
theorem dX12_byScores_117 : decode cX12_byScores 117 = .ok (.iastore, 1) := by decide +kernel
theorem dX12_byScores_118 : decode cX12_byScores 118 = .ok (.goto 34, 3) := by decide +kernel
theorem dX12_byScores_121 : decode cX12_byScores 121 = .ok (.iload 6, 2) := by decide +kernel
theorem dX12_byScores_123 : decode cX12_byScores 123 = .ok (.ifCond .eq 29, 3) := by decide +kernel
theorem dX12_byScores_126 : decode cX12_byScores 126 = .ok (.aload_n 0, 1) := by decide +kernel
theorem dX12_byScores_127 : decode cX12_byScores 127 = .ok (.getfield 104, 3) := by decide +kernel
theorem dX12_byScores_130 : decode cX12_byScores 130 = .ok (.iload 5, 2) := by decide +kernel
theorem dX12_byScores_132 : decode cX12_byScores 132 = .ok (.aload_n 0, 1) := by decide +kernel
theorem dX12_byScores_133 : decode cX12_byScores 133 = .ok (.getfield 104, 3) := by decide +kernel
theorem dX12_byScores_136 : decode cX12_byScores 136 = .ok (.iload 5, 2) := by decide +kernel
theorem dX12_byScores_138 : decode cX12_byScores 138 = .ok (.iaload, 1) := by decide +kernel
theorem dX12_byScores_139 : decode cX12_byScores 139 = .ok (.iload_n 1, 1) := by decide +kernel
theorem dX12_byScores_140 : decode cX12_byScores 140 = .ok (.iconst 2, 1) := by decide +kernel
theorem dX12_byScores_141 : decode cX12_byScores 141 = .ok (.if_icmp .ne 7, 3) := by decide +kernel
theorem dX12_byScores_144 : decode cX12_byScores 144 = .ok (.iconst 1, 1) := by decide +kernel
theorem dX12_byScores_145 : decode cX12_byScores 145 = .ok (.goto 5, 3) := by decide +kernel
theorem dX12_byScores_148 : decode cX12_byScores 148 = .ok (.iload 4, 2) := by decide +kernel
theorem dX12_byScores_150 : decode cX12_byScores 150 = .ok (.iadd, 1) := by decide +kernel
theorem dX12_byScores_151 : decode cX12_byScores 151 = .ok (.iastore, 1) := by decide +kernel
theorem dX12_byScores_152 : decode cX12_byScores 152 = .ok (.iinc 5 1, 3) := by decide +kernel
theorem dX12_byScores_155 : decode cX12_byScores 155 = .ok (.goto (-93), 3) := by decide +kernel
theorem dX12_byScores_158 : decode cX12_byScores 158 = .ok (.iinc 3 1, 3) := by decide +kernel
theorem dX12_byScores_161 : decode cX12_byScores 161 = .ok (.goto (-136), 3) := by decide +kernel
theorem dX12_byScores_164 : decode cX12_byScores 164 = .ok (.aload_n 0, 1) := by decide +kernel
theorem dX12_byScores_165 : decode cX12_byScores 165 = .ok (.invokevirtual 301, 3) := by decide +kernel
theorem dX12_byScores_168 : decode cX12_byScores 168 = .ok (.ireturn, 1) := by decide +kernel
theorem dX12_methodFor_0 : decode cX12_methodFor 0 = .ok (.aload_n 0, 1) := by decide +kernel
theorem dX12_methodFor_1 : decode cX12_methodFor 1 = .ok (.getfield 92, 3) := by decide +kernel
theorem dX12_methodFor_4 : decode cX12_methodFor 4 = .ok (.iconst 0, 1) := by decide +kernel
theorem dX12_methodFor_5 : decode cX12_methodFor 5 = .ok (.iload_n 1, 1) := by decide +kernel
theorem dX12_methodFor_6 : decode cX12_methodFor 6 = .ok (.iastore, 1) := by decide +kernel
theorem dX12_methodFor_7 : decode cX12_methodFor 7 = .ok (.aload_n 0, 1) := by decide +kernel
theorem dX12_methodFor_8 : decode cX12_methodFor 8 = .ok (.getfield 92, 3) := by decide +kernel
theorem dX12_methodFor_11 : decode cX12_methodFor 11 = .ok (.iconst 1, 1) := by decide +kernel
theorem dX12_methodFor_12 : decode cX12_methodFor 12 = .ok (.iload_n 2, 1) := by decide +kernel
theorem dX12_methodFor_13 : decode cX12_methodFor 13 = .ok (.iastore, 1) := by decide +kernel
theorem dX12_methodFor_14 : decode cX12_methodFor 14 = .ok (.aload_n 0, 1) := by decide +kernel
theorem dX12_methodFor_15 : decode cX12_methodFor 15 = .ok (.getfield 92, 3) := by decide +kernel
theorem dX12_methodFor_18 : decode cX12_methodFor 18 = .ok (.iconst 2, 1) := by decide +kernel
theorem dX12_methodFor_19 : decode cX12_methodFor 19 = .ok (.iload_n 3, 1) := by decide +kernel
theorem dX12_methodFor_20 : decode cX12_methodFor 20 = .ok (.iastore, 1) := by decide +kernel
theorem dX12_methodFor_21 : decode cX12_methodFor 21 = .ok (.aload_n 0, 1) := by decide +kernel
theorem dX12_methodFor_22 : decode cX12_methodFor 22 = .ok (.getfield 92, 3) := by decide +kernel
theorem dX12_methodFor_25 : decode cX12_methodFor 25 = .ok (.iconst 3, 1) := by decide +kernel
theorem dX12_methodFor_26 : decode cX12_methodFor 26 = .ok (.iload 4, 2) := by decide +kernel
theorem dX12_methodFor_28 : decode cX12_methodFor 28 = .ok (.iastore, 1) := by decide +kernel
theorem dX12_methodFor_29 : decode cX12_methodFor 29 = .ok (.aload_n 0, 1) := by decide +kernel
theorem dX12_methodFor_30 : decode cX12_methodFor 30 = .ok (.getfield 92, 3) := by decide +kernel
theorem dX12_methodFor_33 : decode cX12_methodFor 33 = .ok (.iconst 4, 1) := by decide +kernel
theorem dX12_methodFor_34 : decode cX12_methodFor 34 = .ok (.aload_n 0, 1) := by decide +kernel
theorem dX12_methodFor_35 : decode cX12_methodFor 35 = .ok (.getfield 62, 3) := by decide +kernel
theorem dX12_methodFor_38 : decode cX12_methodFor 38 = .ok (.iconst 0, 1) := by decide +kernel
theorem dX12_methodFor_39 : decode cX12_methodFor 39 = .ok (.iload_n 1, 1) := by decide +kernel
theorem dX12_methodFor_40 : decode cX12_methodFor 40 = .ok (.iadd, 1) := by decide +kernel
theorem dX12_methodFor_41 : decode cX12_methodFor 41 = .ok (.iaload, 1) := by decide +kernel
theorem dX12_methodFor_42 : decode cX12_methodFor 42 = .ok (.iastore, 1) := by decide +kernel
theorem dX12_methodFor_43 : decode cX12_methodFor 43 = .ok (.aload_n 0, 1) := by decide +kernel
theorem dX12_methodFor_44 : decode cX12_methodFor 44 = .ok (.getfield 92, 3) := by decide +kernel
theorem dX12_methodFor_47 : decode cX12_methodFor 47 = .ok (.iconst 5, 1) := by decide +kernel
theorem dX12_methodFor_48 : decode cX12_methodFor 48 = .ok (.aload_n 0, 1) := by decide +kernel
theorem dX12_methodFor_49 : decode cX12_methodFor 49 = .ok (.getfield 155, 3) := by decide +kernel
theorem dX12_methodFor_52 : decode cX12_methodFor 52 = .ok (.iastore, 1) := by decide +kernel
theorem dX12_methodFor_53 : decode cX12_methodFor 53 = .ok (.iconst 0, 1) := by decide +kernel
theorem dX12_methodFor_54 : decode cX12_methodFor 54 = .ok (.istore 5, 2) := by decide +kernel
theorem dX12_methodFor_56 : decode cX12_methodFor 56 = .ok (.iload 5, 2) := by decide +kernel
theorem dX12_methodFor_58 : decode cX12_methodFor 58 = .ok (.aload_n 0, 1) := by decide +kernel
theorem dX12_methodFor_59 : decode cX12_methodFor 59 = .ok (.getfield 161, 3) := by decide +kernel
theorem dX12_methodFor_62 : decode cX12_methodFor 62 = .ok (.if_icmp .ge 27, 3) := by decide +kernel
theorem dX12_methodFor_65 : decode cX12_methodFor 65 = .ok (.aload_n 0, 1) := by decide +kernel
theorem dX12_methodFor_66 : decode cX12_methodFor 66 = .ok (.iconst 0, 1) := by decide +kernel
theorem dX12_methodFor_67 : decode cX12_methodFor 67 = .ok (.iload 5, 2) := by decide +kernel
theorem dX12_methodFor_69 : decode cX12_methodFor 69 = .ok (.invokevirtual 304, 3) := by decide +kernel
theorem dX12_methodFor_72 : decode cX12_methodFor 72 = .ok (.ifCond .eq 11, 3) := by decide +kernel
theorem dX12_methodFor_75 : decode cX12_methodFor 75 = .ok (.aload_n 0, 1) := by decide +kernel
theorem dX12_methodFor_76 : decode cX12_methodFor 76 = .ok (.getfield 71, 3) := by decide +kernel
theorem dX12_methodFor_79 : decode cX12_methodFor 79 = .ok (.iload 5, 2) := by decide +kernel
theorem dX12_methodFor_81 : decode cX12_methodFor 81 = .ok (.iaload, 1) := by decide +kernel
theorem dX12_methodFor_82 : decode cX12_methodFor 82 = .ok (.ireturn, 1) := by decide +kernel
theorem dX12_methodFor_83 : decode cX12_methodFor 83 = .ok (.iinc 5 1, 3) := by decide +kernel
theorem dX12_methodFor_86 : decode cX12_methodFor 86 = .ok (.goto (-30), 3) := by decide +kernel
theorem dX12_methodFor_89 : decode cX12_methodFor 89 = .ok (.bipush 6, 2) := by decide +kernel
theorem dX12_methodFor_91 : decode cX12_methodFor 91 = .ok (.ireturn, 1) := by decide +kernel
theorem dX12_judgedColour_0 : decode cX12_judgedColour 0 = .ok (.iconst 0, 1) := by decide +kernel
theorem dX12_judgedColour_1 : decode cX12_judgedColour 1 = .ok (.istore_n 2, 1) := by decide +kernel
theorem dX12_judgedColour_2 : decode cX12_judgedColour 2 = .ok (.iconst 0, 1) := by decide +kernel
theorem dX12_judgedColour_3 : decode cX12_judgedColour 3 = .ok (.istore_n 3, 1) := by decide +kernel
theorem dX12_judgedColour_4 : decode cX12_judgedColour 4 = .ok (.iconst (-1), 1) := by decide +kernel
theorem dX12_judgedColour_5 : decode cX12_judgedColour 5 = .ok (.istore 4, 2) := by decide +kernel
theorem dX12_judgedColour_7 : decode cX12_judgedColour 7 = .ok (.iconst 0, 1) := by decide +kernel
theorem dX12_judgedColour_8 : decode cX12_judgedColour 8 = .ok (.istore 5, 2) := by decide +kernel
theorem dX12_judgedColour_10 : decode cX12_judgedColour 10 = .ok (.iconst 0, 1) := by decide +kernel
theorem dX12_judgedColour_11 : decode cX12_judgedColour 11 = .ok (.istore 6, 2) := by decide +kernel
theorem dX12_judgedColour_13 : decode cX12_judgedColour 13 = .ok (.iload 6, 2) := by decide +kernel
theorem dX12_judgedColour_15 : decode cX12_judgedColour 15 = .ok (.aload_n 0, 1) := by decide +kernel
theorem dX12_judgedColour_16 : decode cX12_judgedColour 16 = .ok (.getfield 145, 3) := by decide +kernel
theorem dX12_judgedColour_19 : decode cX12_judgedColour 19 = .ok (.if_icmp .ge 72, 3) := by decide +kernel
theorem dX12_judgedColour_22 : decode cX12_judgedColour 22 = .ok (.aload_n 0, 1) := by decide +kernel
theorem dX12_judgedColour_23 : decode cX12_judgedColour 23 = .ok (.getfield 98, 3) := by decide +kernel
theorem dX12_judgedColour_26 : decode cX12_judgedColour 26 = .ok (.bipush 7, 2) := by decide +kernel
theorem dX12_judgedColour_28 : decode cX12_judgedColour 28 = .ok (.aload_n 0, 1) := by decide +kernel
theorem dX12_judgedColour_29 : decode cX12_judgedColour 29 = .ok (.getfield 17, 3) := by decide +kernel
theorem dX12_judgedColour_32 : decode cX12_judgedColour 32 = .ok (.iload 6, 2) := by decide +kernel
theorem dX12_judgedColour_34 : decode cX12_judgedColour 34 = .ok (.iaload, 1) := by decide +kernel
theorem dX12_judgedColour_35 : decode cX12_judgedColour 35 = .ok (.imul, 1) := by decide +kernel
theorem dX12_judgedColour_36 : decode cX12_judgedColour 36 = .ok (.iload_n 1, 1) := by decide +kernel
theorem dX12_judgedColour_37 : decode cX12_judgedColour 37 = .ok (.iadd, 1) := by decide +kernel
theorem dX12_judgedColour_38 : decode cX12_judgedColour 38 = .ok (.iaload, 1) := by decide +kernel
theorem dX12_judgedColour_39 : decode cX12_judgedColour 39 = .ok (.istore 7, 2) := by decide +kernel
theorem dX12_judgedColour_41 : decode cX12_judgedColour 41 = .ok (.iload 7, 2) := by decide +kernel
theorem dX12_judgedColour_43 : decode cX12_judgedColour 43 = .ok (.ifCond .ne 6, 3) := by decide +kernel
theorem dX12_judgedColour_46 : decode cX12_judgedColour 46 = .ok (.goto 39, 3) := by decide +kernel
theorem dX12_judgedColour_49 : decode cX12_judgedColour 49 = .ok (.iload_n 2, 1) := by decide +kernel
theorem dX12_judgedColour_50 : decode cX12_judgedColour 50 = .ok (.iconst 1, 1) := by decide +kernel
theorem dX12_judgedColour_51 : decode cX12_judgedColour 51 = .ok (.iadd, 1) := by decide +kernel
theorem dX12_judgedColour_52 : decode cX12_judgedColour 52 = .ok (.istore_n 2, 1) := by decide +kernel
theorem dX12_judgedColour_53 : decode cX12_judgedColour 53 = .ok (.iload_n 3, 1) := by decide +kernel
theorem dX12_judgedColour_54 : decode cX12_judgedColour 54 = .ok (.iload 7, 2) := by decide +kernel
theorem dX12_judgedColour_56 : decode cX12_judgedColour 56 = .ok (.iadd, 1) := by decide +kernel
theorem dX12_judgedColour_57 : decode cX12_judgedColour 57 = .ok (.istore_n 3, 1) := by decide +kernel
theorem dX12_judgedColour_58 : decode cX12_judgedColour 58 = .ok (.iload 7, 2) := by decide +kernel
theorem dX12_judgedColour_60 : decode cX12_judgedColour 60 = .ok (.iload 5, 2) := by decide +kernel
theorem dX12_judgedColour_62 : decode cX12_judgedColour 62 = .ok (.if_icmp .le 7, 3) := by decide +kernel
theorem dX12_judgedColour_65 : decode cX12_judgedColour 65 = .ok (.iload 6, 2) := by decide +kernel
theorem dX12_judgedColour_67 : decode cX12_judgedColour 67 = .ok (.istore 4, 2) := by decide +kernel
theorem dX12_judgedColour_69 : decode cX12_judgedColour 69 = .ok (.iload 7, 2) := by decide +kernel
theorem dX12_judgedColour_71 : decode cX12_judgedColour 71 = .ok (.iload 5, 2) := by decide +kernel
theorem dX12_judgedColour_73 : decode cX12_judgedColour 73 = .ok (.if_icmp .le 8, 3) := by decide +kernel
theorem dX12_judgedColour_76 : decode cX12_judgedColour 76 = .ok (.iload 7, 2) := by decide +kernel
theorem dX12_judgedColour_78 : decode cX12_judgedColour 78 = .ok (.goto 5, 3) := by decide +kernel
theorem dX12_judgedColour_81 : decode cX12_judgedColour 81 = .ok (.iload 5, 2) := by decide +kernel
theorem dX12_judgedColour_83 : decode cX12_judgedColour 83 = .ok (.istore 5, 2) := by decide +kernel
theorem dX12_judgedColour_85 : decode cX12_judgedColour 85 = .ok (.iinc 6 1, 3) := by decide +kernel
theorem dX12_judgedColour_88 : decode cX12_judgedColour 88 = .ok (.goto (-75), 3) := by decide +kernel
theorem dX12_judgedColour_91 : decode cX12_judgedColour 91 = .ok (.iload_n 2, 1) := by decide +kernel
theorem dX12_judgedColour_92 : decode cX12_judgedColour 92 = .ok (.ifCond .ne 12, 3) := by decide +kernel
theorem dX12_judgedColour_95 : decode cX12_judgedColour 95 = .ok (.aload_n 0, 1) := by decide +kernel
theorem dX12_judgedColour_96 : decode cX12_judgedColour 96 = .ok (.getfield 62, 3) := by decide +kernel
theorem dX12_judgedColour_99 : decode cX12_judgedColour 99 = .ok (.iconst 0, 1) := by decide +kernel
theorem dX12_judgedColour_100 : decode cX12_judgedColour 100 = .ok (.iload_n 1, 1) := by decide +kernel
theorem dX12_judgedColour_101 : decode cX12_judgedColour 101 = .ok (.iadd, 1) := by decide +kernel
theorem dX12_judgedColour_102 : decode cX12_judgedColour 102 = .ok (.iaload, 1) := by decide +kernel
theorem dX12_judgedColour_103 : decode cX12_judgedColour 103 = .ok (.ireturn, 1) := by decide +kernel
theorem dX12_judgedColour_104 : decode cX12_judgedColour 104 = .ok (.aload_n 0, 1) := by decide +kernel
theorem dX12_judgedColour_105 : decode cX12_judgedColour 105 = .ok (.iload_n 1, 1) := by decide +kernel
theorem dX12_judgedColour_106 : decode cX12_judgedColour 106 = .ok (.iload_n 2, 1) := by decide +kernel
theorem dX12_judgedColour_107 : decode cX12_judgedColour 107 = .ok (.iload_n 3, 1) := by decide +kernel
theorem dX12_judgedColour_108 : decode cX12_judgedColour 108 = .ok (.iload 5, 2) := by decide +kernel
theorem dX12_judgedColour_110 : decode cX12_judgedColour 110 = .ok (.invokevirtual 308, 3) := by decide +kernel
theorem dX12_judgedColour_113 : decode cX12_judgedColour 113 = .ok (.istore 6, 2) := by decide +kernel
theorem dX12_judgedColour_115 : decode cX12_judgedColour 115 = .ok (.iload 6, 2) := by decide +kernel
theorem dX12_judgedColour_117 : decode cX12_judgedColour 117 = .ok (.bipush 6, 2) := by decide +kernel
theorem dX12_judgedColour_119 : decode cX12_judgedColour 119 = .ok (.if_icmp .ne 12, 3) := by decide +kernel
theorem dX12_judgedColour_122 : decode cX12_judgedColour 122 = .ok (.aload_n 0, 1) := by decide +kernel
theorem dX12_judgedColour_123 : decode cX12_judgedColour 123 = .ok (.getfield 62, 3) := by decide +kernel
theorem dX12_judgedColour_126 : decode cX12_judgedColour 126 = .ok (.iconst 0, 1) := by decide +kernel
theorem dX12_judgedColour_127 : decode cX12_judgedColour 127 = .ok (.iload_n 1, 1) := by decide +kernel
theorem dX12_judgedColour_128 : decode cX12_judgedColour 128 = .ok (.iadd, 1) := by decide +kernel
theorem dX12_judgedColour_129 : decode cX12_judgedColour 129 = .ok (.iaload, 1) := by decide +kernel
theorem dX12_judgedColour_130 : decode cX12_judgedColour 130 = .ok (.ireturn, 1) := by decide +kernel
theorem dX12_judgedColour_131 : decode cX12_judgedColour 131 = .ok (.iload 6, 2) := by decide +kernel
theorem dX12_judgedColour_133 : decode cX12_judgedColour 133 = .ok (.iconst 1, 1) := by decide +kernel
theorem dX12_judgedColour_134 : decode cX12_judgedColour 134 = .ok (.if_icmp .ne 10, 3) := by decide +kernel
theorem dX12_judgedColour_137 : decode cX12_judgedColour 137 = .ok (.aload_n 0, 1) := by decide +kernel
theorem dX12_judgedColour_138 : decode cX12_judgedColour 138 = .ok (.iload 4, 2) := by decide +kernel
theorem dX12_judgedColour_140 : decode cX12_judgedColour 140 = .ok (.invokevirtual 298, 3) := by decide +kernel
theorem dX12_judgedColour_143 : decode cX12_judgedColour 143 = .ok (.ireturn, 1) := by decide +kernel
theorem dX12_judgedColour_144 : decode cX12_judgedColour 144 = .ok (.iload 6, 2) := by decide +kernel
theorem dX12_judgedColour_146 : decode cX12_judgedColour 146 = .ok (.iconst 5, 1) := by decide +kernel
theorem dX12_judgedColour_147 : decode cX12_judgedColour 147 = .ok (.if_icmp .eq 11, 3) := by decide +kernel
theorem dX12_judgedColour_150 : decode cX12_judgedColour 150 = .ok (.aload_n 0, 1) := by decide +kernel
theorem dX12_judgedColour_151 : decode cX12_judgedColour 151 = .ok (.iload 6, 2) := by decide +kernel
theorem dX12_judgedColour_153 : decode cX12_judgedColour 153 = .ok (.iload_n 1, 1) := by decide +kernel
theorem dX12_judgedColour_154 : decode cX12_judgedColour 154 = .ok (.invokevirtual 312, 3) := by decide +kernel
theorem dX12_judgedColour_157 : decode cX12_judgedColour 157 = .ok (.ireturn, 1) := by decide +kernel
theorem dX12_judgedColour_158 : decode cX12_judgedColour 158 = .ok (.aload_n 0, 1) := by decide +kernel
theorem dX12_judgedColour_159 : decode cX12_judgedColour 159 = .ok (.getfield 155, 3) := by decide +kernel
theorem dX12_judgedColour_162 : decode cX12_judgedColour 162 = .ok (.iload_n 1, 1) := by decide +kernel
theorem dX12_judgedColour_163 : decode cX12_judgedColour 163 = .ok (.iadd, 1) := by decide +kernel
theorem dX12_judgedColour_164 : decode cX12_judgedColour 164 = .ok (.aload_n 0, 1) := by decide +kernel
theorem dX12_judgedColour_165 : decode cX12_judgedColour 165 = .ok (.getfield 145, 3) := by decide +kernel
theorem dX12_judgedColour_168 : decode cX12_judgedColour 168 = .ok (.irem, 1) := by decide +kernel
theorem dX12_judgedColour_169 : decode cX12_judgedColour 169 = .ok (.istore 7, 2) := by decide +kernel
theorem dX12_judgedColour_171 : decode cX12_judgedColour 171 = .ok (.aload_n 0, 1) := by decide +kernel
theorem dX12_judgedColour_172 : decode cX12_judgedColour 172 = .ok (.getfield 98, 3) := by decide +kernel
theorem dX12_judgedColour_175 : decode cX12_judgedColour 175 = .ok (.bipush 7, 2) := by decide +kernel
theorem dX12_judgedColour_177 : decode cX12_judgedColour 177 = .ok (.aload_n 0, 1) := by decide +kernel
theorem dX12_judgedColour_178 : decode cX12_judgedColour 178 = .ok (.getfield 17, 3) := by decide +kernel
theorem dX12_judgedColour_181 : decode cX12_judgedColour 181 = .ok (.iload 7, 2) := by decide +kernel
theorem dX12_judgedColour_183 : decode cX12_judgedColour 183 = .ok (.iaload, 1) := by decide +kernel
theorem dX12_judgedColour_184 : decode cX12_judgedColour 184 = .ok (.imul, 1) := by decide +kernel
theorem dX12_judgedColour_185 : decode cX12_judgedColour 185 = .ok (.iload_n 1, 1) := by decide +kernel
theorem dX12_judgedColour_186 : decode cX12_judgedColour 186 = .ok (.iadd, 1) := by decide +kernel
theorem dX12_judgedColour_187 : decode cX12_judgedColour 187 = .ok (.iaload, 1) := by decide +kernel
theorem dX12_judgedColour_188 : decode cX12_judgedColour 188 = .ok (.ifCond .le 12, 3) := by decide +kernel
theorem dX12_judgedColour_191 : decode cX12_judgedColour 191 = .ok (.aload_n 0, 1) := by decide +kernel
theorem dX12_judgedColour_192 : decode cX12_judgedColour 192 = .ok (.iload 7, 2) := by decide +kernel
theorem dX12_judgedColour_194 : decode cX12_judgedColour 194 = .ok (.invokevirtual 298, 3) := by decide +kernel
theorem dX12_judgedColour_197 : decode cX12_judgedColour 197 = .ok (.goto 11, 3) := by decide +kernel
theorem dX12_judgedColour_200 : decode cX12_judgedColour 200 = .ok (.aload_n 0, 1) := by decide +kernel
theorem dX12_judgedColour_201 : decode cX12_judgedColour 201 = .ok (.getfield 62, 3) := by decide +kernel
theorem dX12_judgedColour_204 : decode cX12_judgedColour 204 = .ok (.iconst 0, 1) := by decide +kernel
theorem dX12_judgedColour_205 : decode cX12_judgedColour 205 = .ok (.iload_n 1, 1) := by decide +kernel
theorem dX12_judgedColour_206 : decode cX12_judgedColour 206 = .ok (.iadd, 1) := by decide +kernel
theorem dX12_judgedColour_207 : decode cX12_judgedColour 207 = .ok (.iaload, 1) := by decide +kernel
theorem dX12_judgedColour_208 : decode cX12_judgedColour 208 = .ok (.ireturn, 1) := by decide +kernel
theorem dX12_judges_0 : decode cX12_judges 0 = .ok (.aload_n 0, 1) := by decide +kernel
theorem dX12_judges_1 : decode cX12_judges 1 = .ok (.invokevirtual 286, 3) := by decide +kernel
theorem dX12_judges_4 : decode cX12_judges 4 = .ok (.iconst 0, 1) := by decide +kernel
theorem dX12_judges_5 : decode cX12_judges 5 = .ok (.istore_n 2, 1) := by decide +kernel
theorem dX12_judges_6 : decode cX12_judges 6 = .ok (.iload_n 2, 1) := by decide +kernel
theorem dX12_judges_7 : decode cX12_judges 7 = .ok (.aload_n 0, 1) := by decide +kernel
theorem dX12_judges_8 : decode cX12_judges 8 = .ok (.getfield 142, 3) := by decide +kernel
theorem dX12_judges_11 : decode cX12_judges 11 = .ok (.if_icmp .ge 22, 3) := by decide +kernel
theorem dX12_judges_14 : decode cX12_judges 14 = .ok (.aload_n 0, 1) := by decide +kernel
theorem dX12_judges_15 : decode cX12_judges 15 = .ok (.getfield 62, 3) := by decide +kernel
theorem dX12_judges_18 : decode cX12_judges 18 = .ok (.iload_n 1, 1) := by decide +kernel
theorem dX12_judges_19 : decode cX12_judges 19 = .ok (.iload_n 2, 1) := by decide +kernel
theorem dX12_judges_20 : decode cX12_judges 20 = .ok (.iadd, 1) := by decide +kernel
theorem dX12_judges_21 : decode cX12_judges 21 = .ok (.aload_n 0, 1) := by decide +kernel
theorem dX12_judges_22 : decode cX12_judges 22 = .ok (.iload_n 2, 1) := by decide +kernel
theorem dX12_judges_23 : decode cX12_judges 23 = .ok (.invokevirtual 315, 3) := by decide +kernel
theorem dX12_judges_26 : decode cX12_judges 26 = .ok (.iastore, 1) := by decide +kernel
theorem dX12_judges_27 : decode cX12_judges 27 = .ok (.iinc 2 1, 3) := by decide +kernel
theorem dX12_judges_30 : decode cX12_judges 30 = .ok (.goto (-24), 3) := by decide +kernel
theorem dX12_judges_33 : decode cX12_judges 33 = .ok (.return_, 1) := by decide +kernel
theorem dX12_gains_0 : decode cX12_gains 0 = .ok (.aload_n 0, 1) := by decide +kernel
theorem dX12_gains_1 : decode cX12_gains 1 = .ok (.iconst 0, 1) := by decide +kernel
theorem dX12_gains_2 : decode cX12_gains 2 = .ok (.putfield 134, 3) := by decide +kernel
theorem dX12_gains_5 : decode cX12_gains 5 = .ok (.aload_n 0, 1) := by decide +kernel
theorem dX12_gains_6 : decode cX12_gains 6 = .ok (.iload_n 1, 1) := by decide +kernel
theorem dX12_gains_7 : decode cX12_gains 7 = .ok (.invokevirtual 175, 3) := by decide +kernel
theorem dX12_gains_10 : decode cX12_gains 10 = .ok (.ifCond .eq 13, 3) := by decide +kernel
theorem dX12_gains_13 : decode cX12_gains 13 = .ok (.aload_n 0, 1) := by decide +kernel
theorem dX12_gains_14 : decode cX12_gains 14 = .ok (.iload_n 2, 1) := by decide +kernel
theorem dX12_gains_15 : decode cX12_gains 15 = .ok (.iconst 0, 1) := by decide +kernel
theorem dX12_gains_16 : decode cX12_gains 16 = .ok (.iconst 1, 1) := by decide +kernel
theorem dX12_gains_17 : decode cX12_gains 17 = .ok (.invokevirtual 148, 3) := by decide +kernel
theorem dX12_gains_20 : decode cX12_gains 20 = .ok (.ifCond .ne 7, 3) := by decide +kernel
theorem dX12_gains_23 : decode cX12_gains 23 = .ok (.ldc_w 285, 3) := by decide +kernel
theorem dX12_gains_26 : decode cX12_gains 26 = .ok (.ireturn, 1) := by decide +kernel
theorem dX12_gains_27 : decode cX12_gains 27 = .ok (.aload_n 0, 1) := by decide +kernel
theorem dX12_gains_28 : decode cX12_gains 28 = .ok (.bipush 7, 2) := by decide +kernel
theorem dX12_gains_30 : decode cX12_gains 30 = .ok (.invokevirtual 318, 3) := by decide +kernel
theorem dX12_gains_33 : decode cX12_gains 33 = .ok (.aload_n 0, 1) := by decide +kernel
theorem dX12_gains_34 : decode cX12_gains 34 = .ok (.iload_n 1, 1) := by decide +kernel
theorem dX12_gains_35 : decode cX12_gains 35 = .ok (.bipush 7, 2) := by decide +kernel
theorem dX12_gains_37 : decode cX12_gains 37 = .ok (.invokevirtual 289, 3) := by decide +kernel
theorem dX12_gains_40 : decode cX12_gains 40 = .ok (.istore_n 3, 1) := by decide +kernel
theorem dX12_gains_41 : decode cX12_gains 41 = .ok (.iconst (-1), 1) := by decide +kernel
theorem dX12_gains_42 : decode cX12_gains 42 = .ok (.istore 4, 2) := by decide +kernel
theorem dX12_gains_44 : decode cX12_gains 44 = .ok (.iconst 0, 1) := by decide +kernel
theorem dX12_gains_45 : decode cX12_gains 45 = .ok (.istore 5, 2) := by decide +kernel
theorem dX12_gains_47 : decode cX12_gains 47 = .ok (.iconst 0, 1) := by decide +kernel
theorem dX12_gains_48 : decode cX12_gains 48 = .ok (.istore 6, 2) := by decide +kernel
theorem dX12_gains_50 : decode cX12_gains 50 = .ok (.iload 6, 2) := by decide +kernel
theorem dX12_gains_52 : decode cX12_gains 52 = .ok (.aload_n 0, 1) := by decide +kernel
theorem dX12_gains_53 : decode cX12_gains 53 = .ok (.getfield 7, 3) := by decide +kernel
theorem dX12_gains_56 : decode cX12_gains 56 = .ok (.if_icmp .ge 60, 3) := by decide +kernel
theorem dX12_gains_59 : decode cX12_gains 59 = .ok (.aload_n 0, 1) := by decide +kernel
theorem dX12_gains_60 : decode cX12_gains 60 = .ok (.iload_n 1, 1) := by decide +kernel
theorem dX12_gains_61 : decode cX12_gains 61 = .ok (.putfield 101, 3) := by decide +kernel
theorem dX12_gains_64 : decode cX12_gains 64 = .ok (.aload_n 0, 1) := by decide +kernel
theorem dX12_gains_65 : decode cX12_gains 65 = .ok (.iload 6, 2) := by decide +kernel
theorem dX12_gains_67 : decode cX12_gains 67 = .ok (.putfield 292, 3) := by decide +kernel
theorem dX12_gains_70 : decode cX12_gains 70 = .ok (.aload_n 0, 1) := by decide +kernel
theorem dX12_gains_71 : decode cX12_gains 71 = .ok (.bipush 21, 2) := by decide +kernel
theorem dX12_gains_73 : decode cX12_gains 73 = .ok (.invokevirtual 318, 3) := by decide +kernel
theorem dX12_gains_76 : decode cX12_gains 76 = .ok (.aload_n 0, 1) := by decide +kernel
theorem dX12_gains_77 : decode cX12_gains 77 = .ok (.iconst (-1), 1) := by decide +kernel
theorem dX12_gains_78 : decode cX12_gains 78 = .ok (.putfield 101, 3) := by decide +kernel
theorem dX12_gains_81 : decode cX12_gains 81 = .ok (.aload_n 0, 1) := by decide +kernel
theorem dX12_gains_82 : decode cX12_gains 82 = .ok (.iload_n 1, 1) := by decide +kernel
theorem dX12_gains_83 : decode cX12_gains 83 = .ok (.bipush 21, 2) := by decide +kernel
theorem dX12_gains_85 : decode cX12_gains 85 = .ok (.invokevirtual 289, 3) := by decide +kernel
theorem dX12_gains_88 : decode cX12_gains 88 = .ok (.iload_n 3, 1) := by decide +kernel
theorem dX12_gains_89 : decode cX12_gains 89 = .ok (.isub, 1) := by decide +kernel
theorem dX12_gains_90 : decode cX12_gains 90 = .ok (.istore 7, 2) := by decide +kernel
theorem dX12_gains_92 : decode cX12_gains 92 = .ok (.iload 7, 2) := by decide +kernel
theorem dX12_gains_94 : decode cX12_gains 94 = .ok (.iload 5, 2) := by decide +kernel
theorem dX12_gains_96 : decode cX12_gains 96 = .ok (.if_icmp .gt 6, 3) := by decide +kernel
theorem dX12_gains_99 : decode cX12_gains 99 = .ok (.goto 11, 3) := by decide +kernel
theorem dX12_gains_102 : decode cX12_gains 102 = .ok (.iload 6, 2) := by decide +kernel
theorem dX12_gains_104 : decode cX12_gains 104 = .ok (.istore 4, 2) := by decide +kernel
theorem dX12_gains_106 : decode cX12_gains 106 = .ok (.iload 7, 2) := by decide +kernel
theorem dX12_gains_108 : decode cX12_gains 108 = .ok (.istore 5, 2) := by decide +kernel
theorem dX12_gains_110 : decode cX12_gains 110 = .ok (.iinc 6 1, 3) := by decide +kernel
theorem dX12_gains_113 : decode cX12_gains 113 = .ok (.goto (-63), 3) := by decide +kernel
theorem dX12_gains_116 : decode cX12_gains 116 = .ok (.iload_n 2, 1) := by decide +kernel
theorem dX12_gains_117 : decode cX12_gains 117 = .ok (.ifCond .ne 8, 3) := by decide +kernel
theorem dX12_gains_120 : decode cX12_gains 120 = .ok (.iload 4, 2) := by decide +kernel
theorem dX12_gains_122 : decode cX12_gains 122 = .ok (.goto 5, 3) := by decide +kernel
theorem dX12_gains_125 : decode cX12_gains 125 = .ok (.iload 5, 2) := by decide +kernel
theorem dX12_gains_127 : decode cX12_gains 127 = .ok (.ireturn, 1) := by decide +kernel
theorem dX12_potsOf_0 : decode cX12_potsOf 0 = .ok (.iconst 0, 1) := by decide +kernel
theorem dX12_potsOf_1 : decode cX12_potsOf 1 = .ok (.istore_n 2, 1) := by decide +kernel
theorem dX12_potsOf_2 : decode cX12_potsOf 2 = .ok (.iconst 0, 1) := by decide +kernel
theorem dX12_potsOf_3 : decode cX12_potsOf 3 = .ok (.istore_n 3, 1) := by decide +kernel
theorem dX12_potsOf_4 : decode cX12_potsOf 4 = .ok (.iload_n 3, 1) := by decide +kernel
theorem dX12_potsOf_5 : decode cX12_potsOf 5 = .ok (.aload_n 0, 1) := by decide +kernel
theorem dX12_potsOf_6 : decode cX12_potsOf 6 = .ok (.getfield 142, 3) := by decide +kernel
theorem dX12_potsOf_9 : decode cX12_potsOf 9 = .ok (.if_icmp .ge 22, 3) := by decide +kernel
theorem dX12_potsOf_12 : decode cX12_potsOf 12 = .ok (.iload_n 2, 1) := by decide +kernel
theorem dX12_potsOf_13 : decode cX12_potsOf 13 = .ok (.iconst 1, 1) := by decide +kernel
theorem dX12_potsOf_14 : decode cX12_potsOf 14 = .ok (.aload_n 0, 1) := by decide +kernel
theorem dX12_potsOf_15 : decode cX12_potsOf 15 = .ok (.getfield 62, 3) := by decide +kernel
theorem dX12_potsOf_18 : decode cX12_potsOf 18 = .ok (.iload_n 1, 1) := by decide +kernel
theorem dX12_potsOf_19 : decode cX12_potsOf 19 = .ok (.iload_n 3, 1) := by decide +kernel
theorem dX12_potsOf_20 : decode cX12_potsOf 20 = .ok (.iadd, 1) := by decide +kernel
theorem dX12_potsOf_21 : decode cX12_potsOf 21 = .ok (.iaload, 1) := by decide +kernel
theorem dX12_potsOf_22 : decode cX12_potsOf 22 = .ok (.ishl, 1) := by decide +kernel
theorem dX12_potsOf_23 : decode cX12_potsOf 23 = .ok (.ior, 1) := by decide +kernel
theorem dX12_potsOf_24 : decode cX12_potsOf 24 = .ok (.istore_n 2, 1) := by decide +kernel
theorem dX12_potsOf_25 : decode cX12_potsOf 25 = .ok (.iinc 3 1, 3) := by decide +kernel
theorem dX12_potsOf_28 : decode cX12_potsOf 28 = .ok (.goto (-24), 3) := by decide +kernel
theorem dX12_potsOf_31 : decode cX12_potsOf 31 = .ok (.iconst 0, 1) := by decide +kernel
theorem dX12_potsOf_32 : decode cX12_potsOf 32 = .ok (.istore_n 3, 1) := by decide +kernel
theorem dX12_potsOf_33 : decode cX12_potsOf 33 = .ok (.iconst 0, 1) := by decide +kernel
theorem dX12_potsOf_34 : decode cX12_potsOf 34 = .ok (.istore 4, 2) := by decide +kernel
theorem dX12_potsOf_36 : decode cX12_potsOf 36 = .ok (.iload 4, 2) := by decide +kernel
theorem dX12_potsOf_38 : decode cX12_potsOf 38 = .ok (.aload_n 0, 1) := by decide +kernel
theorem dX12_potsOf_39 : decode cX12_potsOf 39 = .ok (.getfield 7, 3) := by decide +kernel
theorem dX12_potsOf_42 : decode cX12_potsOf 42 = .ok (.if_icmp .ge 29, 3) := by decide +kernel
theorem dX12_potsOf_45 : decode cX12_potsOf 45 = .ok (.iload_n 2, 1) := by decide +kernel
theorem dX12_potsOf_46 : decode cX12_potsOf 46 = .ok (.iload 4, 2) := by decide +kernel
theorem dX12_potsOf_48 : decode cX12_potsOf 48 = .ok (.ishr, 1) := by decide +kernel
theorem dX12_potsOf_49 : decode cX12_potsOf 49 = .ok (.iconst 1, 1) := by decide +kernel
theorem dX12_potsOf_50 : decode cX12_potsOf 50 = .ok (.iand, 1) := by decide +kernel
theorem dX12_potsOf_51 : decode cX12_potsOf 51 = .ok (.iconst 1, 1) := by decide +kernel
theorem dX12_potsOf_52 : decode cX12_potsOf 52 = .ok (.if_icmp .ne 13, 3) := by decide +kernel
theorem dX12_potsOf_55 : decode cX12_potsOf 55 = .ok (.iload_n 3, 1) := by decide +kernel
theorem dX12_potsOf_56 : decode cX12_potsOf 56 = .ok (.aload_n 0, 1) := by decide +kernel
theorem dX12_potsOf_57 : decode cX12_potsOf 57 = .ok (.getfield 13, 3) := by decide +kernel
theorem dX12_potsOf_60 : decode cX12_potsOf 60 = .ok (.iload 4, 2) := by decide +kernel
theorem dX12_potsOf_62 : decode cX12_potsOf 62 = .ok (.iaload, 1) := by decide +kernel
theorem dX12_potsOf_63 : decode cX12_potsOf 63 = .ok (.iadd, 1) := by decide +kernel
theorem dX12_potsOf_64 : decode cX12_potsOf 64 = .ok (.istore_n 3, 1) := by decide +kernel
theorem dX12_potsOf_65 : decode cX12_potsOf 65 = .ok (.iinc 4 1, 3) := by decide +kernel
theorem dX12_potsOf_68 : decode cX12_potsOf 68 = .ok (.goto (-32), 3) := by decide +kernel
theorem dX12_potsOf_71 : decode cX12_potsOf 71 = .ok (.iload_n 3, 1) := by decide +kernel
theorem dX12_potsOf_72 : decode cX12_potsOf 72 = .ok (.ireturn, 1) := by decide +kernel
theorem dX12_triesNext_0 : decode cX12_triesNext 0 = .ok (.aload_n 0, 1) := by decide +kernel
theorem dX12_triesNext_1 : decode cX12_triesNext 1 = .ok (.getfield 142, 3) := by decide +kernel
theorem dX12_triesNext_4 : decode cX12_triesNext 4 = .ok (.iconst 1, 1) := by decide +kernel
theorem dX12_triesNext_5 : decode cX12_triesNext 5 = .ok (.isub, 1) := by decide +kernel
theorem dX12_triesNext_6 : decode cX12_triesNext 6 = .ok (.istore_n 1, 1) := by decide +kernel
theorem dX12_triesNext_7 : decode cX12_triesNext 7 = .ok (.iload_n 1, 1) := by decide +kernel
theorem dX12_triesNext_8 : decode cX12_triesNext 8 = .ok (.ifCond .lt 57, 3) := by decide +kernel
theorem dX12_triesNext_11 : decode cX12_triesNext 11 = .ok (.aload_n 0, 1) := by decide +kernel
theorem dX12_triesNext_12 : decode cX12_triesNext 12 = .ok (.getfield 62, 3) := by decide +kernel
theorem dX12_triesNext_15 : decode cX12_triesNext 15 = .ok (.bipush 21, 2) := by decide +kernel
theorem dX12_triesNext_17 : decode cX12_triesNext 17 = .ok (.iload_n 1, 1) := by decide +kernel
theorem dX12_triesNext_18 : decode cX12_triesNext 18 = .ok (.iadd, 1) := by decide +kernel
theorem dX12_triesNext_19 : decode cX12_triesNext 19 = .ok (.aload_n 0, 1) := by decide +kernel
theorem dX12_triesNext_20 : decode cX12_triesNext 20 = .ok (.getfield 62, 3) := by decide +kernel
theorem dX12_triesNext_23 : decode cX12_triesNext 23 = .ok (.bipush 21, 2) := by decide +kernel
theorem dX12_triesNext_25 : decode cX12_triesNext 25 = .ok (.iload_n 1, 1) := by decide +kernel
theorem dX12_triesNext_26 : decode cX12_triesNext 26 = .ok (.iadd, 1) := by decide +kernel
theorem dX12_triesNext_27 : decode cX12_triesNext 27 = .ok (.iaload, 1) := by decide +kernel
theorem dX12_triesNext_28 : decode cX12_triesNext 28 = .ok (.iconst 1, 1) := by decide +kernel
theorem dX12_triesNext_29 : decode cX12_triesNext 29 = .ok (.iadd, 1) := by decide +kernel
theorem dX12_triesNext_30 : decode cX12_triesNext 30 = .ok (.iastore, 1) := by decide +kernel
theorem dX12_triesNext_31 : decode cX12_triesNext 31 = .ok (.aload_n 0, 1) := by decide +kernel
theorem dX12_triesNext_32 : decode cX12_triesNext 32 = .ok (.getfield 62, 3) := by decide +kernel
theorem dX12_triesNext_35 : decode cX12_triesNext 35 = .ok (.bipush 21, 2) := by decide +kernel
theorem dX12_triesNext_37 : decode cX12_triesNext 37 = .ok (.iload_n 1, 1) := by decide +kernel
theorem dX12_triesNext_38 : decode cX12_triesNext 38 = .ok (.iadd, 1) := by decide +kernel
theorem dX12_triesNext_39 : decode cX12_triesNext 39 = .ok (.iaload, 1) := by decide +kernel
theorem dX12_triesNext_40 : decode cX12_triesNext 40 = .ok (.aload_n 0, 1) := by decide +kernel
theorem dX12_triesNext_41 : decode cX12_triesNext 41 = .ok (.getfield 7, 3) := by decide +kernel
theorem dX12_triesNext_44 : decode cX12_triesNext 44 = .ok (.if_icmp .ge 5, 3) := by decide +kernel
theorem dX12_triesNext_47 : decode cX12_triesNext 47 = .ok (.iconst 1, 1) := by decide +kernel
theorem dX12_triesNext_48 : decode cX12_triesNext 48 = .ok (.ireturn, 1) := by decide +kernel
theorem dX12_triesNext_49 : decode cX12_triesNext 49 = .ok (.aload_n 0, 1) := by decide +kernel
theorem dX12_triesNext_50 : decode cX12_triesNext 50 = .ok (.getfield 62, 3) := by decide +kernel
theorem dX12_triesNext_53 : decode cX12_triesNext 53 = .ok (.bipush 21, 2) := by decide +kernel
theorem dX12_triesNext_55 : decode cX12_triesNext 55 = .ok (.iload_n 1, 1) := by decide +kernel
theorem dX12_triesNext_56 : decode cX12_triesNext 56 = .ok (.iadd, 1) := by decide +kernel
theorem dX12_triesNext_57 : decode cX12_triesNext 57 = .ok (.iconst 0, 1) := by decide +kernel
theorem dX12_triesNext_58 : decode cX12_triesNext 58 = .ok (.iastore, 1) := by decide +kernel
theorem dX12_triesNext_59 : decode cX12_triesNext 59 = .ok (.iinc 1 (-1), 3) := by decide +kernel
theorem dX12_triesNext_62 : decode cX12_triesNext 62 = .ok (.goto (-55), 3) := by decide +kernel
theorem dX12_triesNext_65 : decode cX12_triesNext 65 = .ok (.iconst 0, 1) := by decide +kernel
theorem dX12_triesNext_66 : decode cX12_triesNext 66 = .ok (.ireturn, 1) := by decide +kernel
theorem dX12_findsBest_0 : decode cX12_findsBest 0 = .ok (.aload_n 0, 1) := by decide +kernel
theorem dX12_findsBest_1 : decode cX12_findsBest 1 = .ok (.invokevirtual 286, 3) := by decide +kernel
theorem dX12_findsBest_4 : decode cX12_findsBest 4 = .ok (.iconst 0, 1) := by decide +kernel
theorem dX12_findsBest_5 : decode cX12_findsBest 5 = .ok (.istore_n 1, 1) := by decide +kernel
theorem dX12_findsBest_6 : decode cX12_findsBest 6 = .ok (.iload_n 1, 1) := by decide +kernel
theorem dX12_findsBest_7 : decode cX12_findsBest 7 = .ok (.aload_n 0, 1) := by decide +kernel
theorem dX12_findsBest_8 : decode cX12_findsBest 8 = .ok (.getfield 142, 3) := by decide +kernel
theorem dX12_findsBest_11 : decode cX12_findsBest 11 = .ok (.if_icmp .ge 19, 3) := by decide +kernel
theorem dX12_findsBest_14 : decode cX12_findsBest 14 = .ok (.aload_n 0, 1) := by decide +kernel
theorem dX12_findsBest_15 : decode cX12_findsBest 15 = .ok (.getfield 62, 3) := by decide +kernel
theorem dX12_findsBest_18 : decode cX12_findsBest 18 = .ok (.bipush 21, 2) := by decide +kernel
theorem dX12_findsBest_20 : decode cX12_findsBest 20 = .ok (.iload_n 1, 1) := by decide +kernel
theorem dX12_findsBest_21 : decode cX12_findsBest 21 = .ok (.iadd, 1) := by decide +kernel
theorem dX12_findsBest_22 : decode cX12_findsBest 22 = .ok (.iconst 0, 1) := by decide +kernel
theorem dX12_findsBest_23 : decode cX12_findsBest 23 = .ok (.iastore, 1) := by decide +kernel
theorem dX12_findsBest_24 : decode cX12_findsBest 24 = .ok (.iinc 1 1, 3) := by decide +kernel
theorem dX12_findsBest_27 : decode cX12_findsBest 27 = .ok (.goto (-21), 3) := by decide +kernel
theorem dX12_findsBest_30 : decode cX12_findsBest 30 = .ok (.iconst 1, 1) := by decide +kernel
theorem dX12_findsBest_31 : decode cX12_findsBest 31 = .ok (.istore_n 1, 1) := by decide +kernel
theorem dX12_findsBest_32 : decode cX12_findsBest 32 = .ok (.iconst 1, 1) := by decide +kernel
theorem dX12_findsBest_33 : decode cX12_findsBest 33 = .ok (.istore_n 2, 1) := by decide +kernel
theorem dX12_findsBest_34 : decode cX12_findsBest 34 = .ok (.iload_n 2, 1) := by decide +kernel
theorem dX12_findsBest_35 : decode cX12_findsBest 35 = .ok (.ifCond .eq 222, 3) := by decide +kernel
theorem dX12_findsBest_38 : decode cX12_findsBest 38 = .ok (.aload_n 0, 1) := by decide +kernel
theorem dX12_findsBest_39 : decode cX12_findsBest 39 = .ok (.bipush 21, 2) := by decide +kernel
theorem dX12_findsBest_41 : decode cX12_findsBest 41 = .ok (.invokevirtual 321, 3) := by decide +kernel
theorem dX12_findsBest_44 : decode cX12_findsBest 44 = .ok (.istore_n 3, 1) := by decide +kernel
theorem dX12_findsBest_45 : decode cX12_findsBest 45 = .ok (.iload_n 3, 1) := by decide +kernel
theorem dX12_findsBest_46 : decode cX12_findsBest 46 = .ok (.ineg, 1) := by decide +kernel
theorem dX12_findsBest_47 : decode cX12_findsBest 47 = .ok (.istore 4, 2) := by decide +kernel
theorem dX12_findsBest_49 : decode cX12_findsBest 49 = .ok (.iconst 0, 1) := by decide +kernel
theorem dX12_findsBest_50 : decode cX12_findsBest 50 = .ok (.istore 5, 2) := by decide +kernel
theorem dX12_findsBest_52 : decode cX12_findsBest 52 = .ok (.iload 5, 2) := by decide +kernel
theorem dX12_findsBest_54 : decode cX12_findsBest 54 = .ok (.aload_n 0, 1) := by decide +kernel
theorem dX12_findsBest_55 : decode cX12_findsBest 55 = .ok (.getfield 145, 3) := by decide +kernel
theorem dX12_findsBest_58 : decode cX12_findsBest 58 = .ok (.if_icmp .ge 36, 3) := by decide +kernel
theorem dX12_findsBest_61 : decode cX12_findsBest 61 = .ok (.aload_n 0, 1) := by decide +kernel
theorem dX12_findsBest_62 : decode cX12_findsBest 62 = .ok (.getfield 107, 3) := by decide +kernel
theorem dX12_findsBest_65 : decode cX12_findsBest 65 = .ok (.iload 5, 2) := by decide +kernel
theorem dX12_findsBest_67 : decode cX12_findsBest 67 = .ok (.aload_n 0, 1) := by decide +kernel
theorem dX12_findsBest_68 : decode cX12_findsBest 68 = .ok (.iload 5, 2) := by decide +kernel
theorem dX12_findsBest_70 : decode cX12_findsBest 70 = .ok (.bipush 21, 2) := by decide +kernel
theorem dX12_findsBest_72 : decode cX12_findsBest 72 = .ok (.invokevirtual 289, 3) := by decide +kernel
theorem dX12_findsBest_75 : decode cX12_findsBest 75 = .ok (.iastore, 1) := by decide +kernel
theorem dX12_findsBest_76 : decode cX12_findsBest 76 = .ok (.iload 4, 2) := by decide +kernel
theorem dX12_findsBest_78 : decode cX12_findsBest 78 = .ok (.aload_n 0, 1) := by decide +kernel
theorem dX12_findsBest_79 : decode cX12_findsBest 79 = .ok (.getfield 107, 3) := by decide +kernel
theorem dX12_findsBest_82 : decode cX12_findsBest 82 = .ok (.iload 5, 2) := by decide +kernel
theorem dX12_findsBest_84 : decode cX12_findsBest 84 = .ok (.iaload, 1) := by decide +kernel
theorem dX12_findsBest_85 : decode cX12_findsBest 85 = .ok (.iadd, 1) := by decide +kernel
theorem dX12_findsBest_86 : decode cX12_findsBest 86 = .ok (.istore 4, 2) := by decide +kernel
theorem dX12_findsBest_88 : decode cX12_findsBest 88 = .ok (.iinc 5 1, 3) := by decide +kernel
theorem dX12_findsBest_91 : decode cX12_findsBest 91 = .ok (.goto (-39), 3) := by decide +kernel
theorem dX12_findsBest_94 : decode cX12_findsBest 94 = .ok (.iconst 0, 1) := by decide +kernel
theorem dX12_findsBest_95 : decode cX12_findsBest 95 = .ok (.istore 5, 2) := by decide +kernel
theorem dX12_findsBest_97 : decode cX12_findsBest 97 = .ok (.iload 5, 2) := by decide +kernel
theorem dX12_findsBest_99 : decode cX12_findsBest 99 = .ok (.aload_n 0, 1) := by decide +kernel
theorem dX12_findsBest_100 : decode cX12_findsBest 100 = .ok (.getfield 145, 3) := by decide +kernel
theorem dX12_findsBest_103 : decode cX12_findsBest 103 = .ok (.if_icmp .ge 50, 3) := by decide +kernel
theorem dX12_findsBest_106 : decode cX12_findsBest 106 = .ok (.iload_n 1, 1) := by decide +kernel
theorem dX12_findsBest_107 : decode cX12_findsBest 107 = .ok (.ifCond .ne 23, 3) := by decide +kernel
theorem dX12_findsBest_110 : decode cX12_findsBest 110 = .ok (.iload 4, 2) := by decide +kernel
theorem dX12_findsBest_112 : decode cX12_findsBest 112 = .ok (.aload_n 0, 1) := by decide +kernel
theorem dX12_findsBest_113 : decode cX12_findsBest 113 = .ok (.getfield 107, 3) := by decide +kernel
theorem dX12_findsBest_116 : decode cX12_findsBest 116 = .ok (.iload 5, 2) := by decide +kernel
theorem dX12_findsBest_118 : decode cX12_findsBest 118 = .ok (.iaload, 1) := by decide +kernel
theorem dX12_findsBest_119 : decode cX12_findsBest 119 = .ok (.isub, 1) := by decide +kernel
theorem dX12_findsBest_120 : decode cX12_findsBest 120 = .ok (.aload_n 0, 1) := by decide +kernel
theorem dX12_findsBest_121 : decode cX12_findsBest 121 = .ok (.getfield 113, 3) := by decide +kernel
theorem dX12_findsBest_124 : decode cX12_findsBest 124 = .ok (.iload 5, 2) := by decide +kernel
theorem dX12_findsBest_126 : decode cX12_findsBest 126 = .ok (.iaload, 1) := by decide +kernel
theorem dX12_findsBest_127 : decode cX12_findsBest 127 = .ok (.if_icmp .le 20, 3) := by decide +kernel
theorem dX12_findsBest_130 : decode cX12_findsBest 130 = .ok (.aload_n 0, 1) := by decide +kernel
theorem dX12_findsBest_131 : decode cX12_findsBest 131 = .ok (.getfield 113, 3) := by decide +kernel
theorem dX12_findsBest_134 : decode cX12_findsBest 134 = .ok (.iload 5, 2) := by decide +kernel
theorem dX12_findsBest_136 : decode cX12_findsBest 136 = .ok (.iload 4, 2) := by decide +kernel
theorem dX12_findsBest_138 : decode cX12_findsBest 138 = .ok (.aload_n 0, 1) := by decide +kernel
theorem dX12_findsBest_139 : decode cX12_findsBest 139 = .ok (.getfield 107, 3) := by decide +kernel
theorem dX12_findsBest_142 : decode cX12_findsBest 142 = .ok (.iload 5, 2) := by decide +kernel
theorem dX12_findsBest_144 : decode cX12_findsBest 144 = .ok (.iaload, 1) := by decide +kernel
theorem dX12_findsBest_145 : decode cX12_findsBest 145 = .ok (.isub, 1) := by decide +kernel
theorem dX12_findsBest_146 : decode cX12_findsBest 146 = .ok (.iastore, 1) := by decide +kernel
theorem dX12_findsBest_147 : decode cX12_findsBest 147 = .ok (.iinc 5 1, 3) := by decide +kernel
theorem dX12_findsBest_150 : decode cX12_findsBest 150 = .ok (.goto (-53), 3) := by decide +kernel
theorem dX12_findsBest_153 : decode cX12_findsBest 153 = .ok (.iload_n 1, 1) := by decide +kernel
theorem dX12_findsBest_154 : decode cX12_findsBest 154 = .ok (.ifCond .ne 12, 3) := by decide +kernel
theorem dX12_findsBest_157 : decode cX12_findsBest 157 = .ok (.iload 4, 2) := by decide +kernel
theorem dX12_findsBest_159 : decode cX12_findsBest 159 = .ok (.aload_n 0, 1) := by decide +kernel
theorem dX12_findsBest_160 : decode cX12_findsBest 160 = .ok (.getfield 324, 3) := by decide +kernel
theorem dX12_findsBest_163 : decode cX12_findsBest 163 = .ok (.if_icmp .le 84, 3) := by decide +kernel
theorem dX12_findsBest_166 : decode cX12_findsBest 166 = .ok (.aload_n 0, 1) := by decide +kernel
theorem dX12_findsBest_167 : decode cX12_findsBest 167 = .ok (.iload 4, 2) := by decide +kernel
theorem dX12_findsBest_169 : decode cX12_findsBest 169 = .ok (.putfield 324, 3) := by decide +kernel
theorem dX12_findsBest_172 : decode cX12_findsBest 172 = .ok (.aload_n 0, 1) := by decide +kernel
theorem dX12_findsBest_173 : decode cX12_findsBest 173 = .ok (.iload_n 3, 1) := by decide +kernel
theorem dX12_findsBest_174 : decode cX12_findsBest 174 = .ok (.putfield 327, 3) := by decide +kernel
theorem dX12_findsBest_177 : decode cX12_findsBest 177 = .ok (.iconst 0, 1) := by decide +kernel
theorem dX12_findsBest_178 : decode cX12_findsBest 178 = .ok (.istore 5, 2) := by decide +kernel
theorem dX12_findsBest_180 : decode cX12_findsBest 180 = .ok (.iload 5, 2) := by decide +kernel
theorem dX12_findsBest_182 : decode cX12_findsBest 182 = .ok (.aload_n 0, 1) := by decide +kernel
theorem dX12_findsBest_183 : decode cX12_findsBest 183 = .ok (.getfield 145, 3) := by decide +kernel
theorem dX12_findsBest_186 : decode cX12_findsBest 186 = .ok (.if_icmp .ge 23, 3) := by decide +kernel
theorem dX12_findsBest_189 : decode cX12_findsBest 189 = .ok (.aload_n 0, 1) := by decide +kernel
theorem dX12_findsBest_190 : decode cX12_findsBest 190 = .ok (.getfield 110, 3) := by decide +kernel
theorem dX12_findsBest_193 : decode cX12_findsBest 193 = .ok (.iload 5, 2) := by decide +kernel
theorem dX12_findsBest_195 : decode cX12_findsBest 195 = .ok (.aload_n 0, 1) := by decide +kernel
theorem dX12_findsBest_196 : decode cX12_findsBest 196 = .ok (.getfield 107, 3) := by decide +kernel
theorem dX12_findsBest_199 : decode cX12_findsBest 199 = .ok (.iload 5, 2) := by decide +kernel
theorem dX12_findsBest_201 : decode cX12_findsBest 201 = .ok (.iaload, 1) := by decide +kernel
theorem dX12_findsBest_202 : decode cX12_findsBest 202 = .ok (.iastore, 1) := by decide +kernel
theorem dX12_findsBest_203 : decode cX12_findsBest 203 = .ok (.iinc 5 1, 3) := by decide +kernel
theorem dX12_findsBest_206 : decode cX12_findsBest 206 = .ok (.goto (-26), 3) := by decide +kernel
theorem dX12_findsBest_209 : decode cX12_findsBest 209 = .ok (.iconst 0, 1) := by decide +kernel
theorem dX12_findsBest_210 : decode cX12_findsBest 210 = .ok (.istore 5, 2) := by decide +kernel
theorem dX12_findsBest_212 : decode cX12_findsBest 212 = .ok (.iload 5, 2) := by decide +kernel
theorem dX12_findsBest_214 : decode cX12_findsBest 214 = .ok (.aload_n 0, 1) := by decide +kernel
theorem dX12_findsBest_215 : decode cX12_findsBest 215 = .ok (.getfield 142, 3) := by decide +kernel
theorem dX12_findsBest_218 : decode cX12_findsBest 218 = .ok (.if_icmp .ge 29, 3) := by decide +kernel
theorem dX12_findsBest_221 : decode cX12_findsBest 221 = .ok (.aload_n 0, 1) := by decide +kernel
theorem dX12_findsBest_222 : decode cX12_findsBest 222 = .ok (.getfield 62, 3) := by decide +kernel
theorem dX12_findsBest_225 : decode cX12_findsBest 225 = .ok (.bipush 14, 2) := by decide +kernel
theorem dX12_findsBest_227 : decode cX12_findsBest 227 = .ok (.iload 5, 2) := by decide +kernel
theorem dX12_findsBest_229 : decode cX12_findsBest 229 = .ok (.iadd, 1) := by decide +kernel
theorem dX12_findsBest_230 : decode cX12_findsBest 230 = .ok (.aload_n 0, 1) := by decide +kernel
theorem dX12_findsBest_231 : decode cX12_findsBest 231 = .ok (.getfield 62, 3) := by decide +kernel
theorem dX12_findsBest_234 : decode cX12_findsBest 234 = .ok (.bipush 21, 2) := by decide +kernel
theorem dX12_findsBest_236 : decode cX12_findsBest 236 = .ok (.iload 5, 2) := by decide +kernel
theorem dX12_findsBest_238 : decode cX12_findsBest 238 = .ok (.iadd, 1) := by decide +kernel
theorem dX12_findsBest_239 : decode cX12_findsBest 239 = .ok (.iaload, 1) := by decide +kernel
theorem dX12_findsBest_240 : decode cX12_findsBest 240 = .ok (.iastore, 1) := by decide +kernel
theorem dX12_findsBest_241 : decode cX12_findsBest 241 = .ok (.iinc 5 1, 3) := by decide +kernel
theorem dX12_findsBest_244 : decode cX12_findsBest 244 = .ok (.goto (-32), 3) := by decide +kernel
theorem dX12_findsBest_247 : decode cX12_findsBest 247 = .ok (.iconst 0, 1) := by decide +kernel
theorem dX12_findsBest_248 : decode cX12_findsBest 248 = .ok (.istore_n 1, 1) := by decide +kernel
theorem dX12_findsBest_249 : decode cX12_findsBest 249 = .ok (.aload_n 0, 1) := by decide +kernel
theorem dX12_findsBest_250 : decode cX12_findsBest 250 = .ok (.invokevirtual 330, 3) := by decide +kernel
theorem dX12_findsBest_253 : decode cX12_findsBest 253 = .ok (.istore_n 2, 1) := by decide +kernel
theorem dX12_findsBest_254 : decode cX12_findsBest 254 = .ok (.goto (-220), 3) := by decide +kernel
theorem dX12_findsBest_257 : decode cX12_findsBest 257 = .ok (.return_, 1) := by decide +kernel
theorem dX12_dueOf_0 : decode cX12_dueOf 0 = .ok (.aload_n 0, 1) := by decide +kernel
theorem dX12_dueOf_1 : decode cX12_dueOf 1 = .ok (.getfield 113, 3) := by decide +kernel
theorem dX12_dueOf_4 : decode cX12_dueOf 4 = .ok (.iload_n 1, 1) := by decide +kernel
theorem dX12_dueOf_5 : decode cX12_dueOf 5 = .ok (.iaload, 1) := by decide +kernel
theorem dX12_dueOf_6 : decode cX12_dueOf 6 = .ok (.aload_n 0, 1) := by decide +kernel
theorem dX12_dueOf_7 : decode cX12_dueOf 7 = .ok (.getfield 324, 3) := by decide +kernel
theorem dX12_dueOf_10 : decode cX12_dueOf 10 = .ok (.aload_n 0, 1) := by decide +kernel
theorem dX12_dueOf_11 : decode cX12_dueOf 11 = .ok (.getfield 110, 3) := by decide +kernel
theorem dX12_dueOf_14 : decode cX12_dueOf 14 = .ok (.iload_n 1, 1) := by decide +kernel
theorem dX12_dueOf_15 : decode cX12_dueOf 15 = .ok (.iaload, 1) := by decide +kernel
theorem dX12_dueOf_16 : decode cX12_dueOf 16 = .ok (.isub, 1) := by decide +kernel
theorem dX12_dueOf_17 : decode cX12_dueOf 17 = .ok (.isub, 1) := by decide +kernel
theorem dX12_dueOf_18 : decode cX12_dueOf 18 = .ok (.ireturn, 1) := by decide +kernel
theorem dX12_best_0 : decode cX12_best 0 = .ok (.aload_n 0, 1) := by decide +kernel
theorem dX12_best_1 : decode cX12_best 1 = .ok (.iconst 0, 1) := by decide +kernel
theorem dX12_best_2 : decode cX12_best 2 = .ok (.putfield 134, 3) := by decide +kernel
theorem dX12_best_5 : decode cX12_best 5 = .ok (.aload_n 0, 1) := by decide +kernel
theorem dX12_best_6 : decode cX12_best 6 = .ok (.iload_n 1, 1) := by decide +kernel
theorem dX12_best_7 : decode cX12_best 7 = .ok (.iconst 0, 1) := by decide +kernel
theorem dX12_best_8 : decode cX12_best 8 = .ok (.iconst 2, 1) := by decide +kernel
theorem dX12_best_9 : decode cX12_best 9 = .ok (.invokevirtual 148, 3) := by decide +kernel
theorem dX12_best_12 : decode cX12_best 12 = .ok (.ifCond .ne 24, 3) := by decide +kernel
theorem dX12_best_15 : decode cX12_best 15 = .ok (.aload_n 0, 1) := by decide +kernel
theorem dX12_best_16 : decode cX12_best 16 = .ok (.iload_n 1, 1) := by decide +kernel
theorem dX12_best_17 : decode cX12_best 17 = .ok (.bipush 10, 2) := by decide +kernel
theorem dX12_best_19 : decode cX12_best 19 = .ok (.bipush 9, 2) := by decide +kernel
theorem dX12_best_21 : decode cX12_best 21 = .ok (.aload_n 0, 1) := by decide +kernel
theorem dX12_best_22 : decode cX12_best 22 = .ok (.getfield 145, 3) := by decide +kernel
theorem dX12_best_25 : decode cX12_best 25 = .ok (.iadd, 1) := by decide +kernel
theorem dX12_best_26 : decode cX12_best 26 = .ok (.invokevirtual 148, 3) := by decide +kernel
theorem dX12_best_29 : decode cX12_best 29 = .ok (.ifCond .ne 7, 3) := by decide +kernel
theorem dX12_best_32 : decode cX12_best 32 = .ok (.ldc_w 285, 3) := by decide +kernel
theorem dX12_best_35 : decode cX12_best 35 = .ok (.ireturn, 1) := by decide +kernel
theorem dX12_best_36 : decode cX12_best 36 = .ok (.aload_n 0, 1) := by decide +kernel
theorem dX12_best_37 : decode cX12_best 37 = .ok (.invokevirtual 334, 3) := by decide +kernel
theorem dX12_best_40 : decode cX12_best 40 = .ok (.iload_n 1, 1) := by decide +kernel
theorem dX12_best_41 : decode cX12_best 41 = .ok (.ifCond .ne 8, 3) := by decide +kernel
theorem dX12_best_44 : decode cX12_best 44 = .ok (.aload_n 0, 1) := by decide +kernel
theorem dX12_best_45 : decode cX12_best 45 = .ok (.getfield 324, 3) := by decide +kernel
theorem dX12_best_48 : decode cX12_best 48 = .ok (.ireturn, 1) := by decide +kernel
theorem dX12_best_49 : decode cX12_best 49 = .ok (.iload_n 1, 1) := by decide +kernel
theorem dX12_best_50 : decode cX12_best 50 = .ok (.iconst 1, 1) := by decide +kernel
theorem dX12_best_51 : decode cX12_best 51 = .ok (.if_icmp .ne 8, 3) := by decide +kernel
theorem dX12_best_54 : decode cX12_best 54 = .ok (.aload_n 0, 1) := by decide +kernel
theorem dX12_best_55 : decode cX12_best 55 = .ok (.getfield 327, 3) := by decide +kernel
theorem dX12_best_58 : decode cX12_best 58 = .ok (.ireturn, 1) := by decide +kernel
theorem dX12_best_59 : decode cX12_best 59 = .ok (.iload_n 1, 1) := by decide +kernel
theorem dX12_best_60 : decode cX12_best 60 = .ok (.iconst 2, 1) := by decide +kernel
theorem dX12_best_61 : decode cX12_best 61 = .ok (.if_icmp .le 12, 3) := by decide +kernel
theorem dX12_best_64 : decode cX12_best 64 = .ok (.aload_n 0, 1) := by decide +kernel
theorem dX12_best_65 : decode cX12_best 65 = .ok (.iload_n 1, 1) := by decide +kernel
theorem dX12_best_66 : decode cX12_best 66 = .ok (.bipush 10, 2) := by decide +kernel
theorem dX12_best_68 : decode cX12_best 68 = .ok (.isub, 1) := by decide +kernel
theorem dX12_best_69 : decode cX12_best 69 = .ok (.invokevirtual 337, 3) := by decide +kernel
theorem dX12_best_72 : decode cX12_best 72 = .ok (.ireturn, 1) := by decide +kernel
theorem dX12_best_73 : decode cX12_best 73 = .ok (.aload_n 0, 1) := by decide +kernel
theorem dX12_best_74 : decode cX12_best 74 = .ok (.getfield 327, 3) := by decide +kernel
theorem dX12_best_77 : decode cX12_best 77 = .ok (.istore_n 2, 1) := by decide +kernel
theorem dX12_best_78 : decode cX12_best 78 = .ok (.iconst 0, 1) := by decide +kernel
theorem dX12_best_79 : decode cX12_best 79 = .ok (.istore_n 3, 1) := by decide +kernel
theorem dX12_best_80 : decode cX12_best 80 = .ok (.iload_n 3, 1) := by decide +kernel
theorem dX12_best_81 : decode cX12_best 81 = .ok (.aload_n 0, 1) := by decide +kernel
theorem dX12_best_82 : decode cX12_best 82 = .ok (.getfield 145, 3) := by decide +kernel
theorem dX12_best_85 : decode cX12_best 85 = .ok (.if_icmp .ge 17, 3) := by decide +kernel
theorem dX12_best_88 : decode cX12_best 88 = .ok (.iload_n 2, 1) := by decide +kernel
theorem dX12_best_89 : decode cX12_best 89 = .ok (.aload_n 0, 1) := by decide +kernel
theorem dX12_best_90 : decode cX12_best 90 = .ok (.iload_n 3, 1) := by decide +kernel
theorem dX12_best_91 : decode cX12_best 91 = .ok (.invokevirtual 337, 3) := by decide +kernel
theorem dX12_best_94 : decode cX12_best 94 = .ok (.isub, 1) := by decide +kernel
theorem dX12_best_95 : decode cX12_best 95 = .ok (.istore_n 2, 1) := by decide +kernel
theorem dX12_best_96 : decode cX12_best 96 = .ok (.iinc 3 1, 3) := by decide +kernel
theorem dX12_best_99 : decode cX12_best 99 = .ok (.goto (-19), 3) := by decide +kernel
theorem dX12_best_102 : decode cX12_best 102 = .ok (.iload_n 2, 1) := by decide +kernel
theorem dX12_best_103 : decode cX12_best 103 = .ok (.ireturn, 1) := by decide +kernel
theorem dX12_colour_0 : decode cX12_colour 0 = .ok (.aload_n 0, 1) := by decide +kernel
theorem dX12_colour_1 : decode cX12_colour 1 = .ok (.iconst 0, 1) := by decide +kernel
theorem dX12_colour_2 : decode cX12_colour 2 = .ok (.putfield 134, 3) := by decide +kernel
theorem dX12_colour_5 : decode cX12_colour 5 = .ok (.aload_n 0, 1) := by decide +kernel
theorem dX12_colour_6 : decode cX12_colour 6 = .ok (.iload_n 1, 1) := by decide +kernel
theorem dX12_colour_7 : decode cX12_colour 7 = .ok (.invokevirtual 178, 3) := by decide +kernel
theorem dX12_colour_10 : decode cX12_colour 10 = .ok (.ifCond .eq 13, 3) := by decide +kernel
theorem dX12_colour_13 : decode cX12_colour 13 = .ok (.aload_n 0, 1) := by decide +kernel
theorem dX12_colour_14 : decode cX12_colour 14 = .ok (.iload_n 2, 1) := by decide +kernel
theorem dX12_colour_15 : decode cX12_colour 15 = .ok (.iconst 0, 1) := by decide +kernel
theorem dX12_colour_16 : decode cX12_colour 16 = .ok (.iconst 2, 1) := by decide +kernel
theorem dX12_colour_17 : decode cX12_colour 17 = .ok (.invokevirtual 148, 3) := by decide +kernel
theorem dX12_colour_20 : decode cX12_colour 20 = .ok (.ifCond .ne 5, 3) := by decide +kernel
theorem dX12_colour_23 : decode cX12_colour 23 = .ok (.iconst (-1), 1) := by decide +kernel
theorem dX12_colour_24 : decode cX12_colour 24 = .ok (.ireturn, 1) := by decide +kernel
theorem dX12_colour_25 : decode cX12_colour 25 = .ok (.iload_n 2, 1) := by decide +kernel
theorem dX12_colour_26 : decode cX12_colour 26 = .ok (.ifCond .ne 12, 3) := by decide +kernel
theorem dX12_colour_29 : decode cX12_colour 29 = .ok (.aload_n 0, 1) := by decide +kernel
theorem dX12_colour_30 : decode cX12_colour 30 = .ok (.getfield 62, 3) := by decide +kernel
theorem dX12_colour_33 : decode cX12_colour 33 = .ok (.iconst 0, 1) := by decide +kernel
theorem dX12_colour_34 : decode cX12_colour 34 = .ok (.iload_n 1, 1) := by decide +kernel
theorem dX12_colour_35 : decode cX12_colour 35 = .ok (.iadd, 1) := by decide +kernel
theorem dX12_colour_36 : decode cX12_colour 36 = .ok (.iaload, 1) := by decide +kernel
theorem dX12_colour_37 : decode cX12_colour 37 = .ok (.ireturn, 1) := by decide +kernel
theorem dX12_colour_38 : decode cX12_colour 38 = .ok (.iload_n 2, 1) := by decide +kernel
theorem dX12_colour_39 : decode cX12_colour 39 = .ok (.iconst 1, 1) := by decide +kernel
theorem dX12_colour_40 : decode cX12_colour 40 = .ok (.if_icmp .ne 19, 3) := by decide +kernel
theorem dX12_colour_43 : decode cX12_colour 43 = .ok (.aload_n 0, 1) := by decide +kernel
theorem dX12_colour_44 : decode cX12_colour 44 = .ok (.bipush 7, 2) := by decide +kernel
theorem dX12_colour_46 : decode cX12_colour 46 = .ok (.invokevirtual 318, 3) := by decide +kernel
theorem dX12_colour_49 : decode cX12_colour 49 = .ok (.aload_n 0, 1) := by decide +kernel
theorem dX12_colour_50 : decode cX12_colour 50 = .ok (.getfield 62, 3) := by decide +kernel
theorem dX12_colour_53 : decode cX12_colour 53 = .ok (.bipush 7, 2) := by decide +kernel
theorem dX12_colour_55 : decode cX12_colour 55 = .ok (.iload_n 1, 1) := by decide +kernel
theorem dX12_colour_56 : decode cX12_colour 56 = .ok (.iadd, 1) := by decide +kernel
theorem dX12_colour_57 : decode cX12_colour 57 = .ok (.iaload, 1) := by decide +kernel
theorem dX12_colour_58 : decode cX12_colour 58 = .ok (.ireturn, 1) := by decide +kernel
theorem dX12_colour_59 : decode cX12_colour 59 = .ok (.aload_n 0, 1) := by decide +kernel
theorem dX12_colour_60 : decode cX12_colour 60 = .ok (.invokevirtual 334, 3) := by decide +kernel
theorem dX12_colour_63 : decode cX12_colour 63 = .ok (.aload_n 0, 1) := by decide +kernel
theorem dX12_colour_64 : decode cX12_colour 64 = .ok (.getfield 62, 3) := by decide +kernel
theorem dX12_colour_67 : decode cX12_colour 67 = .ok (.bipush 14, 2) := by decide +kernel
theorem dX12_colour_69 : decode cX12_colour 69 = .ok (.iload_n 1, 1) := by decide +kernel
theorem dX12_colour_70 : decode cX12_colour 70 = .ok (.iadd, 1) := by decide +kernel
theorem dX12_colour_71 : decode cX12_colour 71 = .ok (.iaload, 1) := by decide +kernel
theorem dX12_colour_72 : decode cX12_colour 72 = .ok (.ireturn, 1) := by decide +kernel
theorem dX12_becomes_0 : decode cX12_becomes 0 = .ok (.iconst 0, 1) := by decide +kernel
theorem dX12_becomes_1 : decode cX12_becomes 1 = .ok (.istore_n 2, 1) := by decide +kernel
theorem dX12_becomes_2 : decode cX12_becomes 2 = .ok (.iconst 0, 1) := by decide +kernel
theorem dX12_becomes_3 : decode cX12_becomes 3 = .ok (.istore_n 3, 1) := by decide +kernel
theorem dX12_becomes_4 : decode cX12_becomes 4 = .ok (.iload_n 3, 1) := by decide +kernel
theorem dX12_becomes_5 : decode cX12_becomes 5 = .ok (.aload_n 0, 1) := by decide +kernel
theorem dX12_becomes_6 : decode cX12_becomes 6 = .ok (.getfield 142, 3) := by decide +kernel
theorem dX12_becomes_9 : decode cX12_becomes 9 = .ok (.if_icmp .ge 48, 3) := by decide +kernel
theorem dX12_becomes_12 : decode cX12_becomes 12 = .ok (.aload_n 0, 1) := by decide +kernel
theorem dX12_becomes_13 : decode cX12_becomes 13 = .ok (.getfield 62, 3) := by decide +kernel
theorem dX12_becomes_16 : decode cX12_becomes 16 = .ok (.iconst 0, 1) := by decide +kernel
theorem dX12_becomes_17 : decode cX12_becomes 17 = .ok (.iload_n 3, 1) := by decide +kernel
theorem dX12_becomes_18 : decode cX12_becomes 18 = .ok (.iadd, 1) := by decide +kernel
theorem dX12_becomes_19 : decode cX12_becomes 19 = .ok (.iaload, 1) := by decide +kernel
theorem dX12_becomes_20 : decode cX12_becomes 20 = .ok (.aload_n 0, 1) := by decide +kernel
theorem dX12_becomes_21 : decode cX12_becomes 21 = .ok (.getfield 62, 3) := by decide +kernel
theorem dX12_becomes_24 : decode cX12_becomes 24 = .ok (.iload_n 1, 1) := by decide +kernel
theorem dX12_becomes_25 : decode cX12_becomes 25 = .ok (.iload_n 3, 1) := by decide +kernel
theorem dX12_becomes_26 : decode cX12_becomes 26 = .ok (.iadd, 1) := by decide +kernel
theorem dX12_becomes_27 : decode cX12_becomes 27 = .ok (.iaload, 1) := by decide +kernel
theorem dX12_becomes_28 : decode cX12_becomes 28 = .ok (.if_icmp .eq 7, 3) := by decide +kernel
theorem dX12_becomes_31 : decode cX12_becomes 31 = .ok (.iload_n 2, 1) := by decide +kernel
theorem dX12_becomes_32 : decode cX12_becomes 32 = .ok (.iconst 1, 1) := by decide +kernel
theorem dX12_becomes_33 : decode cX12_becomes 33 = .ok (.iadd, 1) := by decide +kernel
theorem dX12_becomes_34 : decode cX12_becomes 34 = .ok (.istore_n 2, 1) := by decide +kernel
theorem dX12_becomes_35 : decode cX12_becomes 35 = .ok (.aload_n 0, 1) := by decide +kernel
theorem dX12_becomes_36 : decode cX12_becomes 36 = .ok (.getfield 62, 3) := by decide +kernel
theorem dX12_becomes_39 : decode cX12_becomes 39 = .ok (.iconst 0, 1) := by decide +kernel
theorem dX12_becomes_40 : decode cX12_becomes 40 = .ok (.iload_n 3, 1) := by decide +kernel
theorem dX12_becomes_41 : decode cX12_becomes 41 = .ok (.iadd, 1) := by decide +kernel
theorem dX12_becomes_42 : decode cX12_becomes 42 = .ok (.aload_n 0, 1) := by decide +kernel
theorem dX12_becomes_43 : decode cX12_becomes 43 = .ok (.getfield 62, 3) := by decide +kernel
theorem dX12_becomes_46 : decode cX12_becomes 46 = .ok (.iload_n 1, 1) := by decide +kernel
theorem dX12_becomes_47 : decode cX12_becomes 47 = .ok (.iload_n 3, 1) := by decide +kernel
theorem dX12_becomes_48 : decode cX12_becomes 48 = .ok (.iadd, 1) := by decide +kernel
theorem dX12_becomes_49 : decode cX12_becomes 49 = .ok (.iaload, 1) := by decide +kernel
theorem dX12_becomes_50 : decode cX12_becomes 50 = .ok (.iastore, 1) := by decide +kernel
theorem dX12_becomes_51 : decode cX12_becomes 51 = .ok (.iinc 3 1, 3) := by decide +kernel
theorem dX12_becomes_54 : decode cX12_becomes 54 = .ok (.goto (-50), 3) := by decide +kernel
theorem dX12_becomes_57 : decode cX12_becomes 57 = .ok (.iload_n 2, 1) := by decide +kernel
theorem dX12_becomes_58 : decode cX12_becomes 58 = .ok (.ireturn, 1) := by decide +kernel
theorem dX12_become_0 : decode cX12_become 0 = .ok (.aload_n 0, 1) := by decide +kernel
theorem dX12_become_1 : decode cX12_become 1 = .ok (.iconst 0, 1) := by decide +kernel
theorem dX12_become_2 : decode cX12_become 2 = .ok (.putfield 134, 3) := by decide +kernel
theorem dX12_become_5 : decode cX12_become 5 = .ok (.aload_n 0, 1) := by decide +kernel
theorem dX12_become_6 : decode cX12_become 6 = .ok (.iload_n 1, 1) := by decide +kernel
theorem dX12_become_7 : decode cX12_become 7 = .ok (.iconst 1, 1) := by decide +kernel
theorem dX12_become_8 : decode cX12_become 8 = .ok (.iconst 2, 1) := by decide +kernel
theorem dX12_become_9 : decode cX12_become 9 = .ok (.invokevirtual 148, 3) := by decide +kernel
theorem dX12_become_12 : decode cX12_become 12 = .ok (.ifCond .ne 5, 3) := by decide +kernel
theorem dX12_become_15 : decode cX12_become 15 = .ok (.iconst (-1), 1) := by decide +kernel
theorem dX12_become_16 : decode cX12_become 16 = .ok (.ireturn, 1) := by decide +kernel
theorem dX12_become_17 : decode cX12_become 17 = .ok (.iload_n 1, 1) := by decide +kernel
theorem dX12_become_18 : decode cX12_become 18 = .ok (.iconst 1, 1) := by decide +kernel
theorem dX12_become_19 : decode cX12_become 19 = .ok (.if_icmp .ne 12, 3) := by decide +kernel
theorem dX12_become_22 : decode cX12_become 22 = .ok (.aload_n 0, 1) := by decide +kernel
theorem dX12_become_23 : decode cX12_become 23 = .ok (.bipush 7, 2) := by decide +kernel
theorem dX12_become_25 : decode cX12_become 25 = .ok (.invokevirtual 318, 3) := by decide +kernel
theorem dX12_become_28 : decode cX12_become 28 = .ok (.goto 7, 3) := by decide +kernel
theorem dX12_become_31 : decode cX12_become 31 = .ok (.aload_n 0, 1) := by decide +kernel
theorem dX12_become_32 : decode cX12_become 32 = .ok (.invokevirtual 334, 3) := by decide +kernel
theorem dX12_become_35 : decode cX12_become 35 = .ok (.aload_n 0, 1) := by decide +kernel
theorem dX12_become_36 : decode cX12_become 36 = .ok (.iload_n 1, 1) := by decide +kernel
theorem dX12_become_37 : decode cX12_become 37 = .ok (.iconst 1, 1) := by decide +kernel
theorem dX12_become_38 : decode cX12_become 38 = .ok (.if_icmp .ne 8, 3) := by decide +kernel
theorem dX12_become_41 : decode cX12_become 41 = .ok (.bipush 7, 2) := by decide +kernel
theorem dX12_become_43 : decode cX12_become 43 = .ok (.goto 5, 3) := by decide +kernel
theorem dX12_become_46 : decode cX12_become 46 = .ok (.bipush 14, 2) := by decide +kernel
theorem dX12_become_48 : decode cX12_become 48 = .ok (.invokevirtual 340, 3) := by decide +kernel
theorem dX12_become_51 : decode cX12_become 51 = .ok (.ireturn, 1) := by decide +kernel
theorem dX12_tradesOf_0 : decode cX12_tradesOf 0 = .ok (.aload_n 0, 1) := by decide +kernel
theorem dX12_tradesOf_1 : decode cX12_tradesOf 1 = .ok (.iload_n 1, 1) := by decide +kernel
theorem dX12_tradesOf_2 : decode cX12_tradesOf 2 = .ok (.iconst 0, 1) := by decide +kernel
theorem dX12_tradesOf_3 : decode cX12_tradesOf 3 = .ok (.invokevirtual 289, 3) := by decide +kernel
theorem dX12_tradesOf_6 : decode cX12_tradesOf 6 = .ok (.istore_n 3, 1) := by decide +kernel
theorem dX12_tradesOf_7 : decode cX12_tradesOf 7 = .ok (.aload_n 0, 1) := by decide +kernel
theorem dX12_tradesOf_8 : decode cX12_tradesOf 8 = .ok (.iload_n 2, 1) := by decide +kernel
theorem dX12_tradesOf_9 : decode cX12_tradesOf 9 = .ok (.iconst 0, 1) := by decide +kernel
theorem dX12_tradesOf_10 : decode cX12_tradesOf 10 = .ok (.invokevirtual 289, 3) := by decide +kernel
theorem dX12_tradesOf_13 : decode cX12_tradesOf 13 = .ok (.istore 4, 2) := by decide +kernel
theorem dX12_tradesOf_15 : decode cX12_tradesOf 15 = .ok (.iconst 0, 1) := by decide +kernel
theorem dX12_tradesOf_16 : decode cX12_tradesOf 16 = .ok (.istore 5, 2) := by decide +kernel
theorem dX12_tradesOf_18 : decode cX12_tradesOf 18 = .ok (.iload 5, 2) := by decide +kernel
theorem dX12_tradesOf_20 : decode cX12_tradesOf 20 = .ok (.aload_n 0, 1) := by decide +kernel
theorem dX12_tradesOf_21 : decode cX12_tradesOf 21 = .ok (.getfield 142, 3) := by decide +kernel
theorem dX12_tradesOf_24 : decode cX12_tradesOf 24 = .ok (.if_icmp .ge 152, 3) := by decide +kernel
theorem dX12_tradesOf_27 : decode cX12_tradesOf 27 = .ok (.iload 5, 2) := by decide +kernel
theorem dX12_tradesOf_29 : decode cX12_tradesOf 29 = .ok (.iconst 1, 1) := by decide +kernel
theorem dX12_tradesOf_30 : decode cX12_tradesOf 30 = .ok (.iadd, 1) := by decide +kernel
theorem dX12_tradesOf_31 : decode cX12_tradesOf 31 = .ok (.istore 6, 2) := by decide +kernel
theorem dX12_tradesOf_33 : decode cX12_tradesOf 33 = .ok (.iload 6, 2) := by decide +kernel
theorem dX12_tradesOf_35 : decode cX12_tradesOf 35 = .ok (.aload_n 0, 1) := by decide +kernel
theorem dX12_tradesOf_36 : decode cX12_tradesOf 36 = .ok (.getfield 142, 3) := by decide +kernel
theorem dX12_tradesOf_39 : decode cX12_tradesOf 39 = .ok (.if_icmp .ge 131, 3) := by decide +kernel
theorem dX12_tradesOf_42 : decode cX12_tradesOf 42 = .ok (.aload_n 0, 1) := by decide +kernel
theorem dX12_tradesOf_43 : decode cX12_tradesOf 43 = .ok (.getfield 62, 3) := by decide +kernel
theorem dX12_tradesOf_46 : decode cX12_tradesOf 46 = .ok (.iconst 0, 1) := by decide +kernel
theorem dX12_tradesOf_47 : decode cX12_tradesOf 47 = .ok (.iload 5, 2) := by decide +kernel
theorem dX12_tradesOf_49 : decode cX12_tradesOf 49 = .ok (.iadd, 1) := by decide +kernel
theorem dX12_tradesOf_50 : decode cX12_tradesOf 50 = .ok (.iaload, 1) := by decide +kernel
theorem dX12_tradesOf_51 : decode cX12_tradesOf 51 = .ok (.istore 7, 2) := by decide +kernel
theorem dX12_tradesOf_53 : decode cX12_tradesOf 53 = .ok (.aload_n 0, 1) := by decide +kernel
theorem dX12_tradesOf_54 : decode cX12_tradesOf 54 = .ok (.getfield 62, 3) := by decide +kernel
theorem dX12_tradesOf_57 : decode cX12_tradesOf 57 = .ok (.iconst 0, 1) := by decide +kernel
theorem dX12_tradesOf_58 : decode cX12_tradesOf 58 = .ok (.iload 6, 2) := by decide +kernel
theorem dX12_tradesOf_60 : decode cX12_tradesOf 60 = .ok (.iadd, 1) := by decide +kernel
theorem dX12_tradesOf_61 : decode cX12_tradesOf 61 = .ok (.iaload, 1) := by decide +kernel
theorem dX12_tradesOf_62 : decode cX12_tradesOf 62 = .ok (.istore 8, 2) := by decide +kernel
theorem dX12_tradesOf_64 : decode cX12_tradesOf 64 = .ok (.iconst 0, 1) := by decide +kernel
theorem dX12_tradesOf_65 : decode cX12_tradesOf 65 = .ok (.istore 9, 2) := by decide +kernel
theorem dX12_tradesOf_67 : decode cX12_tradesOf 67 = .ok (.iload 9, 2) := by decide +kernel
theorem dX12_tradesOf_69 : decode cX12_tradesOf 69 = .ok (.aload_n 0, 1) := by decide +kernel
theorem dX12_tradesOf_70 : decode cX12_tradesOf 70 = .ok (.getfield 7, 3) := by decide +kernel
theorem dX12_tradesOf_73 : decode cX12_tradesOf 73 = .ok (.aload_n 0, 1) := by decide +kernel
theorem dX12_tradesOf_74 : decode cX12_tradesOf 74 = .ok (.getfield 7, 3) := by decide +kernel
theorem dX12_tradesOf_77 : decode cX12_tradesOf 77 = .ok (.imul, 1) := by decide +kernel
theorem dX12_tradesOf_78 : decode cX12_tradesOf 78 = .ok (.if_icmp .ge 64, 3) := by decide +kernel
theorem dX12_tradesOf_81 : decode cX12_tradesOf 81 = .ok (.aload_n 0, 1) := by decide +kernel
theorem dX12_tradesOf_82 : decode cX12_tradesOf 82 = .ok (.getfield 62, 3) := by decide +kernel
theorem dX12_tradesOf_85 : decode cX12_tradesOf 85 = .ok (.iconst 0, 1) := by decide +kernel
theorem dX12_tradesOf_86 : decode cX12_tradesOf 86 = .ok (.iload 5, 2) := by decide +kernel
theorem dX12_tradesOf_88 : decode cX12_tradesOf 88 = .ok (.iadd, 1) := by decide +kernel
theorem dX12_tradesOf_89 : decode cX12_tradesOf 89 = .ok (.iload 9, 2) := by decide +kernel
theorem dX12_tradesOf_91 : decode cX12_tradesOf 91 = .ok (.aload_n 0, 1) := by decide +kernel
theorem dX12_tradesOf_92 : decode cX12_tradesOf 92 = .ok (.getfield 7, 3) := by decide +kernel
theorem dX12_tradesOf_95 : decode cX12_tradesOf 95 = .ok (.idiv, 1) := by decide +kernel
theorem dX12_tradesOf_96 : decode cX12_tradesOf 96 = .ok (.iastore, 1) := by decide +kernel
theorem dX12_tradesOf_97 : decode cX12_tradesOf 97 = .ok (.aload_n 0, 1) := by decide +kernel
theorem dX12_tradesOf_98 : decode cX12_tradesOf 98 = .ok (.getfield 62, 3) := by decide +kernel
theorem dX12_tradesOf_101 : decode cX12_tradesOf 101 = .ok (.iconst 0, 1) := by decide +kernel
theorem dX12_tradesOf_102 : decode cX12_tradesOf 102 = .ok (.iload 6, 2) := by decide +kernel
theorem dX12_tradesOf_104 : decode cX12_tradesOf 104 = .ok (.iadd, 1) := by decide +kernel
theorem dX12_tradesOf_105 : decode cX12_tradesOf 105 = .ok (.iload 9, 2) := by decide +kernel
theorem dX12_tradesOf_107 : decode cX12_tradesOf 107 = .ok (.aload_n 0, 1) := by decide +kernel
theorem dX12_tradesOf_108 : decode cX12_tradesOf 108 = .ok (.getfield 7, 3) := by decide +kernel
theorem dX12_tradesOf_111 : decode cX12_tradesOf 111 = .ok (.irem, 1) := by decide +kernel
theorem dX12_tradesOf_112 : decode cX12_tradesOf 112 = .ok (.iastore, 1) := by decide +kernel
theorem dX12_tradesOf_113 : decode cX12_tradesOf 113 = .ok (.aload_n 0, 1) := by decide +kernel
theorem dX12_tradesOf_114 : decode cX12_tradesOf 114 = .ok (.iload_n 1, 1) := by decide +kernel
theorem dX12_tradesOf_115 : decode cX12_tradesOf 115 = .ok (.iconst 0, 1) := by decide +kernel
theorem dX12_tradesOf_116 : decode cX12_tradesOf 116 = .ok (.invokevirtual 289, 3) := by decide +kernel
theorem dX12_tradesOf_119 : decode cX12_tradesOf 119 = .ok (.iload_n 3, 1) := by decide +kernel
theorem dX12_tradesOf_120 : decode cX12_tradesOf 120 = .ok (.if_icmp .le 16, 3) := by decide +kernel
theorem dX12_tradesOf_123 : decode cX12_tradesOf 123 = .ok (.aload_n 0, 1) := by decide +kernel
theorem dX12_tradesOf_124 : decode cX12_tradesOf 124 = .ok (.iload_n 2, 1) := by decide +kernel
theorem dX12_tradesOf_125 : decode cX12_tradesOf 125 = .ok (.iconst 0, 1) := by decide +kernel
theorem dX12_tradesOf_126 : decode cX12_tradesOf 126 = .ok (.invokevirtual 289, 3) := by decide +kernel
theorem dX12_tradesOf_129 : decode cX12_tradesOf 129 = .ok (.iload 4, 2) := by decide +kernel
theorem dX12_tradesOf_131 : decode cX12_tradesOf 131 = .ok (.if_icmp .le 5, 3) := by decide +kernel
theorem dX12_tradesOf_134 : decode cX12_tradesOf 134 = .ok (.iconst 1, 1) := by decide +kernel
theorem dX12_tradesOf_135 : decode cX12_tradesOf 135 = .ok (.ireturn, 1) := by decide +kernel
theorem dX12_tradesOf_136 : decode cX12_tradesOf 136 = .ok (.iinc 9 1, 3) := by decide +kernel
theorem dX12_tradesOf_139 : decode cX12_tradesOf 139 = .ok (.goto (-72), 3) := by decide +kernel
theorem dX12_tradesOf_142 : decode cX12_tradesOf 142 = .ok (.aload_n 0, 1) := by decide +kernel
theorem dX12_tradesOf_143 : decode cX12_tradesOf 143 = .ok (.getfield 62, 3) := by decide +kernel
theorem dX12_tradesOf_146 : decode cX12_tradesOf 146 = .ok (.iconst 0, 1) := by decide +kernel
theorem dX12_tradesOf_147 : decode cX12_tradesOf 147 = .ok (.iload 5, 2) := by decide +kernel
theorem dX12_tradesOf_149 : decode cX12_tradesOf 149 = .ok (.iadd, 1) := by decide +kernel
theorem dX12_tradesOf_150 : decode cX12_tradesOf 150 = .ok (.iload 7, 2) := by decide +kernel
theorem dX12_tradesOf_152 : decode cX12_tradesOf 152 = .ok (.iastore, 1) := by decide +kernel
theorem dX12_tradesOf_153 : decode cX12_tradesOf 153 = .ok (.aload_n 0, 1) := by decide +kernel
theorem dX12_tradesOf_154 : decode cX12_tradesOf 154 = .ok (.getfield 62, 3) := by decide +kernel
theorem dX12_tradesOf_157 : decode cX12_tradesOf 157 = .ok (.iconst 0, 1) := by decide +kernel
theorem dX12_tradesOf_158 : decode cX12_tradesOf 158 = .ok (.iload 6, 2) := by decide +kernel
theorem dX12_tradesOf_160 : decode cX12_tradesOf 160 = .ok (.iadd, 1) := by decide +kernel
theorem dX12_tradesOf_161 : decode cX12_tradesOf 161 = .ok (.iload 8, 2) := by decide +kernel
theorem dX12_tradesOf_163 : decode cX12_tradesOf 163 = .ok (.iastore, 1) := by decide +kernel
theorem dX12_tradesOf_164 : decode cX12_tradesOf 164 = .ok (.iinc 6 1, 3) := by decide +kernel
theorem dX12_tradesOf_167 : decode cX12_tradesOf 167 = .ok (.goto (-134), 3) := by decide +kernel
theorem dX12_tradesOf_170 : decode cX12_tradesOf 170 = .ok (.iinc 5 1, 3) := by decide +kernel
theorem dX12_tradesOf_173 : decode cX12_tradesOf 173 = .ok (.goto (-155), 3) := by decide +kernel
theorem dX12_tradesOf_176 : decode cX12_tradesOf 176 = .ok (.iconst 0, 1) := by decide +kernel
theorem dX12_tradesOf_177 : decode cX12_tradesOf 177 = .ok (.ireturn, 1) := by decide +kernel
theorem dX12_round_0 : decode cX12_round 0 = .ok (.aload_n 0, 1) := by decide +kernel
theorem dX12_round_1 : decode cX12_round 1 = .ok (.invokevirtual 286, 3) := by decide +kernel
theorem dX12_round_4 : decode cX12_round 4 = .ok (.iconst 0, 1) := by decide +kernel
theorem dX12_round_5 : decode cX12_round 5 = .ok (.istore_n 1, 1) := by decide +kernel
theorem dX12_round_6 : decode cX12_round 6 = .ok (.iconst 0, 1) := by decide +kernel
theorem dX12_round_7 : decode cX12_round 7 = .ok (.istore_n 2, 1) := by decide +kernel
theorem dX12_round_8 : decode cX12_round 8 = .ok (.iload_n 2, 1) := by decide +kernel
theorem dX12_round_9 : decode cX12_round 9 = .ok (.aload_n 0, 1) := by decide +kernel
theorem dX12_round_10 : decode cX12_round 10 = .ok (.getfield 145, 3) := by decide +kernel
theorem dX12_round_13 : decode cX12_round 13 = .ok (.if_icmp .ge 40, 3) := by decide +kernel
theorem dX12_round_16 : decode cX12_round 16 = .ok (.iload_n 2, 1) := by decide +kernel
theorem dX12_round_17 : decode cX12_round 17 = .ok (.iconst 1, 1) := by decide +kernel
theorem dX12_round_18 : decode cX12_round 18 = .ok (.iadd, 1) := by decide +kernel
theorem dX12_round_19 : decode cX12_round 19 = .ok (.istore_n 3, 1) := by decide +kernel
theorem dX12_round_20 : decode cX12_round 20 = .ok (.iload_n 3, 1) := by decide +kernel
theorem dX12_round_21 : decode cX12_round 21 = .ok (.aload_n 0, 1) := by decide +kernel
theorem dX12_round_22 : decode cX12_round 22 = .ok (.getfield 145, 3) := by decide +kernel
theorem dX12_round_25 : decode cX12_round 25 = .ok (.if_icmp .ge 22, 3) := by decide +kernel
theorem dX12_round_28 : decode cX12_round 28 = .ok (.aload_n 0, 1) := by decide +kernel
theorem dX12_round_29 : decode cX12_round 29 = .ok (.iload_n 2, 1) := by decide +kernel
theorem dX12_round_30 : decode cX12_round 30 = .ok (.iload_n 3, 1) := by decide +kernel
theorem dX12_round_31 : decode cX12_round 31 = .ok (.invokevirtual 343, 3) := by decide +kernel
theorem dX12_round_34 : decode cX12_round 34 = .ok (.ifCond .eq 7, 3) := by decide +kernel
theorem dX12_round_37 : decode cX12_round 37 = .ok (.iload_n 1, 1) := by decide +kernel
theorem dX12_round_38 : decode cX12_round 38 = .ok (.iconst 1, 1) := by decide +kernel
theorem dX12_round_39 : decode cX12_round 39 = .ok (.iadd, 1) := by decide +kernel
theorem dX12_round_40 : decode cX12_round 40 = .ok (.istore_n 1, 1) := by decide +kernel
theorem dX12_round_41 : decode cX12_round 41 = .ok (.iinc 3 1, 3) := by decide +kernel
theorem dX12_round_44 : decode cX12_round 44 = .ok (.goto (-24), 3) := by decide +kernel
theorem dX12_round_47 : decode cX12_round 47 = .ok (.iinc 2 1, 3) := by decide +kernel
theorem dX12_round_50 : decode cX12_round 50 = .ok (.goto (-42), 3) := by decide +kernel
theorem dX12_round_53 : decode cX12_round 53 = .ok (.iload_n 1, 1) := by decide +kernel
theorem dX12_round_54 : decode cX12_round 54 = .ok (.ireturn, 1) := by decide +kernel
theorem dX12_trade_0 : decode cX12_trade 0 = .ok (.aload_n 0, 1) := by decide +kernel
theorem dX12_trade_1 : decode cX12_trade 1 = .ok (.iconst 0, 1) := by decide +kernel
theorem dX12_trade_2 : decode cX12_trade 2 = .ok (.putfield 134, 3) := by decide +kernel
theorem dX12_trade_5 : decode cX12_trade 5 = .ok (.aload_n 0, 1) := by decide +kernel
theorem dX12_trade_6 : decode cX12_trade 6 = .ok (.invokevirtual 346, 3) := by decide +kernel
theorem dX12_trade_9 : decode cX12_trade 9 = .ok (.ireturn, 1) := by decide +kernel
theorem dX12_stand_0 : decode cX12_stand 0 = .ok (.aload_n 0, 1) := by decide +kernel
theorem dX12_stand_1 : decode cX12_stand 1 = .ok (.iconst 0, 1) := by decide +kernel
theorem dX12_stand_2 : decode cX12_stand 2 = .ok (.putfield 134, 3) := by decide +kernel
theorem dX12_stand_5 : decode cX12_stand 5 = .ok (.iconst 0, 1) := by decide +kernel
theorem dX12_stand_6 : decode cX12_stand 6 = .ok (.istore_n 1, 1) := by decide +kernel
theorem dX12_stand_7 : decode cX12_stand 7 = .ok (.iload_n 1, 1) := by decide +kernel
theorem dX12_stand_8 : decode cX12_stand 8 = .ok (.aload_n 0, 1) := by decide +kernel
theorem dX12_stand_9 : decode cX12_stand 9 = .ok (.getfield 142, 3) := by decide +kernel
theorem dX12_stand_12 : decode cX12_stand 12 = .ok (.if_icmp .ge 26, 3) := by decide +kernel
theorem dX12_stand_15 : decode cX12_stand 15 = .ok (.aload_n 0, 1) := by decide +kernel
theorem dX12_stand_16 : decode cX12_stand 16 = .ok (.getfield 62, 3) := by decide +kernel
theorem dX12_stand_19 : decode cX12_stand 19 = .ok (.bipush 28, 2) := by decide +kernel
theorem dX12_stand_21 : decode cX12_stand 21 = .ok (.iload_n 1, 1) := by decide +kernel
theorem dX12_stand_22 : decode cX12_stand 22 = .ok (.iadd, 1) := by decide +kernel
theorem dX12_stand_23 : decode cX12_stand 23 = .ok (.aload_n 0, 1) := by decide +kernel
theorem dX12_stand_24 : decode cX12_stand 24 = .ok (.getfield 62, 3) := by decide +kernel
theorem dX12_stand_27 : decode cX12_stand 27 = .ok (.iconst 0, 1) := by decide +kernel
theorem dX12_stand_28 : decode cX12_stand 28 = .ok (.iload_n 1, 1) := by decide +kernel
theorem dX12_stand_29 : decode cX12_stand 29 = .ok (.iadd, 1) := by decide +kernel
theorem dX12_stand_30 : decode cX12_stand 30 = .ok (.iaload, 1) := by decide +kernel
theorem dX12_stand_31 : decode cX12_stand 31 = .ok (.iastore, 1) := by decide +kernel
theorem dX12_stand_32 : decode cX12_stand 32 = .ok (.iinc 1 1, 3) := by decide +kernel
theorem dX12_stand_35 : decode cX12_stand 35 = .ok (.goto (-28), 3) := by decide +kernel
theorem dX12_stand_38 : decode cX12_stand 38 = .ok (.iconst 0, 1) := by decide +kernel
theorem dX12_stand_39 : decode cX12_stand 39 = .ok (.istore_n 1, 1) := by decide +kernel
theorem dX12_stand_40 : decode cX12_stand 40 = .ok (.iconst 1, 1) := by decide +kernel
theorem dX12_stand_41 : decode cX12_stand 41 = .ok (.istore_n 2, 1) := by decide +kernel
theorem dX12_stand_42 : decode cX12_stand 42 = .ok (.iconst 0, 1) := by decide +kernel
theorem dX12_stand_43 : decode cX12_stand 43 = .ok (.istore_n 3, 1) := by decide +kernel
theorem dX12_stand_44 : decode cX12_stand 44 = .ok (.iload_n 3, 1) := by decide +kernel
theorem dX12_stand_45 : decode cX12_stand 45 = .ok (.bipush 30, 2) := by decide +kernel
theorem dX12_stand_47 : decode cX12_stand 47 = .ok (.if_icmp .ge 22, 3) := by decide +kernel
theorem dX12_stand_50 : decode cX12_stand 50 = .ok (.iload_n 2, 1) := by decide +kernel
theorem dX12_stand_51 : decode cX12_stand 51 = .ok (.ifCond .le 18, 3) := by decide +kernel
theorem dX12_stand_54 : decode cX12_stand 54 = .ok (.aload_n 0, 1) := by decide +kernel
theorem dX12_stand_55 : decode cX12_stand 55 = .ok (.invokevirtual 346, 3) := by decide +kernel
theorem dX12_stand_58 : decode cX12_stand 58 = .ok (.istore_n 2, 1) := by decide +kernel
theorem dX12_stand_59 : decode cX12_stand 59 = .ok (.iload_n 1, 1) := by decide +kernel
theorem dX12_stand_60 : decode cX12_stand 60 = .ok (.iload_n 2, 1) := by decide +kernel
theorem dX12_stand_61 : decode cX12_stand 61 = .ok (.iadd, 1) := by decide +kernel
theorem dX12_stand_62 : decode cX12_stand 62 = .ok (.istore_n 1, 1) := by decide +kernel
theorem dX12_stand_63 : decode cX12_stand 63 = .ok (.iinc 3 1, 3) := by decide +kernel
theorem dX12_stand_66 : decode cX12_stand 66 = .ok (.goto (-22), 3) := by decide +kernel
theorem dX12_stand_69 : decode cX12_stand 69 = .ok (.iconst 0, 1) := by decide +kernel
theorem dX12_stand_70 : decode cX12_stand 70 = .ok (.istore_n 3, 1) := by decide +kernel
theorem dX12_stand_71 : decode cX12_stand 71 = .ok (.iload_n 3, 1) := by decide +kernel
theorem dX12_stand_72 : decode cX12_stand 72 = .ok (.aload_n 0, 1) := by decide +kernel
theorem dX12_stand_73 : decode cX12_stand 73 = .ok (.getfield 142, 3) := by decide +kernel
theorem dX12_stand_76 : decode cX12_stand 76 = .ok (.if_icmp .ge 26, 3) := by decide +kernel
theorem dX12_stand_79 : decode cX12_stand 79 = .ok (.aload_n 0, 1) := by decide +kernel
theorem dX12_stand_80 : decode cX12_stand 80 = .ok (.getfield 62, 3) := by decide +kernel
theorem dX12_stand_83 : decode cX12_stand 83 = .ok (.iconst 0, 1) := by decide +kernel
theorem dX12_stand_84 : decode cX12_stand 84 = .ok (.iload_n 3, 1) := by decide +kernel
theorem dX12_stand_85 : decode cX12_stand 85 = .ok (.iadd, 1) := by decide +kernel
theorem dX12_stand_86 : decode cX12_stand 86 = .ok (.aload_n 0, 1) := by decide +kernel
theorem dX12_stand_87 : decode cX12_stand 87 = .ok (.getfield 62, 3) := by decide +kernel
theorem dX12_stand_90 : decode cX12_stand 90 = .ok (.bipush 28, 2) := by decide +kernel
theorem dX12_stand_92 : decode cX12_stand 92 = .ok (.iload_n 3, 1) := by decide +kernel
theorem dX12_stand_93 : decode cX12_stand 93 = .ok (.iadd, 1) := by decide +kernel
theorem dX12_stand_94 : decode cX12_stand 94 = .ok (.iaload, 1) := by decide +kernel
theorem dX12_stand_95 : decode cX12_stand 95 = .ok (.iastore, 1) := by decide +kernel
theorem dX12_stand_96 : decode cX12_stand 96 = .ok (.iinc 3 1, 3) := by decide +kernel
theorem dX12_stand_99 : decode cX12_stand 99 = .ok (.goto (-28), 3) := by decide +kernel
theorem dX12_stand_102 : decode cX12_stand 102 = .ok (.iload_n 2, 1) := by decide +kernel
theorem dX12_stand_103 : decode cX12_stand 103 = .ok (.ifCond .le 7, 3) := by decide +kernel
theorem dX12_stand_106 : decode cX12_stand 106 = .ok (.iconst (-1), 1) := by decide +kernel
theorem dX12_stand_107 : decode cX12_stand 107 = .ok (.goto 4, 3) := by decide +kernel
theorem dX12_stand_110 : decode cX12_stand 110 = .ok (.iload_n 1, 1) := by decide +kernel
theorem dX12_stand_111 : decode cX12_stand 111 = .ok (.ireturn, 1) := by decide +kernel
theorem dX12_hope_0 : decode cX12_hope 0 = .ok (.aload_n 0, 1) := by decide +kernel
theorem dX12_hope_1 : decode cX12_hope 1 = .ok (.iconst 0, 1) := by decide +kernel
theorem dX12_hope_2 : decode cX12_hope 2 = .ok (.putfield 134, 3) := by decide +kernel
theorem dX12_hope_5 : decode cX12_hope 5 = .ok (.aload_n 0, 1) := by decide +kernel
theorem dX12_hope_6 : decode cX12_hope 6 = .ok (.iload_n 1, 1) := by decide +kernel
theorem dX12_hope_7 : decode cX12_hope 7 = .ok (.invokevirtual 178, 3) := by decide +kernel
theorem dX12_hope_10 : decode cX12_hope 10 = .ok (.ifCond .eq 48, 3) := by decide +kernel
theorem dX12_hope_13 : decode cX12_hope 13 = .ok (.aload_n 0, 1) := by decide +kernel
theorem dX12_hope_14 : decode cX12_hope 14 = .ok (.iload_n 2, 1) := by decide +kernel
theorem dX12_hope_15 : decode cX12_hope 15 = .ok (.invokevirtual 164, 3) := by decide +kernel
theorem dX12_hope_18 : decode cX12_hope 18 = .ok (.ifCond .eq 40, 3) := by decide +kernel
theorem dX12_hope_21 : decode cX12_hope 21 = .ok (.aload_n 0, 1) := by decide +kernel
theorem dX12_hope_22 : decode cX12_hope 22 = .ok (.iload_n 3, 1) := by decide +kernel
theorem dX12_hope_23 : decode cX12_hope 23 = .ok (.iconst 1, 1) := by decide +kernel
theorem dX12_hope_24 : decode cX12_hope 24 = .ok (.aload_n 0, 1) := by decide +kernel
theorem dX12_hope_25 : decode cX12_hope 25 = .ok (.getfield 145, 3) := by decide +kernel
theorem dX12_hope_28 : decode cX12_hope 28 = .ok (.invokevirtual 148, 3) := by decide +kernel
theorem dX12_hope_31 : decode cX12_hope 31 = .ok (.ifCond .eq 27, 3) := by decide +kernel
theorem dX12_hope_34 : decode cX12_hope 34 = .ok (.aload_n 0, 1) := by decide +kernel
theorem dX12_hope_35 : decode cX12_hope 35 = .ok (.iload 4, 2) := by decide +kernel
theorem dX12_hope_37 : decode cX12_hope 37 = .ok (.iconst 0, 1) := by decide +kernel
theorem dX12_hope_38 : decode cX12_hope 38 = .ok (.sipush 9999, 3) := by decide +kernel
theorem dX12_hope_41 : decode cX12_hope 41 = .ok (.invokevirtual 148, 3) := by decide +kernel
theorem dX12_hope_44 : decode cX12_hope 44 = .ok (.ifCond .eq 14, 3) := by decide +kernel
theorem dX12_hope_47 : decode cX12_hope 47 = .ok (.aload_n 0, 1) := by decide +kernel
theorem dX12_hope_48 : decode cX12_hope 48 = .ok (.iload 5, 2) := by decide +kernel
theorem dX12_hope_50 : decode cX12_hope 50 = .ok (.iconst 0, 1) := by decide +kernel
theorem dX12_hope_51 : decode cX12_hope 51 = .ok (.iconst 1, 1) := by decide +kernel
theorem dX12_hope_52 : decode cX12_hope 52 = .ok (.invokevirtual 148, 3) := by decide +kernel
theorem dX12_hope_55 : decode cX12_hope 55 = .ok (.ifCond .ne 6, 3) := by decide +kernel
theorem dX12_hope_58 : decode cX12_hope 58 = .ok (.bipush (-10), 2) := by decide +kernel
theorem dX12_hope_60 : decode cX12_hope 60 = .ok (.ireturn, 1) := by decide +kernel
theorem dX12_hope_61 : decode cX12_hope 61 = .ok (.aload_n 0, 1) := by decide +kernel
theorem dX12_hope_62 : decode cX12_hope 62 = .ok (.invokevirtual 286, 3) := by decide +kernel
theorem dX12_hope_65 : decode cX12_hope 65 = .ok (.iconst 0, 1) := by decide +kernel
theorem dX12_hope_66 : decode cX12_hope 66 = .ok (.istore 6, 2) := by decide +kernel
theorem dX12_hope_68 : decode cX12_hope 68 = .ok (.iload 6, 2) := by decide +kernel
theorem dX12_hope_70 : decode cX12_hope 70 = .ok (.aload_n 0, 1) := by decide +kernel
theorem dX12_hope_71 : decode cX12_hope 71 = .ok (.getfield 142, 3) := by decide +kernel
theorem dX12_hope_74 : decode cX12_hope 74 = .ok (.if_icmp .ge 38, 3) := by decide +kernel
theorem dX12_hope_77 : decode cX12_hope 77 = .ok (.aload_n 0, 1) := by decide +kernel
theorem dX12_hope_78 : decode cX12_hope 78 = .ok (.getfield 62, 3) := by decide +kernel
theorem dX12_hope_81 : decode cX12_hope 81 = .ok (.bipush 21, 2) := by decide +kernel
theorem dX12_hope_83 : decode cX12_hope 83 = .ok (.iload 6, 2) := by decide +kernel
theorem dX12_hope_85 : decode cX12_hope 85 = .ok (.iadd, 1) := by decide +kernel
theorem dX12_hope_86 : decode cX12_hope 86 = .ok (.iload 6, 2) := by decide +kernel
theorem dX12_hope_88 : decode cX12_hope 88 = .ok (.iload_n 1, 1) := by decide +kernel
theorem dX12_hope_89 : decode cX12_hope 89 = .ok (.if_icmp .ne 7, 3) := by decide +kernel
theorem dX12_hope_92 : decode cX12_hope 92 = .ok (.iload_n 2, 1) := by decide +kernel
theorem dX12_hope_93 : decode cX12_hope 93 = .ok (.goto 12, 3) := by decide +kernel
theorem dX12_hope_96 : decode cX12_hope 96 = .ok (.aload_n 0, 1) := by decide +kernel
theorem dX12_hope_97 : decode cX12_hope 97 = .ok (.getfield 62, 3) := by decide +kernel
theorem dX12_hope_100 : decode cX12_hope 100 = .ok (.iconst 0, 1) := by decide +kernel
theorem dX12_hope_101 : decode cX12_hope 101 = .ok (.iload 6, 2) := by decide +kernel
theorem dX12_hope_103 : decode cX12_hope 103 = .ok (.iadd, 1) := by decide +kernel
theorem dX12_hope_104 : decode cX12_hope 104 = .ok (.iaload, 1) := by decide +kernel
theorem dX12_hope_105 : decode cX12_hope 105 = .ok (.iastore, 1) := by decide +kernel
theorem dX12_hope_106 : decode cX12_hope 106 = .ok (.iinc 6 1, 3) := by decide +kernel
theorem dX12_hope_109 : decode cX12_hope 109 = .ok (.goto (-41), 3) := by decide +kernel
theorem dX12_hope_112 : decode cX12_hope 112 = .ok (.iconst 0, 1) := by decide +kernel
theorem dX12_hope_113 : decode cX12_hope 113 = .ok (.istore 6, 2) := by decide +kernel
theorem dX12_hope_115 : decode cX12_hope 115 = .ok (.iload 6, 2) := by decide +kernel
theorem dX12_hope_117 : decode cX12_hope 117 = .ok (.aload_n 0, 1) := by decide +kernel
theorem dX12_hope_118 : decode cX12_hope 118 = .ok (.getfield 145, 3) := by decide +kernel
theorem dX12_hope_121 : decode cX12_hope 121 = .ok (.if_icmp .ge 32, 3) := by decide +kernel
theorem dX12_hope_124 : decode cX12_hope 124 = .ok (.aload_n 0, 1) := by decide +kernel
theorem dX12_hope_125 : decode cX12_hope 125 = .ok (.getfield 107, 3) := by decide +kernel
theorem dX12_hope_128 : decode cX12_hope 128 = .ok (.iload 6, 2) := by decide +kernel
theorem dX12_hope_130 : decode cX12_hope 130 = .ok (.aload_n 0, 1) := by decide +kernel
theorem dX12_hope_131 : decode cX12_hope 131 = .ok (.iload 6, 2) := by decide +kernel
theorem dX12_hope_133 : decode cX12_hope 133 = .ok (.bipush 21, 2) := by decide +kernel
theorem dX12_hope_135 : decode cX12_hope 135 = .ok (.invokevirtual 289, 3) := by decide +kernel
theorem dX12_hope_138 : decode cX12_hope 138 = .ok (.aload_n 0, 1) := by decide +kernel
theorem dX12_hope_139 : decode cX12_hope 139 = .ok (.iload 6, 2) := by decide +kernel
theorem dX12_hope_141 : decode cX12_hope 141 = .ok (.iconst 0, 1) := by decide +kernel
theorem dX12_hope_142 : decode cX12_hope 142 = .ok (.invokevirtual 289, 3) := by decide +kernel
theorem dX12_hope_145 : decode cX12_hope 145 = .ok (.isub, 1) := by decide +kernel
theorem dX12_hope_146 : decode cX12_hope 146 = .ok (.iastore, 1) := by decide +kernel
theorem dX12_hope_147 : decode cX12_hope 147 = .ok (.iinc 6 1, 3) := by decide +kernel
theorem dX12_hope_150 : decode cX12_hope 150 = .ok (.goto (-35), 3) := by decide +kernel
theorem dX12_hope_153 : decode cX12_hope 153 = .ok (.iconst 0, 1) := by decide +kernel
theorem dX12_hope_154 : decode cX12_hope 154 = .ok (.istore 6, 2) := by decide +kernel
theorem dX12_hope_156 : decode cX12_hope 156 = .ok (.iconst (-1), 1) := by decide +kernel
theorem dX12_hope_157 : decode cX12_hope 157 = .ok (.istore 7, 2) := by decide +kernel
theorem dX12_hope_159 : decode cX12_hope 159 = .ok (.iconst 0, 1) := by decide +kernel
theorem dX12_hope_160 : decode cX12_hope 160 = .ok (.istore 8, 2) := by decide +kernel
theorem dX12_hope_162 : decode cX12_hope 162 = .ok (.iload 8, 2) := by decide +kernel
theorem dX12_hope_164 : decode cX12_hope 164 = .ok (.iconst 1, 1) := by decide +kernel
theorem dX12_hope_165 : decode cX12_hope 165 = .ok (.aload_n 0, 1) := by decide +kernel
theorem dX12_hope_166 : decode cX12_hope 166 = .ok (.getfield 145, 3) := by decide +kernel
theorem dX12_hope_169 : decode cX12_hope 169 = .ok (.ishl, 1) := by decide +kernel
theorem dX12_hope_170 : decode cX12_hope 170 = .ok (.if_icmp .ge 180, 3) := by decide +kernel
theorem dX12_hope_173 : decode cX12_hope 173 = .ok (.aload_n 0, 1) := by decide +kernel
theorem dX12_hope_174 : decode cX12_hope 174 = .ok (.iload 8, 2) := by decide +kernel
theorem dX12_hope_176 : decode cX12_hope 176 = .ok (.invokevirtual 349, 3) := by decide +kernel
theorem dX12_hope_179 : decode cX12_hope 179 = .ok (.istore 9, 2) := by decide +kernel
theorem dX12_hope_181 : decode cX12_hope 181 = .ok (.iconst 1, 1) := by decide +kernel
theorem dX12_hope_182 : decode cX12_hope 182 = .ok (.istore 10, 2) := by decide +kernel
theorem dX12_hope_184 : decode cX12_hope 184 = .ok (.iconst 0, 1) := by decide +kernel
theorem dX12_hope_185 : decode cX12_hope 185 = .ok (.istore 11, 2) := by decide +kernel
theorem dX12_hope_187 : decode cX12_hope 187 = .ok (.iload 11, 2) := by decide +kernel
theorem dX12_hope_189 : decode cX12_hope 189 = .ok (.aload_n 0, 1) := by decide +kernel
theorem dX12_hope_190 : decode cX12_hope 190 = .ok (.getfield 145, 3) := by decide +kernel
theorem dX12_hope_193 : decode cX12_hope 193 = .ok (.if_icmp .ge 122, 3) := by decide +kernel
theorem dX12_hope_196 : decode cX12_hope 196 = .ok (.iload 10, 2) := by decide +kernel
theorem dX12_hope_198 : decode cX12_hope 198 = .ok (.ifCond .eq 117, 3) := by decide +kernel
theorem dX12_hope_201 : decode cX12_hope 201 = .ok (.iload 8, 2) := by decide +kernel
theorem dX12_hope_203 : decode cX12_hope 203 = .ok (.iload 11, 2) := by decide +kernel
theorem dX12_hope_205 : decode cX12_hope 205 = .ok (.ishr, 1) := by decide +kernel
theorem dX12_hope_206 : decode cX12_hope 206 = .ok (.iconst 1, 1) := by decide +kernel
theorem dX12_hope_207 : decode cX12_hope 207 = .ok (.iand, 1) := by decide +kernel
theorem dX12_hope_208 : decode cX12_hope 208 = .ok (.iconst 1, 1) := by decide +kernel
theorem dX12_hope_209 : decode cX12_hope 209 = .ok (.if_icmp .ne 7, 3) := by decide +kernel
theorem dX12_hope_212 : decode cX12_hope 212 = .ok (.iconst 1, 1) := by decide +kernel
theorem dX12_hope_213 : decode cX12_hope 213 = .ok (.goto 4, 3) := by decide +kernel
theorem dX12_hope_216 : decode cX12_hope 216 = .ok (.iconst 0, 1) := by decide +kernel
theorem dX12_hope_217 : decode cX12_hope 217 = .ok (.istore 12, 2) := by decide +kernel
theorem dX12_hope_219 : decode cX12_hope 219 = .ok (.iload 9, 2) := by decide +kernel
theorem dX12_hope_221 : decode cX12_hope 221 = .ok (.iload_n 3, 1) := by decide +kernel
theorem dX12_hope_222 : decode cX12_hope 222 = .ok (.if_icmp .lt 13, 3) := by decide +kernel
theorem dX12_hope_225 : decode cX12_hope 225 = .ok (.aload_n 0, 1) := by decide +kernel
theorem dX12_hope_226 : decode cX12_hope 226 = .ok (.getfield 107, 3) := by decide +kernel
theorem dX12_hope_229 : decode cX12_hope 229 = .ok (.iload 11, 2) := by decide +kernel
theorem dX12_hope_231 : decode cX12_hope 231 = .ok (.iaload, 1) := by decide +kernel
theorem dX12_hope_232 : decode cX12_hope 232 = .ok (.goto 4, 3) := by decide +kernel
theorem dX12_hope_235 : decode cX12_hope 235 = .ok (.iconst 0, 1) := by decide +kernel
theorem dX12_hope_236 : decode cX12_hope 236 = .ok (.iload 12, 2) := by decide +kernel
theorem dX12_hope_238 : decode cX12_hope 238 = .ok (.ifCond .eq 8, 3) := by decide +kernel
theorem dX12_hope_241 : decode cX12_hope 241 = .ok (.iload 4, 2) := by decide +kernel
theorem dX12_hope_243 : decode cX12_hope 243 = .ok (.goto 4, 3) := by decide +kernel
theorem dX12_hope_246 : decode cX12_hope 246 = .ok (.iconst 0, 1) := by decide +kernel
theorem dX12_hope_247 : decode cX12_hope 247 = .ok (.isub, 1) := by decide +kernel
theorem dX12_hope_248 : decode cX12_hope 248 = .ok (.istore 13, 2) := by decide +kernel
theorem dX12_hope_250 : decode cX12_hope 250 = .ok (.iload 12, 2) := by decide +kernel
theorem dX12_hope_252 : decode cX12_hope 252 = .ok (.ifCond .eq 10, 3) := by decide +kernel
theorem dX12_hope_255 : decode cX12_hope 255 = .ok (.iload 9, 2) := by decide +kernel
theorem dX12_hope_257 : decode cX12_hope 257 = .ok (.iconst 1, 1) := by decide +kernel
theorem dX12_hope_258 : decode cX12_hope 258 = .ok (.isub, 1) := by decide +kernel
theorem dX12_hope_259 : decode cX12_hope 259 = .ok (.goto 7, 3) := by decide +kernel
theorem dX12_hope_262 : decode cX12_hope 262 = .ok (.iload 9, 2) := by decide +kernel
theorem dX12_hope_264 : decode cX12_hope 264 = .ok (.iconst 1, 1) := by decide +kernel
theorem dX12_hope_265 : decode cX12_hope 265 = .ok (.iadd, 1) := by decide +kernel
theorem dX12_hope_266 : decode cX12_hope 266 = .ok (.iload_n 3, 1) := by decide +kernel
theorem dX12_hope_267 : decode cX12_hope 267 = .ok (.if_icmp .lt 13, 3) := by decide +kernel
theorem dX12_hope_270 : decode cX12_hope 270 = .ok (.aload_n 0, 1) := by decide +kernel
theorem dX12_hope_271 : decode cX12_hope 271 = .ok (.getfield 107, 3) := by decide +kernel
theorem dX12_hope_274 : decode cX12_hope 274 = .ok (.iload 11, 2) := by decide +kernel
theorem dX12_hope_276 : decode cX12_hope 276 = .ok (.iaload, 1) := by decide +kernel
theorem dX12_hope_277 : decode cX12_hope 277 = .ok (.goto 4, 3) := by decide +kernel
theorem dX12_hope_280 : decode cX12_hope 280 = .ok (.iconst 0, 1) := by decide +kernel
theorem dX12_hope_281 : decode cX12_hope 281 = .ok (.istore 14, 2) := by decide +kernel
theorem dX12_hope_283 : decode cX12_hope 283 = .ok (.iload 13, 2) := by decide +kernel
theorem dX12_hope_285 : decode cX12_hope 285 = .ok (.iload 14, 2) := by decide +kernel
theorem dX12_hope_287 : decode cX12_hope 287 = .ok (.iload 12, 2) := by decide +kernel
theorem dX12_hope_289 : decode cX12_hope 289 = .ok (.ifCond .eq 7, 3) := by decide +kernel
theorem dX12_hope_292 : decode cX12_hope 292 = .ok (.iconst 0, 1) := by decide +kernel
theorem dX12_hope_293 : decode cX12_hope 293 = .ok (.goto 5, 3) := by decide +kernel
theorem dX12_hope_296 : decode cX12_hope 296 = .ok (.iload 4, 2) := by decide +kernel
theorem dX12_hope_298 : decode cX12_hope 298 = .ok (.isub, 1) := by decide +kernel
theorem dX12_hope_299 : decode cX12_hope 299 = .ok (.if_icmp .lt 7, 3) := by decide +kernel
theorem dX12_hope_302 : decode cX12_hope 302 = .ok (.iconst 1, 1) := by decide +kernel
theorem dX12_hope_303 : decode cX12_hope 303 = .ok (.goto 4, 3) := by decide +kernel
theorem dX12_hope_306 : decode cX12_hope 306 = .ok (.iconst 0, 1) := by decide +kernel
theorem dX12_hope_307 : decode cX12_hope 307 = .ok (.istore 10, 2) := by decide +kernel
theorem dX12_hope_309 : decode cX12_hope 309 = .ok (.iinc 11 1, 3) := by decide +kernel
theorem dX12_hope_312 : decode cX12_hope 312 = .ok (.goto (-125), 3) := by decide +kernel
theorem dX12_hope_315 : decode cX12_hope 315 = .ok (.iload 10, 2) := by decide +kernel
theorem dX12_hope_317 : decode cX12_hope 317 = .ok (.ifCond .ne 6, 3) := by decide +kernel
theorem dX12_hope_320 : decode cX12_hope 320 = .ok (.goto 24, 3) := by decide +kernel
theorem dX12_hope_323 : decode cX12_hope 323 = .ok (.iload 6, 2) := by decide +kernel
theorem dX12_hope_325 : decode cX12_hope 325 = .ok (.iconst 1, 1) := by decide +kernel
theorem dX12_hope_326 : decode cX12_hope 326 = .ok (.iadd, 1) := by decide +kernel
theorem dX12_hope_327 : decode cX12_hope 327 = .ok (.istore 6, 2) := by decide +kernel
theorem dX12_hope_329 : decode cX12_hope 329 = .ok (.iload 7, 2) := by decide +kernel
theorem dX12_hope_331 : decode cX12_hope 331 = .ok (.iconst (-1), 1) := by decide +kernel
theorem dX12_hope_332 : decode cX12_hope 332 = .ok (.if_icmp .ne 8, 3) := by decide +kernel
theorem dX12_hope_335 : decode cX12_hope 335 = .ok (.iload 8, 2) := by decide +kernel
theorem dX12_hope_337 : decode cX12_hope 337 = .ok (.goto 5, 3) := by decide +kernel
theorem dX12_hope_340 : decode cX12_hope 340 = .ok (.iload 7, 2) := by decide +kernel
theorem dX12_hope_342 : decode cX12_hope 342 = .ok (.istore 7, 2) := by decide +kernel
theorem dX12_hope_344 : decode cX12_hope 344 = .ok (.iinc 8 1, 3) := by decide +kernel
theorem dX12_hope_347 : decode cX12_hope 347 = .ok (.goto (-185), 3) := by decide +kernel
theorem dX12_hope_350 : decode cX12_hope 350 = .ok (.iload 5, 2) := by decide +kernel
theorem dX12_hope_352 : decode cX12_hope 352 = .ok (.ifCond .ne 8, 3) := by decide +kernel
theorem dX12_hope_355 : decode cX12_hope 355 = .ok (.iload 6, 2) := by decide +kernel
theorem dX12_hope_357 : decode cX12_hope 357 = .ok (.goto 5, 3) := by decide +kernel
theorem dX12_hope_360 : decode cX12_hope 360 = .ok (.iload 7, 2) := by decide +kernel
theorem dX12_hope_362 : decode cX12_hope 362 = .ok (.ireturn, 1) := by decide +kernel
theorem dX12_restWith_0 : decode cX12_restWith 0 = .ok (.ldc_w 352, 3) := by decide +kernel
theorem dX12_restWith_3 : decode cX12_restWith 3 = .ok (.istore_n 3, 1) := by decide +kernel
theorem dX12_restWith_4 : decode cX12_restWith 4 = .ok (.iconst 0, 1) := by decide +kernel
theorem dX12_restWith_5 : decode cX12_restWith 5 = .ok (.istore 4, 2) := by decide +kernel
theorem dX12_restWith_7 : decode cX12_restWith 7 = .ok (.iload 4, 2) := by decide +kernel
theorem dX12_restWith_9 : decode cX12_restWith 9 = .ok (.bipush 8, 2) := by decide +kernel
theorem dX12_restWith_11 : decode cX12_restWith 11 = .ok (.if_icmp .ge 65, 3) := by decide +kernel
theorem dX12_restWith_14 : decode cX12_restWith 14 = .ok (.iload_n 2, 1) := by decide +kernel
theorem dX12_restWith_15 : decode cX12_restWith 15 = .ok (.iload 4, 2) := by decide +kernel
theorem dX12_restWith_17 : decode cX12_restWith 17 = .ok (.ishr, 1) := by decide +kernel
theorem dX12_restWith_18 : decode cX12_restWith 18 = .ok (.iconst 1, 1) := by decide +kernel
theorem dX12_restWith_19 : decode cX12_restWith 19 = .ok (.iand, 1) := by decide +kernel
theorem dX12_restWith_20 : decode cX12_restWith 20 = .ok (.iconst 1, 1) := by decide +kernel
theorem dX12_restWith_21 : decode cX12_restWith 21 = .ok (.if_icmp .ne 6, 3) := by decide +kernel
theorem dX12_restWith_24 : decode cX12_restWith 24 = .ok (.goto 46, 3) := by decide +kernel
theorem dX12_restWith_27 : decode cX12_restWith 27 = .ok (.aload_n 0, 1) := by decide +kernel
theorem dX12_restWith_28 : decode cX12_restWith 28 = .ok (.iload 4, 2) := by decide +kernel
theorem dX12_restWith_30 : decode cX12_restWith 30 = .ok (.iload_n 1, 1) := by decide +kernel
theorem dX12_restWith_31 : decode cX12_restWith 31 = .ok (.iconst 0, 1) := by decide +kernel
theorem dX12_restWith_32 : decode cX12_restWith 32 = .ok (.invokevirtual 282, 3) := by decide +kernel
theorem dX12_restWith_35 : decode cX12_restWith 35 = .ok (.aload_n 0, 1) := by decide +kernel
theorem dX12_restWith_36 : decode cX12_restWith 36 = .ok (.getfield 116, 3) := by decide +kernel
theorem dX12_restWith_39 : decode cX12_restWith 39 = .ok (.sipush 256, 3) := by decide +kernel
theorem dX12_restWith_42 : decode cX12_restWith 42 = .ok (.iload_n 1, 1) := by decide +kernel
theorem dX12_restWith_43 : decode cX12_restWith 43 = .ok (.iconst 1, 1) := by decide +kernel
theorem dX12_restWith_44 : decode cX12_restWith 44 = .ok (.iadd, 1) := by decide +kernel
theorem dX12_restWith_45 : decode cX12_restWith 45 = .ok (.imul, 1) := by decide +kernel
theorem dX12_restWith_46 : decode cX12_restWith 46 = .ok (.iload_n 2, 1) := by decide +kernel
theorem dX12_restWith_47 : decode cX12_restWith 47 = .ok (.iconst 1, 1) := by decide +kernel
theorem dX12_restWith_48 : decode cX12_restWith 48 = .ok (.iload 4, 2) := by decide +kernel
theorem dX12_restWith_50 : decode cX12_restWith 50 = .ok (.ishl, 1) := by decide +kernel
theorem dX12_restWith_51 : decode cX12_restWith 51 = .ok (.ior, 1) := by decide +kernel
theorem dX12_restWith_52 : decode cX12_restWith 52 = .ok (.iadd, 1) := by decide +kernel
theorem dX12_restWith_53 : decode cX12_restWith 53 = .ok (.iaload, 1) := by decide +kernel
theorem dX12_restWith_54 : decode cX12_restWith 54 = .ok (.iadd, 1) := by decide +kernel
theorem dX12_restWith_55 : decode cX12_restWith 55 = .ok (.istore 5, 2) := by decide +kernel
theorem dX12_restWith_57 : decode cX12_restWith 57 = .ok (.iload 5, 2) := by decide +kernel
theorem dX12_restWith_59 : decode cX12_restWith 59 = .ok (.iload_n 3, 1) := by decide +kernel
theorem dX12_restWith_60 : decode cX12_restWith 60 = .ok (.if_icmp .le 8, 3) := by decide +kernel
theorem dX12_restWith_63 : decode cX12_restWith 63 = .ok (.iload 5, 2) := by decide +kernel
theorem dX12_restWith_65 : decode cX12_restWith 65 = .ok (.goto 4, 3) := by decide +kernel
theorem dX12_restWith_68 : decode cX12_restWith 68 = .ok (.iload_n 3, 1) := by decide +kernel
theorem dX12_restWith_69 : decode cX12_restWith 69 = .ok (.istore_n 3, 1) := by decide +kernel
theorem dX12_restWith_70 : decode cX12_restWith 70 = .ok (.iinc 4 1, 3) := by decide +kernel
theorem dX12_restWith_73 : decode cX12_restWith 73 = .ok (.goto (-66), 3) := by decide +kernel
theorem dX12_restWith_76 : decode cX12_restWith 76 = .ok (.iload_n 3, 1) := by decide +kernel
theorem dX12_restWith_77 : decode cX12_restWith 77 = .ok (.ireturn, 1) := by decide +kernel
theorem dX12_findsHomes_0 : decode cX12_findsHomes 0 = .ok (.aload_n 0, 1) := by decide +kernel
theorem dX12_findsHomes_1 : decode cX12_findsHomes 1 = .ok (.invokevirtual 286, 3) := by decide +kernel
theorem dX12_findsHomes_4 : decode cX12_findsHomes 4 = .ok (.iconst 0, 1) := by decide +kernel
theorem dX12_findsHomes_5 : decode cX12_findsHomes 5 = .ok (.istore_n 1, 1) := by decide +kernel
theorem dX12_findsHomes_6 : decode cX12_findsHomes 6 = .ok (.iload_n 1, 1) := by decide +kernel
theorem dX12_findsHomes_7 : decode cX12_findsHomes 7 = .ok (.sipush 256, 3) := by decide +kernel
theorem dX12_findsHomes_10 : decode cX12_findsHomes 10 = .ok (.if_icmp .ge 25, 3) := by decide +kernel
theorem dX12_findsHomes_13 : decode cX12_findsHomes 13 = .ok (.aload_n 0, 1) := by decide +kernel
theorem dX12_findsHomes_14 : decode cX12_findsHomes 14 = .ok (.getfield 116, 3) := by decide +kernel
theorem dX12_findsHomes_17 : decode cX12_findsHomes 17 = .ok (.sipush 256, 3) := by decide +kernel
theorem dX12_findsHomes_20 : decode cX12_findsHomes 20 = .ok (.aload_n 0, 1) := by decide +kernel
theorem dX12_findsHomes_21 : decode cX12_findsHomes 21 = .ok (.getfield 145, 3) := by decide +kernel
theorem dX12_findsHomes_24 : decode cX12_findsHomes 24 = .ok (.imul, 1) := by decide +kernel
theorem dX12_findsHomes_25 : decode cX12_findsHomes 25 = .ok (.iload_n 1, 1) := by decide +kernel
theorem dX12_findsHomes_26 : decode cX12_findsHomes 26 = .ok (.iadd, 1) := by decide +kernel
theorem dX12_findsHomes_27 : decode cX12_findsHomes 27 = .ok (.iconst 0, 1) := by decide +kernel
theorem dX12_findsHomes_28 : decode cX12_findsHomes 28 = .ok (.iastore, 1) := by decide +kernel
theorem dX12_findsHomes_29 : decode cX12_findsHomes 29 = .ok (.iinc 1 1, 3) := by decide +kernel
theorem dX12_findsHomes_32 : decode cX12_findsHomes 32 = .ok (.goto (-26), 3) := by decide +kernel
theorem dX12_findsHomes_35 : decode cX12_findsHomes 35 = .ok (.aload_n 0, 1) := by decide +kernel
theorem dX12_findsHomes_36 : decode cX12_findsHomes 36 = .ok (.getfield 145, 3) := by decide +kernel
theorem dX12_findsHomes_39 : decode cX12_findsHomes 39 = .ok (.iconst 1, 1) := by decide +kernel
theorem dX12_findsHomes_40 : decode cX12_findsHomes 40 = .ok (.isub, 1) := by decide +kernel
theorem dX12_findsHomes_41 : decode cX12_findsHomes 41 = .ok (.istore_n 1, 1) := by decide +kernel
theorem dX12_findsHomes_42 : decode cX12_findsHomes 42 = .ok (.iload_n 1, 1) := by decide +kernel
theorem dX12_findsHomes_43 : decode cX12_findsHomes 43 = .ok (.ifCond .lt 51, 3) := by decide +kernel
theorem dX12_findsHomes_46 : decode cX12_findsHomes 46 = .ok (.iconst 0, 1) := by decide +kernel
theorem dX12_findsHomes_47 : decode cX12_findsHomes 47 = .ok (.istore_n 2, 1) := by decide +kernel
theorem dX12_findsHomes_48 : decode cX12_findsHomes 48 = .ok (.iload_n 2, 1) := by decide +kernel
theorem dX12_findsHomes_49 : decode cX12_findsHomes 49 = .ok (.sipush 256, 3) := by decide +kernel
theorem dX12_findsHomes_52 : decode cX12_findsHomes 52 = .ok (.if_icmp .ge 36, 3) := by decide +kernel
theorem dX12_findsHomes_55 : decode cX12_findsHomes 55 = .ok (.aload_n 0, 1) := by decide +kernel
theorem dX12_findsHomes_56 : decode cX12_findsHomes 56 = .ok (.iload_n 2, 1) := by decide +kernel
theorem dX12_findsHomes_57 : decode cX12_findsHomes 57 = .ok (.invokevirtual 349, 3) := by decide +kernel
theorem dX12_findsHomes_60 : decode cX12_findsHomes 60 = .ok (.iload_n 1, 1) := by decide +kernel
theorem dX12_findsHomes_61 : decode cX12_findsHomes 61 = .ok (.if_icmp .ne 21, 3) := by decide +kernel
theorem dX12_findsHomes_64 : decode cX12_findsHomes 64 = .ok (.aload_n 0, 1) := by decide +kernel
theorem dX12_findsHomes_65 : decode cX12_findsHomes 65 = .ok (.getfield 116, 3) := by decide +kernel
theorem dX12_findsHomes_68 : decode cX12_findsHomes 68 = .ok (.sipush 256, 3) := by decide +kernel
theorem dX12_findsHomes_71 : decode cX12_findsHomes 71 = .ok (.iload_n 1, 1) := by decide +kernel
theorem dX12_findsHomes_72 : decode cX12_findsHomes 72 = .ok (.imul, 1) := by decide +kernel
theorem dX12_findsHomes_73 : decode cX12_findsHomes 73 = .ok (.iload_n 2, 1) := by decide +kernel
theorem dX12_findsHomes_74 : decode cX12_findsHomes 74 = .ok (.iadd, 1) := by decide +kernel
theorem dX12_findsHomes_75 : decode cX12_findsHomes 75 = .ok (.aload_n 0, 1) := by decide +kernel
theorem dX12_findsHomes_76 : decode cX12_findsHomes 76 = .ok (.iload_n 1, 1) := by decide +kernel
theorem dX12_findsHomes_77 : decode cX12_findsHomes 77 = .ok (.iload_n 2, 1) := by decide +kernel
theorem dX12_findsHomes_78 : decode cX12_findsHomes 78 = .ok (.invokevirtual 353, 3) := by decide +kernel
theorem dX12_findsHomes_81 : decode cX12_findsHomes 81 = .ok (.iastore, 1) := by decide +kernel
theorem dX12_findsHomes_82 : decode cX12_findsHomes 82 = .ok (.iinc 2 1, 3) := by decide +kernel
theorem dX12_findsHomes_85 : decode cX12_findsHomes 85 = .ok (.goto (-37), 3) := by decide +kernel
theorem dX12_findsHomes_88 : decode cX12_findsHomes 88 = .ok (.iinc 1 (-1), 3) := by decide +kernel
theorem dX12_findsHomes_91 : decode cX12_findsHomes 91 = .ok (.goto (-49), 3) := by decide +kernel
theorem dX12_findsHomes_94 : decode cX12_findsHomes 94 = .ok (.iconst 0, 1) := by decide +kernel
theorem dX12_findsHomes_95 : decode cX12_findsHomes 95 = .ok (.istore_n 1, 1) := by decide +kernel
theorem dX12_findsHomes_96 : decode cX12_findsHomes 96 = .ok (.iconst 0, 1) := by decide +kernel
theorem dX12_findsHomes_97 : decode cX12_findsHomes 97 = .ok (.istore_n 2, 1) := by decide +kernel
theorem dX12_findsHomes_98 : decode cX12_findsHomes 98 = .ok (.iload_n 2, 1) := by decide +kernel
theorem dX12_findsHomes_99 : decode cX12_findsHomes 99 = .ok (.aload_n 0, 1) := by decide +kernel
theorem dX12_findsHomes_100 : decode cX12_findsHomes 100 = .ok (.getfield 145, 3) := by decide +kernel
theorem dX12_findsHomes_103 : decode cX12_findsHomes 103 = .ok (.if_icmp .ge 81, 3) := by decide +kernel
theorem dX12_findsHomes_106 : decode cX12_findsHomes 106 = .ok (.iconst 0, 1) := by decide +kernel
theorem dX12_findsHomes_107 : decode cX12_findsHomes 107 = .ok (.istore_n 3, 1) := by decide +kernel
theorem dX12_findsHomes_108 : decode cX12_findsHomes 108 = .ok (.iload_n 1, 1) := by decide +kernel
theorem dX12_findsHomes_109 : decode cX12_findsHomes 109 = .ok (.iload_n 3, 1) := by decide +kernel
theorem dX12_findsHomes_110 : decode cX12_findsHomes 110 = .ok (.ishr, 1) := by decide +kernel
theorem dX12_findsHomes_111 : decode cX12_findsHomes 111 = .ok (.iconst 1, 1) := by decide +kernel
theorem dX12_findsHomes_112 : decode cX12_findsHomes 112 = .ok (.iand, 1) := by decide +kernel
theorem dX12_findsHomes_113 : decode cX12_findsHomes 113 = .ok (.iconst 1, 1) := by decide +kernel
theorem dX12_findsHomes_114 : decode cX12_findsHomes 114 = .ok (.if_icmp .eq 44, 3) := by decide +kernel
theorem dX12_findsHomes_117 : decode cX12_findsHomes 117 = .ok (.aload_n 0, 1) := by decide +kernel
theorem dX12_findsHomes_118 : decode cX12_findsHomes 118 = .ok (.iload_n 3, 1) := by decide +kernel
theorem dX12_findsHomes_119 : decode cX12_findsHomes 119 = .ok (.iload_n 2, 1) := by decide +kernel
theorem dX12_findsHomes_120 : decode cX12_findsHomes 120 = .ok (.iconst 0, 1) := by decide +kernel
theorem dX12_findsHomes_121 : decode cX12_findsHomes 121 = .ok (.invokevirtual 282, 3) := by decide +kernel
theorem dX12_findsHomes_124 : decode cX12_findsHomes 124 = .ok (.aload_n 0, 1) := by decide +kernel
theorem dX12_findsHomes_125 : decode cX12_findsHomes 125 = .ok (.getfield 116, 3) := by decide +kernel
theorem dX12_findsHomes_128 : decode cX12_findsHomes 128 = .ok (.sipush 256, 3) := by decide +kernel
theorem dX12_findsHomes_131 : decode cX12_findsHomes 131 = .ok (.iload_n 2, 1) := by decide +kernel
theorem dX12_findsHomes_132 : decode cX12_findsHomes 132 = .ok (.iconst 1, 1) := by decide +kernel
theorem dX12_findsHomes_133 : decode cX12_findsHomes 133 = .ok (.iadd, 1) := by decide +kernel
theorem dX12_findsHomes_134 : decode cX12_findsHomes 134 = .ok (.imul, 1) := by decide +kernel
theorem dX12_findsHomes_135 : decode cX12_findsHomes 135 = .ok (.iload_n 1, 1) := by decide +kernel
theorem dX12_findsHomes_136 : decode cX12_findsHomes 136 = .ok (.iconst 1, 1) := by decide +kernel
theorem dX12_findsHomes_137 : decode cX12_findsHomes 137 = .ok (.iload_n 3, 1) := by decide +kernel
theorem dX12_findsHomes_138 : decode cX12_findsHomes 138 = .ok (.ishl, 1) := by decide +kernel
theorem dX12_findsHomes_139 : decode cX12_findsHomes 139 = .ok (.ior, 1) := by decide +kernel
theorem dX12_findsHomes_140 : decode cX12_findsHomes 140 = .ok (.iadd, 1) := by decide +kernel
theorem dX12_findsHomes_141 : decode cX12_findsHomes 141 = .ok (.iaload, 1) := by decide +kernel
theorem dX12_findsHomes_142 : decode cX12_findsHomes 142 = .ok (.iadd, 1) := by decide +kernel
theorem dX12_findsHomes_143 : decode cX12_findsHomes 143 = .ok (.aload_n 0, 1) := by decide +kernel
theorem dX12_findsHomes_144 : decode cX12_findsHomes 144 = .ok (.getfield 116, 3) := by decide +kernel
theorem dX12_findsHomes_147 : decode cX12_findsHomes 147 = .ok (.sipush 256, 3) := by decide +kernel
theorem dX12_findsHomes_150 : decode cX12_findsHomes 150 = .ok (.iload_n 2, 1) := by decide +kernel
theorem dX12_findsHomes_151 : decode cX12_findsHomes 151 = .ok (.imul, 1) := by decide +kernel
theorem dX12_findsHomes_152 : decode cX12_findsHomes 152 = .ok (.iload_n 1, 1) := by decide +kernel
theorem dX12_findsHomes_153 : decode cX12_findsHomes 153 = .ok (.iadd, 1) := by decide +kernel
theorem dX12_findsHomes_154 : decode cX12_findsHomes 154 = .ok (.iaload, 1) := by decide +kernel
theorem dX12_findsHomes_155 : decode cX12_findsHomes 155 = .ok (.if_icmp .eq 10, 3) := by decide +kernel
theorem dX12_findsHomes_158 : decode cX12_findsHomes 158 = .ok (.iload_n 3, 1) := by decide +kernel
theorem dX12_findsHomes_159 : decode cX12_findsHomes 159 = .ok (.iconst 1, 1) := by decide +kernel
theorem dX12_findsHomes_160 : decode cX12_findsHomes 160 = .ok (.iadd, 1) := by decide +kernel
theorem dX12_findsHomes_161 : decode cX12_findsHomes 161 = .ok (.istore_n 3, 1) := by decide +kernel
theorem dX12_findsHomes_162 : decode cX12_findsHomes 162 = .ok (.goto (-54), 3) := by decide +kernel
theorem dX12_findsHomes_165 : decode cX12_findsHomes 165 = .ok (.aload_n 0, 1) := by decide +kernel
theorem dX12_findsHomes_166 : decode cX12_findsHomes 166 = .ok (.getfield 119, 3) := by decide +kernel
theorem dX12_findsHomes_169 : decode cX12_findsHomes 169 = .ok (.iload_n 2, 1) := by decide +kernel
theorem dX12_findsHomes_170 : decode cX12_findsHomes 170 = .ok (.iload_n 3, 1) := by decide +kernel
theorem dX12_findsHomes_171 : decode cX12_findsHomes 171 = .ok (.iastore, 1) := by decide +kernel
theorem dX12_findsHomes_172 : decode cX12_findsHomes 172 = .ok (.iload_n 1, 1) := by decide +kernel
theorem dX12_findsHomes_173 : decode cX12_findsHomes 173 = .ok (.iconst 1, 1) := by decide +kernel
theorem dX12_findsHomes_174 : decode cX12_findsHomes 174 = .ok (.iload_n 3, 1) := by decide +kernel
theorem dX12_findsHomes_175 : decode cX12_findsHomes 175 = .ok (.ishl, 1) := by decide +kernel
theorem dX12_findsHomes_176 : decode cX12_findsHomes 176 = .ok (.ior, 1) := by decide +kernel
theorem dX12_findsHomes_177 : decode cX12_findsHomes 177 = .ok (.istore_n 1, 1) := by decide +kernel
theorem dX12_findsHomes_178 : decode cX12_findsHomes 178 = .ok (.iinc 2 1, 3) := by decide +kernel
theorem dX12_findsHomes_181 : decode cX12_findsHomes 181 = .ok (.goto (-83), 3) := by decide +kernel
theorem dX12_findsHomes_184 : decode cX12_findsHomes 184 = .ok (.return_, 1) := by decide +kernel
theorem dX12_homes_0 : decode cX12_homes 0 = .ok (.aload_n 0, 1) := by decide +kernel
theorem dX12_homes_1 : decode cX12_homes 1 = .ok (.iconst 0, 1) := by decide +kernel
theorem dX12_homes_2 : decode cX12_homes 2 = .ok (.putfield 134, 3) := by decide +kernel
theorem dX12_homes_5 : decode cX12_homes 5 = .ok (.iload_n 1, 1) := by decide +kernel
theorem dX12_homes_6 : decode cX12_homes 6 = .ok (.ifCond .eq 24, 3) := by decide +kernel
theorem dX12_homes_9 : decode cX12_homes 9 = .ok (.aload_n 0, 1) := by decide +kernel
theorem dX12_homes_10 : decode cX12_homes 10 = .ok (.iload_n 1, 1) := by decide +kernel
theorem dX12_homes_11 : decode cX12_homes 11 = .ok (.bipush 10, 2) := by decide +kernel
theorem dX12_homes_13 : decode cX12_homes 13 = .ok (.bipush 9, 2) := by decide +kernel
theorem dX12_homes_15 : decode cX12_homes 15 = .ok (.aload_n 0, 1) := by decide +kernel
theorem dX12_homes_16 : decode cX12_homes 16 = .ok (.getfield 145, 3) := by decide +kernel
theorem dX12_homes_19 : decode cX12_homes 19 = .ok (.iadd, 1) := by decide +kernel
theorem dX12_homes_20 : decode cX12_homes 20 = .ok (.invokevirtual 148, 3) := by decide +kernel
theorem dX12_homes_23 : decode cX12_homes 23 = .ok (.ifCond .ne 7, 3) := by decide +kernel
theorem dX12_homes_26 : decode cX12_homes 26 = .ok (.ldc_w 285, 3) := by decide +kernel
theorem dX12_homes_29 : decode cX12_homes 29 = .ok (.ireturn, 1) := by decide +kernel
theorem dX12_homes_30 : decode cX12_homes 30 = .ok (.aload_n 0, 1) := by decide +kernel
theorem dX12_homes_31 : decode cX12_homes 31 = .ok (.invokevirtual 356, 3) := by decide +kernel
theorem dX12_homes_34 : decode cX12_homes 34 = .ok (.iload_n 1, 1) := by decide +kernel
theorem dX12_homes_35 : decode cX12_homes 35 = .ok (.ifCond .ne 12, 3) := by decide +kernel
theorem dX12_homes_38 : decode cX12_homes 38 = .ok (.aload_n 0, 1) := by decide +kernel
theorem dX12_homes_39 : decode cX12_homes 39 = .ok (.getfield 116, 3) := by decide +kernel
theorem dX12_homes_42 : decode cX12_homes 42 = .ok (.iconst 0, 1) := by decide +kernel
theorem dX12_homes_43 : decode cX12_homes 43 = .ok (.iaload, 1) := by decide +kernel
theorem dX12_homes_44 : decode cX12_homes 44 = .ok (.goto 12, 3) := by decide +kernel
theorem dX12_homes_47 : decode cX12_homes 47 = .ok (.aload_n 0, 1) := by decide +kernel
theorem dX12_homes_48 : decode cX12_homes 48 = .ok (.getfield 119, 3) := by decide +kernel
theorem dX12_homes_51 : decode cX12_homes 51 = .ok (.iload_n 1, 1) := by decide +kernel
theorem dX12_homes_52 : decode cX12_homes 52 = .ok (.bipush 10, 2) := by decide +kernel
theorem dX12_homes_54 : decode cX12_homes 54 = .ok (.isub, 1) := by decide +kernel
theorem dX12_homes_55 : decode cX12_homes 55 = .ok (.iaload, 1) := by decide +kernel
theorem dX12_homes_56 : decode cX12_homes 56 = .ok (.ireturn, 1) := by decide +kernel
theorem dX12_swap_0 : decode cX12_swap 0 = .ok (.aload_n 0, 1) := by decide +kernel
theorem dX12_swap_1 : decode cX12_swap 1 = .ok (.iconst 0, 1) := by decide +kernel
theorem dX12_swap_2 : decode cX12_swap 2 = .ok (.putfield 134, 3) := by decide +kernel
theorem dX12_swap_5 : decode cX12_swap 5 = .ok (.aload_n 0, 1) := by decide +kernel
theorem dX12_swap_6 : decode cX12_swap 6 = .ok (.invokevirtual 286, 3) := by decide +kernel
theorem dX12_swap_9 : decode cX12_swap 9 = .ok (.iconst 0, 1) := by decide +kernel
theorem dX12_swap_10 : decode cX12_swap 10 = .ok (.istore_n 1, 1) := by decide +kernel
theorem dX12_swap_11 : decode cX12_swap 11 = .ok (.iload_n 1, 1) := by decide +kernel
theorem dX12_swap_12 : decode cX12_swap 12 = .ok (.aload_n 0, 1) := by decide +kernel
theorem dX12_swap_13 : decode cX12_swap 13 = .ok (.getfield 145, 3) := by decide +kernel
theorem dX12_swap_16 : decode cX12_swap 16 = .ok (.if_icmp .ge 76, 3) := by decide +kernel
theorem dX12_swap_19 : decode cX12_swap 19 = .ok (.iload_n 1, 1) := by decide +kernel
theorem dX12_swap_20 : decode cX12_swap 20 = .ok (.iconst 1, 1) := by decide +kernel
theorem dX12_swap_21 : decode cX12_swap 21 = .ok (.iadd, 1) := by decide +kernel
theorem dX12_swap_22 : decode cX12_swap 22 = .ok (.istore_n 2, 1) := by decide +kernel
theorem dX12_swap_23 : decode cX12_swap 23 = .ok (.iload_n 2, 1) := by decide +kernel
theorem dX12_swap_24 : decode cX12_swap 24 = .ok (.aload_n 0, 1) := by decide +kernel
theorem dX12_swap_25 : decode cX12_swap 25 = .ok (.getfield 145, 3) := by decide +kernel
theorem dX12_swap_28 : decode cX12_swap 28 = .ok (.if_icmp .ge 58, 3) := by decide +kernel
theorem dX12_swap_31 : decode cX12_swap 31 = .ok (.aload_n 0, 1) := by decide +kernel
theorem dX12_swap_32 : decode cX12_swap 32 = .ok (.aload_n 0, 1) := by decide +kernel
theorem dX12_swap_33 : decode cX12_swap 33 = .ok (.getfield 17, 3) := by decide +kernel
theorem dX12_swap_36 : decode cX12_swap 36 = .ok (.iload_n 2, 1) := by decide +kernel
theorem dX12_swap_37 : decode cX12_swap 37 = .ok (.iaload, 1) := by decide +kernel
theorem dX12_swap_38 : decode cX12_swap 38 = .ok (.iload_n 1, 1) := by decide +kernel
theorem dX12_swap_39 : decode cX12_swap 39 = .ok (.iconst 0, 1) := by decide +kernel
theorem dX12_swap_40 : decode cX12_swap 40 = .ok (.invokevirtual 282, 3) := by decide +kernel
theorem dX12_swap_43 : decode cX12_swap 43 = .ok (.aload_n 0, 1) := by decide +kernel
theorem dX12_swap_44 : decode cX12_swap 44 = .ok (.iload_n 1, 1) := by decide +kernel
theorem dX12_swap_45 : decode cX12_swap 45 = .ok (.iconst 0, 1) := by decide +kernel
theorem dX12_swap_46 : decode cX12_swap 46 = .ok (.invokevirtual 289, 3) := by decide +kernel
theorem dX12_swap_49 : decode cX12_swap 49 = .ok (.if_icmp .le 31, 3) := by decide +kernel
theorem dX12_swap_52 : decode cX12_swap 52 = .ok (.aload_n 0, 1) := by decide +kernel
theorem dX12_swap_53 : decode cX12_swap 53 = .ok (.aload_n 0, 1) := by decide +kernel
theorem dX12_swap_54 : decode cX12_swap 54 = .ok (.getfield 17, 3) := by decide +kernel
theorem dX12_swap_57 : decode cX12_swap 57 = .ok (.iload_n 1, 1) := by decide +kernel
theorem dX12_swap_58 : decode cX12_swap 58 = .ok (.iaload, 1) := by decide +kernel
theorem dX12_swap_59 : decode cX12_swap 59 = .ok (.iload_n 2, 1) := by decide +kernel
theorem dX12_swap_60 : decode cX12_swap 60 = .ok (.iconst 0, 1) := by decide +kernel
theorem dX12_swap_61 : decode cX12_swap 61 = .ok (.invokevirtual 282, 3) := by decide +kernel
theorem dX12_swap_64 : decode cX12_swap 64 = .ok (.aload_n 0, 1) := by decide +kernel
theorem dX12_swap_65 : decode cX12_swap 65 = .ok (.iload_n 2, 1) := by decide +kernel
theorem dX12_swap_66 : decode cX12_swap 66 = .ok (.iconst 0, 1) := by decide +kernel
theorem dX12_swap_67 : decode cX12_swap 67 = .ok (.invokevirtual 289, 3) := by decide +kernel
theorem dX12_swap_70 : decode cX12_swap 70 = .ok (.if_icmp .le 10, 3) := by decide +kernel
theorem dX12_swap_73 : decode cX12_swap 73 = .ok (.bipush 10, 2) := by decide +kernel
theorem dX12_swap_75 : decode cX12_swap 75 = .ok (.iload_n 1, 1) := by decide +kernel
theorem dX12_swap_76 : decode cX12_swap 76 = .ok (.imul, 1) := by decide +kernel
theorem dX12_swap_77 : decode cX12_swap 77 = .ok (.iload_n 2, 1) := by decide +kernel
theorem dX12_swap_78 : decode cX12_swap 78 = .ok (.iadd, 1) := by decide +kernel
theorem dX12_swap_79 : decode cX12_swap 79 = .ok (.ireturn, 1) := by decide +kernel
theorem dX12_swap_80 : decode cX12_swap 80 = .ok (.iinc 2 1, 3) := by decide +kernel
theorem dX12_swap_83 : decode cX12_swap 83 = .ok (.goto (-60), 3) := by decide +kernel
theorem dX12_swap_86 : decode cX12_swap 86 = .ok (.iinc 1 1, 3) := by decide +kernel
theorem dX12_swap_89 : decode cX12_swap 89 = .ok (.goto (-78), 3) := by decide +kernel
theorem dX12_swap_92 : decode cX12_swap 92 = .ok (.iconst (-1), 1) := by decide +kernel
theorem dX12_swap_93 : decode cX12_swap 93 = .ok (.ireturn, 1) := by decide +kernel
theorem dX12_deed_0 : decode cX12_deed 0 = .ok (.aload_n 0, 1) := by decide +kernel
theorem dX12_deed_1 : decode cX12_deed 1 = .ok (.iconst 0, 1) := by decide +kernel
theorem dX12_deed_2 : decode cX12_deed 2 = .ok (.putfield 134, 3) := by decide +kernel
theorem dX12_deed_5 : decode cX12_deed 5 = .ok (.aload_n 0, 1) := by decide +kernel
theorem dX12_deed_6 : decode cX12_deed 6 = .ok (.iload_n 1, 1) := by decide +kernel
theorem dX12_deed_7 : decode cX12_deed 7 = .ok (.invokevirtual 175, 3) := by decide +kernel
theorem dX12_deed_10 : decode cX12_deed 10 = .ok (.ifCond .eq 33, 3) := by decide +kernel
theorem dX12_deed_13 : decode cX12_deed 13 = .ok (.aload_n 0, 1) := by decide +kernel
theorem dX12_deed_14 : decode cX12_deed 14 = .ok (.iload_n 2, 1) := by decide +kernel
theorem dX12_deed_15 : decode cX12_deed 15 = .ok (.invokevirtual 164, 3) := by decide +kernel
theorem dX12_deed_18 : decode cX12_deed 18 = .ok (.ifCond .eq 25, 3) := by decide +kernel
theorem dX12_deed_21 : decode cX12_deed 21 = .ok (.aload_n 0, 1) := by decide +kernel
theorem dX12_deed_22 : decode cX12_deed 22 = .ok (.iload_n 3, 1) := by decide +kernel
theorem dX12_deed_23 : decode cX12_deed 23 = .ok (.invokevirtual 164, 3) := by decide +kernel
theorem dX12_deed_26 : decode cX12_deed 26 = .ok (.ifCond .eq 17, 3) := by decide +kernel
theorem dX12_deed_29 : decode cX12_deed 29 = .ok (.iload_n 2, 1) := by decide +kernel
theorem dX12_deed_30 : decode cX12_deed 30 = .ok (.iload_n 3, 1) := by decide +kernel
theorem dX12_deed_31 : decode cX12_deed 31 = .ok (.if_icmp .eq 12, 3) := by decide +kernel
theorem dX12_deed_34 : decode cX12_deed 34 = .ok (.aload_n 0, 1) := by decide +kernel
theorem dX12_deed_35 : decode cX12_deed 35 = .ok (.getfield 158, 3) := by decide +kernel
theorem dX12_deed_38 : decode cX12_deed 38 = .ok (.bipush 40, 2) := by decide +kernel
theorem dX12_deed_40 : decode cX12_deed 40 = .ok (.if_icmp .ne 5, 3) := by decide +kernel
theorem dX12_deed_43 : decode cX12_deed 43 = .ok (.iconst 0, 1) := by decide +kernel
theorem dX12_deed_44 : decode cX12_deed 44 = .ok (.ireturn, 1) := by decide +kernel
theorem dX12_deed_45 : decode cX12_deed 45 = .ok (.aload_n 0, 1) := by decide +kernel
theorem dX12_deed_46 : decode cX12_deed 46 = .ok (.getfield 47, 3) := by decide +kernel
theorem dX12_deed_49 : decode cX12_deed 49 = .ok (.aload_n 0, 1) := by decide +kernel
theorem dX12_deed_50 : decode cX12_deed 50 = .ok (.getfield 158, 3) := by decide +kernel
theorem dX12_deed_53 : decode cX12_deed 53 = .ok (.iload_n 1, 1) := by decide +kernel
theorem dX12_deed_54 : decode cX12_deed 54 = .ok (.iastore, 1) := by decide +kernel
theorem dX12_deed_55 : decode cX12_deed 55 = .ok (.aload_n 0, 1) := by decide +kernel
theorem dX12_deed_56 : decode cX12_deed 56 = .ok (.getfield 50, 3) := by decide +kernel
theorem dX12_deed_59 : decode cX12_deed 59 = .ok (.aload_n 0, 1) := by decide +kernel
theorem dX12_deed_60 : decode cX12_deed 60 = .ok (.getfield 158, 3) := by decide +kernel
theorem dX12_deed_63 : decode cX12_deed 63 = .ok (.iload_n 2, 1) := by decide +kernel
theorem dX12_deed_64 : decode cX12_deed 64 = .ok (.iastore, 1) := by decide +kernel
theorem dX12_deed_65 : decode cX12_deed 65 = .ok (.aload_n 0, 1) := by decide +kernel
theorem dX12_deed_66 : decode cX12_deed 66 = .ok (.getfield 53, 3) := by decide +kernel
theorem dX12_deed_69 : decode cX12_deed 69 = .ok (.aload_n 0, 1) := by decide +kernel
theorem dX12_deed_70 : decode cX12_deed 70 = .ok (.getfield 158, 3) := by decide +kernel
theorem dX12_deed_73 : decode cX12_deed 73 = .ok (.iload_n 3, 1) := by decide +kernel
theorem dX12_deed_74 : decode cX12_deed 74 = .ok (.iastore, 1) := by decide +kernel
theorem dX12_deed_75 : decode cX12_deed 75 = .ok (.aload_n 0, 1) := by decide +kernel
theorem dX12_deed_76 : decode cX12_deed 76 = .ok (.aload_n 0, 1) := by decide +kernel
theorem dX12_deed_77 : decode cX12_deed 77 = .ok (.getfield 158, 3) := by decide +kernel
theorem dX12_deed_80 : decode cX12_deed 80 = .ok (.iconst 1, 1) := by decide +kernel
theorem dX12_deed_81 : decode cX12_deed 81 = .ok (.iadd, 1) := by decide +kernel
theorem dX12_deed_82 : decode cX12_deed 82 = .ok (.putfield 158, 3) := by decide +kernel
theorem dX12_deed_85 : decode cX12_deed 85 = .ok (.iconst 1, 1) := by decide +kernel
theorem dX12_deed_86 : decode cX12_deed 86 = .ok (.ireturn, 1) := by decide +kernel
theorem dX12_must_0 : decode cX12_must 0 = .ok (.aload_n 0, 1) := by decide +kernel
theorem dX12_must_1 : decode cX12_must 1 = .ok (.iconst 0, 1) := by decide +kernel
theorem dX12_must_2 : decode cX12_must 2 = .ok (.putfield 134, 3) := by decide +kernel
theorem dX12_must_5 : decode cX12_must 5 = .ok (.aload_n 0, 1) := by decide +kernel
theorem dX12_must_6 : decode cX12_must 6 = .ok (.iload_n 1, 1) := by decide +kernel
theorem dX12_must_7 : decode cX12_must 7 = .ok (.invokevirtual 175, 3) := by decide +kernel
theorem dX12_must_10 : decode cX12_must 10 = .ok (.ifCond .eq 19, 3) := by decide +kernel
theorem dX12_must_13 : decode cX12_must 13 = .ok (.aload_n 0, 1) := by decide +kernel
theorem dX12_must_14 : decode cX12_must 14 = .ok (.iload_n 2, 1) := by decide +kernel
theorem dX12_must_15 : decode cX12_must 15 = .ok (.invokevirtual 164, 3) := by decide +kernel
theorem dX12_must_18 : decode cX12_must 18 = .ok (.ifCond .eq 11, 3) := by decide +kernel
theorem dX12_must_21 : decode cX12_must 21 = .ok (.aload_n 0, 1) := by decide +kernel
theorem dX12_must_22 : decode cX12_must 22 = .ok (.iload_n 3, 1) := by decide +kernel
theorem dX12_must_23 : decode cX12_must 23 = .ok (.invokevirtual 164, 3) := by decide +kernel
theorem dX12_must_26 : decode cX12_must 26 = .ok (.ifCond .ne 5, 3) := by decide +kernel
theorem dX12_must_29 : decode cX12_must 29 = .ok (.iconst (-1), 1) := by decide +kernel
theorem dX12_must_30 : decode cX12_must 30 = .ok (.ireturn, 1) := by decide +kernel
theorem dX12_must_31 : decode cX12_must 31 = .ok (.iconst 0, 1) := by decide +kernel
theorem dX12_must_32 : decode cX12_must 32 = .ok (.istore 4, 2) := by decide +kernel
theorem dX12_must_34 : decode cX12_must 34 = .ok (.iload 4, 2) := by decide +kernel
theorem dX12_must_36 : decode cX12_must 36 = .ok (.iconst 4, 1) := by decide +kernel
theorem dX12_must_37 : decode cX12_must 37 = .ok (.if_icmp .ge 17, 3) := by decide +kernel
theorem dX12_must_40 : decode cX12_must 40 = .ok (.aload_n 0, 1) := by decide +kernel
theorem dX12_must_41 : decode cX12_must 41 = .ok (.getfield 122, 3) := by decide +kernel
theorem dX12_must_44 : decode cX12_must 44 = .ok (.iload 4, 2) := by decide +kernel
theorem dX12_must_46 : decode cX12_must 46 = .ok (.iconst 0, 1) := by decide +kernel
theorem dX12_must_47 : decode cX12_must 47 = .ok (.iastore, 1) := by decide +kernel
theorem dX12_must_48 : decode cX12_must 48 = .ok (.iinc 4 1, 3) := by decide +kernel
theorem dX12_must_51 : decode cX12_must 51 = .ok (.goto (-17), 3) := by decide +kernel
theorem dX12_must_54 : decode cX12_must 54 = .ok (.iconst 0, 1) := by decide +kernel
theorem dX12_must_55 : decode cX12_must 55 = .ok (.istore 4, 2) := by decide +kernel
theorem dX12_must_57 : decode cX12_must 57 = .ok (.iload 4, 2) := by decide +kernel
theorem dX12_must_59 : decode cX12_must 59 = .ok (.aload_n 0, 1) := by decide +kernel
theorem dX12_must_60 : decode cX12_must 60 = .ok (.getfield 158, 3) := by decide +kernel
theorem dX12_must_63 : decode cX12_must 63 = .ok (.if_icmp .ge 54, 3) := by decide +kernel
theorem dX12_must_66 : decode cX12_must 66 = .ok (.aload_n 0, 1) := by decide +kernel
theorem dX12_must_67 : decode cX12_must 67 = .ok (.getfield 47, 3) := by decide +kernel
theorem dX12_must_70 : decode cX12_must 70 = .ok (.iload 4, 2) := by decide +kernel
theorem dX12_must_72 : decode cX12_must 72 = .ok (.iaload, 1) := by decide +kernel
theorem dX12_must_73 : decode cX12_must 73 = .ok (.iload_n 1, 1) := by decide +kernel
theorem dX12_must_74 : decode cX12_must 74 = .ok (.if_icmp .ne 37, 3) := by decide +kernel
theorem dX12_must_77 : decode cX12_must 77 = .ok (.aload_n 0, 1) := by decide +kernel
theorem dX12_must_78 : decode cX12_must 78 = .ok (.getfield 122, 3) := by decide +kernel
theorem dX12_must_81 : decode cX12_must 81 = .ok (.aload_n 0, 1) := by decide +kernel
theorem dX12_must_82 : decode cX12_must 82 = .ok (.getfield 50, 3) := by decide +kernel
theorem dX12_must_85 : decode cX12_must 85 = .ok (.iload 4, 2) := by decide +kernel
theorem dX12_must_87 : decode cX12_must 87 = .ok (.iaload, 1) := by decide +kernel
theorem dX12_must_88 : decode cX12_must 88 = .ok (.aload_n 0, 1) := by decide +kernel
theorem dX12_must_89 : decode cX12_must 89 = .ok (.getfield 122, 3) := by decide +kernel
theorem dX12_must_92 : decode cX12_must 92 = .ok (.aload_n 0, 1) := by decide +kernel
theorem dX12_must_93 : decode cX12_must 93 = .ok (.getfield 50, 3) := by decide +kernel
theorem dX12_must_96 : decode cX12_must 96 = .ok (.iload 4, 2) := by decide +kernel
theorem dX12_must_98 : decode cX12_must 98 = .ok (.iaload, 1) := by decide +kernel
theorem dX12_must_99 : decode cX12_must 99 = .ok (.iaload, 1) := by decide +kernel
theorem dX12_must_100 : decode cX12_must 100 = .ok (.iconst 1, 1) := by decide +kernel
theorem dX12_must_101 : decode cX12_must 101 = .ok (.aload_n 0, 1) := by decide +kernel
theorem dX12_must_102 : decode cX12_must 102 = .ok (.getfield 53, 3) := by decide +kernel
theorem dX12_must_105 : decode cX12_must 105 = .ok (.iload 4, 2) := by decide +kernel
theorem dX12_must_107 : decode cX12_must 107 = .ok (.iaload, 1) := by decide +kernel
theorem dX12_must_108 : decode cX12_must 108 = .ok (.ishl, 1) := by decide +kernel
theorem dX12_must_109 : decode cX12_must 109 = .ok (.ior, 1) := by decide +kernel
theorem dX12_must_110 : decode cX12_must 110 = .ok (.iastore, 1) := by decide +kernel
theorem dX12_must_111 : decode cX12_must 111 = .ok (.iinc 4 1, 3) := by decide +kernel
theorem dX12_must_114 : decode cX12_must 114 = .ok (.goto (-57), 3) := by decide +kernel
theorem dX12_must_117 : decode cX12_must 117 = .ok (.iconst 0, 1) := by decide +kernel
theorem dX12_must_118 : decode cX12_must 118 = .ok (.istore 4, 2) := by decide +kernel
theorem dX12_must_120 : decode cX12_must 120 = .ok (.iload 4, 2) := by decide +kernel
theorem dX12_must_122 : decode cX12_must 122 = .ok (.aload_n 0, 1) := by decide +kernel
theorem dX12_must_123 : decode cX12_must 123 = .ok (.getfield 7, 3) := by decide +kernel
theorem dX12_must_126 : decode cX12_must 126 = .ok (.if_icmp .ge 83, 3) := by decide +kernel
theorem dX12_must_129 : decode cX12_must 129 = .ok (.iconst 0, 1) := by decide +kernel
theorem dX12_must_130 : decode cX12_must 130 = .ok (.istore 5, 2) := by decide +kernel
theorem dX12_must_132 : decode cX12_must 132 = .ok (.iload 5, 2) := by decide +kernel
theorem dX12_must_134 : decode cX12_must 134 = .ok (.aload_n 0, 1) := by decide +kernel
theorem dX12_must_135 : decode cX12_must 135 = .ok (.getfield 7, 3) := by decide +kernel
theorem dX12_must_138 : decode cX12_must 138 = .ok (.if_icmp .ge 65, 3) := by decide +kernel
theorem dX12_must_141 : decode cX12_must 141 = .ok (.iconst 0, 1) := by decide +kernel
theorem dX12_must_142 : decode cX12_must 142 = .ok (.istore 6, 2) := by decide +kernel
theorem dX12_must_144 : decode cX12_must 144 = .ok (.iload 6, 2) := by decide +kernel
theorem dX12_must_146 : decode cX12_must 146 = .ok (.aload_n 0, 1) := by decide +kernel
theorem dX12_must_147 : decode cX12_must 147 = .ok (.getfield 7, 3) := by decide +kernel
theorem dX12_must_150 : decode cX12_must 150 = .ok (.if_icmp .ge 47, 3) := by decide +kernel
theorem dX12_must_153 : decode cX12_must 153 = .ok (.aload_n 0, 1) := by decide +kernel
theorem dX12_must_154 : decode cX12_must 154 = .ok (.getfield 122, 3) := by decide +kernel
theorem dX12_must_157 : decode cX12_must 157 = .ok (.iload 5, 2) := by decide +kernel
theorem dX12_must_159 : decode cX12_must 159 = .ok (.iaload, 1) := by decide +kernel
theorem dX12_must_160 : decode cX12_must 160 = .ok (.iload 6, 2) := by decide +kernel
theorem dX12_must_162 : decode cX12_must 162 = .ok (.ishr, 1) := by decide +kernel
theorem dX12_must_163 : decode cX12_must 163 = .ok (.iconst 1, 1) := by decide +kernel
theorem dX12_must_164 : decode cX12_must 164 = .ok (.iand, 1) := by decide +kernel
theorem dX12_must_165 : decode cX12_must 165 = .ok (.iconst 1, 1) := by decide +kernel
theorem dX12_must_166 : decode cX12_must 166 = .ok (.if_icmp .ne 25, 3) := by decide +kernel
theorem dX12_must_169 : decode cX12_must 169 = .ok (.aload_n 0, 1) := by decide +kernel
theorem dX12_must_170 : decode cX12_must 170 = .ok (.getfield 122, 3) := by decide +kernel
theorem dX12_must_173 : decode cX12_must 173 = .ok (.iload 5, 2) := by decide +kernel
theorem dX12_must_175 : decode cX12_must 175 = .ok (.aload_n 0, 1) := by decide +kernel
theorem dX12_must_176 : decode cX12_must 176 = .ok (.getfield 122, 3) := by decide +kernel
theorem dX12_must_179 : decode cX12_must 179 = .ok (.iload 5, 2) := by decide +kernel
theorem dX12_must_181 : decode cX12_must 181 = .ok (.iaload, 1) := by decide +kernel
theorem dX12_must_182 : decode cX12_must 182 = .ok (.aload_n 0, 1) := by decide +kernel
theorem dX12_must_183 : decode cX12_must 183 = .ok (.getfield 122, 3) := by decide +kernel
theorem dX12_must_186 : decode cX12_must 186 = .ok (.iload 6, 2) := by decide +kernel
theorem dX12_must_188 : decode cX12_must 188 = .ok (.iaload, 1) := by decide +kernel
theorem dX12_must_189 : decode cX12_must 189 = .ok (.ior, 1) := by decide +kernel
theorem dX12_must_190 : decode cX12_must 190 = .ok (.iastore, 1) := by decide +kernel
theorem dX12_must_191 : decode cX12_must 191 = .ok (.iinc 6 1, 3) := by decide +kernel
theorem dX12_must_194 : decode cX12_must 194 = .ok (.goto (-50), 3) := by decide +kernel
theorem dX12_must_197 : decode cX12_must 197 = .ok (.iinc 5 1, 3) := by decide +kernel
theorem dX12_must_200 : decode cX12_must 200 = .ok (.goto (-68), 3) := by decide +kernel
theorem dX12_must_203 : decode cX12_must 203 = .ok (.iinc 4 1, 3) := by decide +kernel
theorem dX12_must_206 : decode cX12_must 206 = .ok (.goto (-86), 3) := by decide +kernel
theorem dX12_must_209 : decode cX12_must 209 = .ok (.iload_n 2, 1) := by decide +kernel
theorem dX12_must_210 : decode cX12_must 210 = .ok (.iload_n 3, 1) := by decide +kernel
theorem dX12_must_211 : decode cX12_must 211 = .ok (.if_icmp .eq 14, 3) := by decide +kernel
theorem dX12_must_214 : decode cX12_must 214 = .ok (.aload_n 0, 1) := by decide +kernel
theorem dX12_must_215 : decode cX12_must 215 = .ok (.getfield 122, 3) := by decide +kernel
theorem dX12_must_218 : decode cX12_must 218 = .ok (.iload_n 2, 1) := by decide +kernel
theorem dX12_must_219 : decode cX12_must 219 = .ok (.iaload, 1) := by decide +kernel
theorem dX12_must_220 : decode cX12_must 220 = .ok (.iload_n 3, 1) := by decide +kernel
theorem dX12_must_221 : decode cX12_must 221 = .ok (.ishr, 1) := by decide +kernel
theorem dX12_must_222 : decode cX12_must 222 = .ok (.iconst 1, 1) := by decide +kernel
theorem dX12_must_223 : decode cX12_must 223 = .ok (.iand, 1) := by decide +kernel
theorem dX12_must_224 : decode cX12_must 224 = .ok (.ireturn, 1) := by decide +kernel
theorem dX12_must_225 : decode cX12_must 225 = .ok (.iconst 0, 1) := by decide +kernel
theorem dX12_must_226 : decode cX12_must 226 = .ok (.istore 4, 2) := by decide +kernel
theorem dX12_must_228 : decode cX12_must 228 = .ok (.iconst 0, 1) := by decide +kernel
theorem dX12_must_229 : decode cX12_must 229 = .ok (.istore 5, 2) := by decide +kernel
theorem dX12_must_231 : decode cX12_must 231 = .ok (.iload 5, 2) := by decide +kernel
theorem dX12_must_233 : decode cX12_must 233 = .ok (.aload_n 0, 1) := by decide +kernel
theorem dX12_must_234 : decode cX12_must 234 = .ok (.getfield 7, 3) := by decide +kernel
theorem dX12_must_237 : decode cX12_must 237 = .ok (.if_icmp .ge 26, 3) := by decide +kernel
theorem dX12_must_240 : decode cX12_must 240 = .ok (.iload 4, 2) := by decide +kernel
theorem dX12_must_242 : decode cX12_must 242 = .ok (.aload_n 0, 1) := by decide +kernel
theorem dX12_must_243 : decode cX12_must 243 = .ok (.getfield 122, 3) := by decide +kernel
theorem dX12_must_246 : decode cX12_must 246 = .ok (.iload 5, 2) := by decide +kernel
theorem dX12_must_248 : decode cX12_must 248 = .ok (.iaload, 1) := by decide +kernel
theorem dX12_must_249 : decode cX12_must 249 = .ok (.iload 5, 2) := by decide +kernel
theorem dX12_must_251 : decode cX12_must 251 = .ok (.ishr, 1) := by decide +kernel
theorem dX12_must_252 : decode cX12_must 252 = .ok (.iconst 1, 1) := by decide +kernel
theorem dX12_must_253 : decode cX12_must 253 = .ok (.iand, 1) := by decide +kernel
theorem dX12_must_254 : decode cX12_must 254 = .ok (.ior, 1) := by decide +kernel
theorem dX12_must_255 : decode cX12_must 255 = .ok (.istore 4, 2) := by decide +kernel
theorem dX12_must_257 : decode cX12_must 257 = .ok (.iinc 5 1, 3) := by decide +kernel
theorem dX12_must_260 : decode cX12_must 260 = .ok (.goto (-29), 3) := by decide +kernel
theorem dX12_must_263 : decode cX12_must 263 = .ok (.iload 4, 2) := by decide +kernel
theorem dX12_must_265 : decode cX12_must 265 = .ok (.ireturn, 1) := by decide +kernel
theorem dX12_isPlace_0 : decode cX12_isPlace 0 = .ok (.iload_n 1, 1) := by decide +kernel
theorem dX12_isPlace_1 : decode cX12_isPlace 1 = .ok (.ifCond .lt 13, 3) := by decide +kernel
theorem dX12_isPlace_4 : decode cX12_isPlace 4 = .ok (.iload_n 1, 1) := by decide +kernel
theorem dX12_isPlace_5 : decode cX12_isPlace 5 = .ok (.bipush 9, 2) := by decide +kernel
theorem dX12_isPlace_7 : decode cX12_isPlace 7 = .ok (.if_icmp .ge 7, 3) := by decide +kernel
theorem dX12_isPlace_10 : decode cX12_isPlace 10 = .ok (.iconst 1, 1) := by decide +kernel
theorem dX12_isPlace_11 : decode cX12_isPlace 11 = .ok (.goto 4, 3) := by decide +kernel
theorem dX12_isPlace_14 : decode cX12_isPlace 14 = .ok (.iconst 0, 1) := by decide +kernel
theorem dX12_isPlace_15 : decode cX12_isPlace 15 = .ok (.ireturn, 1) := by decide +kernel
theorem dX12_looks_0 : decode cX12_looks 0 = .ok (.aload_n 0, 1) := by decide +kernel
theorem dX12_looks_1 : decode cX12_looks 1 = .ok (.iconst 0, 1) := by decide +kernel
theorem dX12_looks_2 : decode cX12_looks 2 = .ok (.putfield 134, 3) := by decide +kernel
theorem dX12_looks_5 : decode cX12_looks 5 = .ok (.aload_n 0, 1) := by decide +kernel
theorem dX12_looks_6 : decode cX12_looks 6 = .ok (.iload_n 1, 1) := by decide +kernel
theorem dX12_looks_7 : decode cX12_looks 7 = .ok (.invokevirtual 359, 3) := by decide +kernel
theorem dX12_looks_10 : decode cX12_looks 10 = .ok (.ifCond .eq 14, 3) := by decide +kernel
theorem dX12_looks_13 : decode cX12_looks 13 = .ok (.aload_n 0, 1) := by decide +kernel
theorem dX12_looks_14 : decode cX12_looks 14 = .ok (.iload_n 2, 1) := by decide +kernel
theorem dX12_looks_15 : decode cX12_looks 15 = .ok (.iconst 0, 1) := by decide +kernel
theorem dX12_looks_16 : decode cX12_looks 16 = .ok (.bipush 99, 2) := by decide +kernel
theorem dX12_looks_18 : decode cX12_looks 18 = .ok (.invokevirtual 148, 3) := by decide +kernel
theorem dX12_looks_21 : decode cX12_looks 21 = .ok (.ifCond .ne 5, 3) := by decide +kernel
theorem dX12_looks_24 : decode cX12_looks 24 = .ok (.iconst 0, 1) := by decide +kernel
theorem dX12_looks_25 : decode cX12_looks 25 = .ok (.ireturn, 1) := by decide +kernel
theorem dX12_looks_26 : decode cX12_looks 26 = .ok (.aload_n 0, 1) := by decide +kernel
theorem dX12_looks_27 : decode cX12_looks 27 = .ok (.getfield 56, 3) := by decide +kernel
theorem dX12_looks_30 : decode cX12_looks 30 = .ok (.iload_n 1, 1) := by decide +kernel
theorem dX12_looks_31 : decode cX12_looks 31 = .ok (.iload_n 2, 1) := by decide +kernel
theorem dX12_looks_32 : decode cX12_looks 32 = .ok (.iastore, 1) := by decide +kernel
theorem dX12_looks_33 : decode cX12_looks 33 = .ok (.iconst 1, 1) := by decide +kernel
theorem dX12_looks_34 : decode cX12_looks 34 = .ok (.ireturn, 1) := by decide +kernel
theorem dX12_link_0 : decode cX12_link 0 = .ok (.aload_n 0, 1) := by decide +kernel
theorem dX12_link_1 : decode cX12_link 1 = .ok (.iconst 0, 1) := by decide +kernel
theorem dX12_link_2 : decode cX12_link 2 = .ok (.putfield 134, 3) := by decide +kernel
theorem dX12_link_5 : decode cX12_link 5 = .ok (.aload_n 0, 1) := by decide +kernel
theorem dX12_link_6 : decode cX12_link 6 = .ok (.iload_n 1, 1) := by decide +kernel
theorem dX12_link_7 : decode cX12_link 7 = .ok (.invokevirtual 359, 3) := by decide +kernel
theorem dX12_link_10 : decode cX12_link 10 = .ok (.ifCond .eq 16, 3) := by decide +kernel
theorem dX12_link_13 : decode cX12_link 13 = .ok (.aload_n 0, 1) := by decide +kernel
theorem dX12_link_14 : decode cX12_link 14 = .ok (.iload_n 2, 1) := by decide +kernel
theorem dX12_link_15 : decode cX12_link 15 = .ok (.invokevirtual 359, 3) := by decide +kernel
theorem dX12_link_18 : decode cX12_link 18 = .ok (.ifCond .eq 8, 3) := by decide +kernel
theorem dX12_link_21 : decode cX12_link 21 = .ok (.iload_n 1, 1) := by decide +kernel
theorem dX12_link_22 : decode cX12_link 22 = .ok (.iload_n 2, 1) := by decide +kernel
theorem dX12_link_23 : decode cX12_link 23 = .ok (.if_icmp .ne 5, 3) := by decide +kernel
theorem dX12_link_26 : decode cX12_link 26 = .ok (.iconst 0, 1) := by decide +kernel
theorem dX12_link_27 : decode cX12_link 27 = .ok (.ireturn, 1) := by decide +kernel
theorem dX12_link_28 : decode cX12_link 28 = .ok (.aload_n 0, 1) := by decide +kernel
theorem dX12_link_29 : decode cX12_link 29 = .ok (.getfield 59, 3) := by decide +kernel
theorem dX12_link_32 : decode cX12_link 32 = .ok (.iload_n 1, 1) := by decide +kernel
theorem dX12_link_33 : decode cX12_link 33 = .ok (.iload_n 3, 1) := by decide +kernel
theorem dX12_link_34 : decode cX12_link 34 = .ok (.ifCond .eq 16, 3) := by decide +kernel
theorem dX12_link_37 : decode cX12_link 37 = .ok (.aload_n 0, 1) := by decide +kernel
theorem dX12_link_38 : decode cX12_link 38 = .ok (.getfield 59, 3) := by decide +kernel
theorem dX12_link_41 : decode cX12_link 41 = .ok (.iload_n 1, 1) := by decide +kernel
theorem dX12_link_42 : decode cX12_link 42 = .ok (.iaload, 1) := by decide +kernel
theorem dX12_link_43 : decode cX12_link 43 = .ok (.iconst 1, 1) := by decide +kernel
theorem dX12_link_44 : decode cX12_link 44 = .ok (.iload_n 2, 1) := by decide +kernel
theorem dX12_link_45 : decode cX12_link 45 = .ok (.ishl, 1) := by decide +kernel
theorem dX12_link_46 : decode cX12_link 46 = .ok (.ior, 1) := by decide +kernel
theorem dX12_link_47 : decode cX12_link 47 = .ok (.goto 15, 3) := by decide +kernel
theorem dX12_link_50 : decode cX12_link 50 = .ok (.aload_n 0, 1) := by decide +kernel
theorem dX12_link_51 : decode cX12_link 51 = .ok (.getfield 59, 3) := by decide +kernel
theorem dX12_link_54 : decode cX12_link 54 = .ok (.iload_n 1, 1) := by decide +kernel
theorem dX12_link_55 : decode cX12_link 55 = .ok (.iaload, 1) := by decide +kernel
theorem dX12_link_56 : decode cX12_link 56 = .ok (.iconst 1, 1) := by decide +kernel
theorem dX12_link_57 : decode cX12_link 57 = .ok (.iload_n 2, 1) := by decide +kernel
theorem dX12_link_58 : decode cX12_link 58 = .ok (.ishl, 1) := by decide +kernel
theorem dX12_link_59 : decode cX12_link 59 = .ok (.iconst (-1), 1) := by decide +kernel
theorem dX12_link_60 : decode cX12_link 60 = .ok (.ixor, 1) := by decide +kernel
theorem dX12_link_61 : decode cX12_link 61 = .ok (.iand, 1) := by decide +kernel
theorem dX12_link_62 : decode cX12_link 62 = .ok (.iastore, 1) := by decide +kernel
theorem dX12_link_63 : decode cX12_link 63 = .ok (.aload_n 0, 1) := by decide +kernel
theorem dX12_link_64 : decode cX12_link 64 = .ok (.getfield 59, 3) := by decide +kernel
theorem dX12_link_67 : decode cX12_link 67 = .ok (.iload_n 2, 1) := by decide +kernel
theorem dX12_link_68 : decode cX12_link 68 = .ok (.iload_n 3, 1) := by decide +kernel
theorem dX12_link_69 : decode cX12_link 69 = .ok (.ifCond .eq 16, 3) := by decide +kernel
theorem dX12_link_72 : decode cX12_link 72 = .ok (.aload_n 0, 1) := by decide +kernel
theorem dX12_link_73 : decode cX12_link 73 = .ok (.getfield 59, 3) := by decide +kernel
theorem dX12_link_76 : decode cX12_link 76 = .ok (.iload_n 2, 1) := by decide +kernel
theorem dX12_link_77 : decode cX12_link 77 = .ok (.iaload, 1) := by decide +kernel
theorem dX12_link_78 : decode cX12_link 78 = .ok (.iconst 1, 1) := by decide +kernel
theorem dX12_link_79 : decode cX12_link 79 = .ok (.iload_n 1, 1) := by decide +kernel
theorem dX12_link_80 : decode cX12_link 80 = .ok (.ishl, 1) := by decide +kernel
theorem dX12_link_81 : decode cX12_link 81 = .ok (.ior, 1) := by decide +kernel
theorem dX12_link_82 : decode cX12_link 82 = .ok (.goto 15, 3) := by decide +kernel
theorem dX12_link_85 : decode cX12_link 85 = .ok (.aload_n 0, 1) := by decide +kernel
theorem dX12_link_86 : decode cX12_link 86 = .ok (.getfield 59, 3) := by decide +kernel
theorem dX12_link_89 : decode cX12_link 89 = .ok (.iload_n 2, 1) := by decide +kernel
theorem dX12_link_90 : decode cX12_link 90 = .ok (.iaload, 1) := by decide +kernel
theorem dX12_link_91 : decode cX12_link 91 = .ok (.iconst 1, 1) := by decide +kernel
theorem dX12_link_92 : decode cX12_link 92 = .ok (.iload_n 1, 1) := by decide +kernel
theorem dX12_link_93 : decode cX12_link 93 = .ok (.ishl, 1) := by decide +kernel
theorem dX12_link_94 : decode cX12_link 94 = .ok (.iconst (-1), 1) := by decide +kernel
theorem dX12_link_95 : decode cX12_link 95 = .ok (.ixor, 1) := by decide +kernel
theorem dX12_link_96 : decode cX12_link 96 = .ok (.iand, 1) := by decide +kernel
theorem dX12_link_97 : decode cX12_link 97 = .ok (.iastore, 1) := by decide +kernel
theorem dX12_link_98 : decode cX12_link 98 = .ok (.iconst 1, 1) := by decide +kernel
theorem dX12_link_99 : decode cX12_link 99 = .ok (.ireturn, 1) := by decide +kernel
theorem dX12_notesWay_0 : decode cX12_notesWay 0 = .ok (.iconst 0, 1) := by decide +kernel
theorem dX12_notesWay_1 : decode cX12_notesWay 1 = .ok (.istore_n 2, 1) := by decide +kernel
theorem dX12_notesWay_2 : decode cX12_notesWay 2 = .ok (.iconst 0, 1) := by decide +kernel
theorem dX12_notesWay_3 : decode cX12_notesWay 3 = .ok (.istore_n 3, 1) := by decide +kernel
theorem dX12_notesWay_4 : decode cX12_notesWay 4 = .ok (.iload_n 3, 1) := by decide +kernel
theorem dX12_notesWay_5 : decode cX12_notesWay 5 = .ok (.iload_n 1, 1) := by decide +kernel
theorem dX12_notesWay_6 : decode cX12_notesWay 6 = .ok (.if_icmp .ge 23, 3) := by decide +kernel
theorem dX12_notesWay_9 : decode cX12_notesWay 9 = .ok (.iload_n 2, 1) := by decide +kernel
theorem dX12_notesWay_10 : decode cX12_notesWay 10 = .ok (.aload_n 0, 1) := by decide +kernel
theorem dX12_notesWay_11 : decode cX12_notesWay 11 = .ok (.getfield 56, 3) := by decide +kernel
theorem dX12_notesWay_14 : decode cX12_notesWay 14 = .ok (.aload_n 0, 1) := by decide +kernel
theorem dX12_notesWay_15 : decode cX12_notesWay 15 = .ok (.getfield 125, 3) := by decide +kernel
theorem dX12_notesWay_18 : decode cX12_notesWay 18 = .ok (.iload_n 3, 1) := by decide +kernel
theorem dX12_notesWay_19 : decode cX12_notesWay 19 = .ok (.iaload, 1) := by decide +kernel
theorem dX12_notesWay_20 : decode cX12_notesWay 20 = .ok (.iaload, 1) := by decide +kernel
theorem dX12_notesWay_21 : decode cX12_notesWay 21 = .ok (.iadd, 1) := by decide +kernel
theorem dX12_notesWay_22 : decode cX12_notesWay 22 = .ok (.istore_n 2, 1) := by decide +kernel
theorem dX12_notesWay_23 : decode cX12_notesWay 23 = .ok (.iinc 3 1, 3) := by decide +kernel
theorem dX12_notesWay_26 : decode cX12_notesWay 26 = .ok (.goto (-22), 3) := by decide +kernel
theorem dX12_notesWay_29 : decode cX12_notesWay 29 = .ok (.iload_n 2, 1) := by decide +kernel
theorem dX12_notesWay_30 : decode cX12_notesWay 30 = .ok (.aload_n 0, 1) := by decide +kernel
theorem dX12_notesWay_31 : decode cX12_notesWay 31 = .ok (.getfield 362, 3) := by decide +kernel
theorem dX12_notesWay_34 : decode cX12_notesWay 34 = .ok (.if_icmp .gt 4, 3) := by decide +kernel
theorem dX12_notesWay_37 : decode cX12_notesWay 37 = .ok (.return_, 1) := by decide +kernel
theorem dX12_notesWay_38 : decode cX12_notesWay 38 = .ok (.aload_n 0, 1) := by decide +kernel
theorem dX12_notesWay_39 : decode cX12_notesWay 39 = .ok (.iload_n 2, 1) := by decide +kernel
theorem dX12_notesWay_40 : decode cX12_notesWay 40 = .ok (.putfield 362, 3) := by decide +kernel
theorem dX12_notesWay_43 : decode cX12_notesWay 43 = .ok (.aload_n 0, 1) := by decide +kernel
theorem dX12_notesWay_44 : decode cX12_notesWay 44 = .ok (.iload_n 1, 1) := by decide +kernel
theorem dX12_notesWay_45 : decode cX12_notesWay 45 = .ok (.putfield 365, 3) := by decide +kernel
theorem dX12_notesWay_48 : decode cX12_notesWay 48 = .ok (.iconst 0, 1) := by decide +kernel
theorem dX12_notesWay_49 : decode cX12_notesWay 49 = .ok (.istore_n 3, 1) := by decide +kernel
theorem dX12_notesWay_50 : decode cX12_notesWay 50 = .ok (.iload_n 3, 1) := by decide +kernel
theorem dX12_notesWay_51 : decode cX12_notesWay 51 = .ok (.iload_n 1, 1) := by decide +kernel
theorem dX12_notesWay_52 : decode cX12_notesWay 52 = .ok (.if_icmp .ge 21, 3) := by decide +kernel
theorem dX12_notesWay_55 : decode cX12_notesWay 55 = .ok (.aload_n 0, 1) := by decide +kernel
theorem dX12_notesWay_56 : decode cX12_notesWay 56 = .ok (.getfield 128, 3) := by decide +kernel
theorem dX12_notesWay_59 : decode cX12_notesWay 59 = .ok (.iload_n 3, 1) := by decide +kernel
theorem dX12_notesWay_60 : decode cX12_notesWay 60 = .ok (.aload_n 0, 1) := by decide +kernel
theorem dX12_notesWay_61 : decode cX12_notesWay 61 = .ok (.getfield 125, 3) := by decide +kernel
theorem dX12_notesWay_64 : decode cX12_notesWay 64 = .ok (.iload_n 3, 1) := by decide +kernel
theorem dX12_notesWay_65 : decode cX12_notesWay 65 = .ok (.iaload, 1) := by decide +kernel
theorem dX12_notesWay_66 : decode cX12_notesWay 66 = .ok (.iastore, 1) := by decide +kernel
theorem dX12_notesWay_67 : decode cX12_notesWay 67 = .ok (.iinc 3 1, 3) := by decide +kernel
theorem dX12_notesWay_70 : decode cX12_notesWay 70 = .ok (.goto (-20), 3) := by decide +kernel
theorem dX12_notesWay_73 : decode cX12_notesWay 73 = .ok (.return_, 1) := by decide +kernel
theorem dX12_findsWay_0 : decode cX12_findsWay 0 = .ok (.aload_n 0, 1) := by decide +kernel
theorem dX12_findsWay_1 : decode cX12_findsWay 1 = .ok (.iconst (-1), 1) := by decide +kernel
theorem dX12_findsWay_2 : decode cX12_findsWay 2 = .ok (.putfield 362, 3) := by decide +kernel
theorem dX12_findsWay_5 : decode cX12_findsWay 5 = .ok (.aload_n 0, 1) := by decide +kernel
theorem dX12_findsWay_6 : decode cX12_findsWay 6 = .ok (.iconst 0, 1) := by decide +kernel
theorem dX12_findsWay_7 : decode cX12_findsWay 7 = .ok (.putfield 365, 3) := by decide +kernel
theorem dX12_findsWay_10 : decode cX12_findsWay 10 = .ok (.aload_n 0, 1) := by decide +kernel
theorem dX12_findsWay_11 : decode cX12_findsWay 11 = .ok (.getfield 125, 3) := by decide +kernel
theorem dX12_findsWay_14 : decode cX12_findsWay 14 = .ok (.iconst 0, 1) := by decide +kernel
theorem dX12_findsWay_15 : decode cX12_findsWay 15 = .ok (.iload_n 1, 1) := by decide +kernel
theorem dX12_findsWay_16 : decode cX12_findsWay 16 = .ok (.iastore, 1) := by decide +kernel
theorem dX12_findsWay_17 : decode cX12_findsWay 17 = .ok (.iconst 1, 1) := by decide +kernel
theorem dX12_findsWay_18 : decode cX12_findsWay 18 = .ok (.iload_n 1, 1) := by decide +kernel
theorem dX12_findsWay_19 : decode cX12_findsWay 19 = .ok (.ishl, 1) := by decide +kernel
theorem dX12_findsWay_20 : decode cX12_findsWay 20 = .ok (.istore 4, 2) := by decide +kernel
theorem dX12_findsWay_22 : decode cX12_findsWay 22 = .ok (.iconst 1, 1) := by decide +kernel
theorem dX12_findsWay_23 : decode cX12_findsWay 23 = .ok (.istore 5, 2) := by decide +kernel
theorem dX12_findsWay_25 : decode cX12_findsWay 25 = .ok (.iconst 0, 1) := by decide +kernel
theorem dX12_findsWay_26 : decode cX12_findsWay 26 = .ok (.istore 6, 2) := by decide +kernel
theorem dX12_findsWay_28 : decode cX12_findsWay 28 = .ok (.iload_n 1, 1) := by decide +kernel
theorem dX12_findsWay_29 : decode cX12_findsWay 29 = .ok (.iload_n 2, 1) := by decide +kernel
theorem dX12_findsWay_30 : decode cX12_findsWay 30 = .ok (.if_icmp .ne 9, 3) := by decide +kernel
theorem dX12_findsWay_33 : decode cX12_findsWay 33 = .ok (.aload_n 0, 1) := by decide +kernel
theorem dX12_findsWay_34 : decode cX12_findsWay 34 = .ok (.iconst 1, 1) := by decide +kernel
theorem dX12_findsWay_35 : decode cX12_findsWay 35 = .ok (.invokevirtual 368, 3) := by decide +kernel
theorem dX12_findsWay_38 : decode cX12_findsWay 38 = .ok (.return_, 1) := by decide +kernel
theorem dX12_findsWay_39 : decode cX12_findsWay 39 = .ok (.iload 5, 2) := by decide +kernel
theorem dX12_findsWay_41 : decode cX12_findsWay 41 = .ok (.ifCond .le 157, 3) := by decide +kernel
theorem dX12_findsWay_44 : decode cX12_findsWay 44 = .ok (.iload 6, 2) := by decide +kernel
theorem dX12_findsWay_46 : decode cX12_findsWay 46 = .ok (.istore 7, 2) := by decide +kernel
theorem dX12_findsWay_48 : decode cX12_findsWay 48 = .ok (.iload 7, 2) := by decide +kernel
theorem dX12_findsWay_50 : decode cX12_findsWay 50 = .ok (.bipush 9, 2) := by decide +kernel
theorem dX12_findsWay_52 : decode cX12_findsWay 52 = .ok (.if_icmp .ge 45, 3) := by decide +kernel
theorem dX12_findsWay_55 : decode cX12_findsWay 55 = .ok (.iload 4, 2) := by decide +kernel
theorem dX12_findsWay_57 : decode cX12_findsWay 57 = .ok (.iload 7, 2) := by decide +kernel
theorem dX12_findsWay_59 : decode cX12_findsWay 59 = .ok (.ishr, 1) := by decide +kernel
theorem dX12_findsWay_60 : decode cX12_findsWay 60 = .ok (.iconst 1, 1) := by decide +kernel
theorem dX12_findsWay_61 : decode cX12_findsWay 61 = .ok (.iand, 1) := by decide +kernel
theorem dX12_findsWay_62 : decode cX12_findsWay 62 = .ok (.iconst 1, 1) := by decide +kernel
theorem dX12_findsWay_63 : decode cX12_findsWay 63 = .ok (.if_icmp .eq 25, 3) := by decide +kernel
theorem dX12_findsWay_66 : decode cX12_findsWay 66 = .ok (.aload_n 0, 1) := by decide +kernel
theorem dX12_findsWay_67 : decode cX12_findsWay 67 = .ok (.getfield 59, 3) := by decide +kernel
theorem dX12_findsWay_70 : decode cX12_findsWay 70 = .ok (.aload_n 0, 1) := by decide +kernel
theorem dX12_findsWay_71 : decode cX12_findsWay 71 = .ok (.getfield 125, 3) := by decide +kernel
theorem dX12_findsWay_74 : decode cX12_findsWay 74 = .ok (.iload 5, 2) := by decide +kernel
theorem dX12_findsWay_76 : decode cX12_findsWay 76 = .ok (.iconst 1, 1) := by decide +kernel
theorem dX12_findsWay_77 : decode cX12_findsWay 77 = .ok (.isub, 1) := by decide +kernel
theorem dX12_findsWay_78 : decode cX12_findsWay 78 = .ok (.iaload, 1) := by decide +kernel
theorem dX12_findsWay_79 : decode cX12_findsWay 79 = .ok (.iaload, 1) := by decide +kernel
theorem dX12_findsWay_80 : decode cX12_findsWay 80 = .ok (.iload 7, 2) := by decide +kernel
theorem dX12_findsWay_82 : decode cX12_findsWay 82 = .ok (.ishr, 1) := by decide +kernel
theorem dX12_findsWay_83 : decode cX12_findsWay 83 = .ok (.iconst 1, 1) := by decide +kernel
theorem dX12_findsWay_84 : decode cX12_findsWay 84 = .ok (.iand, 1) := by decide +kernel
theorem dX12_findsWay_85 : decode cX12_findsWay 85 = .ok (.ifCond .ne 12, 3) := by decide +kernel
theorem dX12_findsWay_88 : decode cX12_findsWay 88 = .ok (.iload 7, 2) := by decide +kernel
theorem dX12_findsWay_90 : decode cX12_findsWay 90 = .ok (.iconst 1, 1) := by decide +kernel
theorem dX12_findsWay_91 : decode cX12_findsWay 91 = .ok (.iadd, 1) := by decide +kernel
theorem dX12_findsWay_92 : decode cX12_findsWay 92 = .ok (.istore 7, 2) := by decide +kernel
theorem dX12_findsWay_94 : decode cX12_findsWay 94 = .ok (.goto (-46), 3) := by decide +kernel
theorem dX12_findsWay_97 : decode cX12_findsWay 97 = .ok (.iload 7, 2) := by decide +kernel
theorem dX12_findsWay_99 : decode cX12_findsWay 99 = .ok (.bipush 9, 2) := by decide +kernel
theorem dX12_findsWay_101 : decode cX12_findsWay 101 = .ok (.if_icmp .eq 9, 3) := by decide +kernel
