theorem dX7_readSum_43 : decode cX7_readSum 43 = .ok (.iload_n 3, 1) := by decide +kernel
theorem dX7_readSum_44 : decode cX7_readSum 44 = .ok (.bipush 45, 2) := by decide +kernel
theorem dX7_readSum_46 : decode cX7_readSum 46 = .ok (.if_icmp .ne 24, 3) := by decide +kernel
theorem dX7_readSum_49 : decode cX7_readSum 49 = .ok (.aload_n 0, 1) := by decide +kernel
theorem dX7_readSum_50 : decode cX7_readSum 50 = .ok (.getfield 12, 3) := by decide +kernel
theorem dX7_readSum_53 : decode cX7_readSum 53 = .ok (.iload_n 1, 1) := by decide +kernel
theorem dX7_readSum_54 : decode cX7_readSum 54 = .ok (.iconst 0, 1) := by decide +kernel
theorem dX7_readSum_55 : decode cX7_readSum 55 = .ok (.invokevirtual 74, 3) := by decide +kernel
theorem dX7_readSum_58 : decode cX7_readSum 58 = .ok (.iload_n 3, 1) := by decide +kernel
theorem dX7_readSum_59 : decode cX7_readSum 59 = .ok (.bipush 43, 2) := by decide +kernel
theorem dX7_readSum_61 : decode cX7_readSum 61 = .ok (.if_icmp .ne 7, 3) := by decide +kernel
theorem dX7_readSum_64 : decode cX7_readSum 64 = .ok (.iconst 4, 1) := by decide +kernel
theorem dX7_readSum_65 : decode cX7_readSum 65 = .ok (.goto 4, 3) := by decide +kernel
theorem dX7_readSum_68 : decode cX7_readSum 68 = .ok (.iconst 5, 1) := by decide +kernel
theorem dX7_readSum_69 : decode cX7_readSum 69 = .ok (.istore_n 1, 1) := by decide +kernel
theorem dX7_readSum_70 : decode cX7_readSum 70 = .ok (.aload_n 0, 1) := by decide +kernel
theorem dX7_readSum_71 : decode cX7_readSum 71 = .ok (.invokevirtual 61, 3) := by decide +kernel
theorem dX7_readSum_74 : decode cX7_readSum 74 = .ok (.iload_n 3, 1) := by decide +kernel
theorem dX7_readSum_75 : decode cX7_readSum 75 = .ok (.bipush 47, 2) := by decide +kernel
theorem dX7_readSum_77 : decode cX7_readSum 77 = .ok (.if_icmp .ne 13, 3) := by decide +kernel
theorem dX7_readSum_80 : decode cX7_readSum 80 = .ok (.aload_n 0, 1) := by decide +kernel
theorem dX7_readSum_81 : decode cX7_readSum 81 = .ok (.invokevirtual 100, 3) := by decide +kernel
theorem dX7_readSum_84 : decode cX7_readSum 84 = .ok (.ifCond .ne 15, 3) := by decide +kernel
theorem dX7_readSum_87 : decode cX7_readSum 87 = .ok (.goto 10, 3) := by decide +kernel
theorem dX7_readSum_90 : decode cX7_readSum 90 = .ok (.aload_n 0, 1) := by decide +kernel
theorem dX7_readSum_91 : decode cX7_readSum 91 = .ok (.invokevirtual 94, 3) := by decide +kernel
theorem dX7_readSum_94 : decode cX7_readSum 94 = .ok (.ifCond .ne 5, 3) := by decide +kernel
theorem dX7_readSum_97 : decode cX7_readSum 97 = .ok (.iconst 0, 1) := by decide +kernel
theorem dX7_readSum_98 : decode cX7_readSum 98 = .ok (.ireturn, 1) := by decide +kernel
theorem dX7_readSum_99 : decode cX7_readSum 99 = .ok (.iload_n 3, 1) := by decide +kernel
theorem dX7_readSum_100 : decode cX7_readSum 100 = .ok (.bipush 42, 2) := by decide +kernel
theorem dX7_readSum_102 : decode cX7_readSum 102 = .ok (.if_icmp .ne 13, 3) := by decide +kernel
theorem dX7_readSum_105 : decode cX7_readSum 105 = .ok (.aload_n 0, 1) := by decide +kernel
theorem dX7_readSum_106 : decode cX7_readSum 106 = .ok (.getfield 12, 3) := by decide +kernel
theorem dX7_readSum_109 : decode cX7_readSum 109 = .ok (.bipush 6, 2) := by decide +kernel
theorem dX7_readSum_111 : decode cX7_readSum 111 = .ok (.iconst 0, 1) := by decide +kernel
theorem dX7_readSum_112 : decode cX7_readSum 112 = .ok (.invokevirtual 74, 3) := by decide +kernel
theorem dX7_readSum_115 : decode cX7_readSum 115 = .ok (.iinc 2 1, 3) := by decide +kernel
theorem dX7_readSum_118 : decode cX7_readSum 118 = .ok (.goto (-104), 3) := by decide +kernel
theorem dX7_readSum_121 : decode cX7_readSum 121 = .ok (.aload_n 0, 1) := by decide +kernel
theorem dX7_readSum_122 : decode cX7_readSum 122 = .ok (.getfield 12, 3) := by decide +kernel
theorem dX7_readSum_125 : decode cX7_readSum 125 = .ok (.iload_n 1, 1) := by decide +kernel
theorem dX7_readSum_126 : decode cX7_readSum 126 = .ok (.iconst 0, 1) := by decide +kernel
theorem dX7_readSum_127 : decode cX7_readSum 127 = .ok (.invokevirtual 74, 3) := by decide +kernel
theorem dX7_readSum_130 : decode cX7_readSum 130 = .ok (.iconst 1, 1) := by decide +kernel
theorem dX7_readSum_131 : decode cX7_readSum 131 = .ok (.ireturn, 1) := by decide +kernel
theorem dX7_readUnit_0 : decode cX7_readUnit 0 = .ok (.aload_n 0, 1) := by decide +kernel
theorem dX7_readUnit_1 : decode cX7_readUnit 1 = .ok (.getfield 38, 3) := by decide +kernel
theorem dX7_readUnit_4 : decode cX7_readUnit 4 = .ok (.sipush 1000, 3) := by decide +kernel
theorem dX7_readUnit_7 : decode cX7_readUnit 7 = .ok (.if_icmp .lt 22, 3) := by decide +kernel
theorem dX7_readUnit_10 : decode cX7_readUnit 10 = .ok (.aload_n 0, 1) := by decide +kernel
theorem dX7_readUnit_11 : decode cX7_readUnit 11 = .ok (.getfield 12, 3) := by decide +kernel
theorem dX7_readUnit_14 : decode cX7_readUnit 14 = .ok (.iconst 0, 1) := by decide +kernel
theorem dX7_readUnit_15 : decode cX7_readUnit 15 = .ok (.aload_n 0, 1) := by decide +kernel
theorem dX7_readUnit_16 : decode cX7_readUnit 16 = .ok (.getfield 38, 3) := by decide +kernel
theorem dX7_readUnit_19 : decode cX7_readUnit 19 = .ok (.sipush 1000, 3) := by decide +kernel
theorem dX7_readUnit_22 : decode cX7_readUnit 22 = .ok (.isub, 1) := by decide +kernel
theorem dX7_readUnit_23 : decode cX7_readUnit 23 = .ok (.invokevirtual 74, 3) := by decide +kernel
theorem dX7_readUnit_26 : decode cX7_readUnit 26 = .ok (.goto 48, 3) := by decide +kernel
theorem dX7_readUnit_29 : decode cX7_readUnit 29 = .ok (.aload_n 0, 1) := by decide +kernel
theorem dX7_readUnit_30 : decode cX7_readUnit 30 = .ok (.getfield 38, 3) := by decide +kernel
theorem dX7_readUnit_33 : decode cX7_readUnit 33 = .ok (.sipush 267, 3) := by decide +kernel
theorem dX7_readUnit_36 : decode cX7_readUnit 36 = .ok (.if_icmp .lt 32, 3) := by decide +kernel
theorem dX7_readUnit_39 : decode cX7_readUnit 39 = .ok (.aload_n 0, 1) := by decide +kernel
theorem dX7_readUnit_40 : decode cX7_readUnit 40 = .ok (.getfield 38, 3) := by decide +kernel
theorem dX7_readUnit_43 : decode cX7_readUnit 43 = .ok (.sipush 272, 3) := by decide +kernel
theorem dX7_readUnit_46 : decode cX7_readUnit 46 = .ok (.if_icmp .gt 22, 3) := by decide +kernel
theorem dX7_readUnit_49 : decode cX7_readUnit 49 = .ok (.aload_n 0, 1) := by decide +kernel
theorem dX7_readUnit_50 : decode cX7_readUnit 50 = .ok (.getfield 12, 3) := by decide +kernel
theorem dX7_readUnit_53 : decode cX7_readUnit 53 = .ok (.iconst 1, 1) := by decide +kernel
theorem dX7_readUnit_54 : decode cX7_readUnit 54 = .ok (.aload_n 0, 1) := by decide +kernel
theorem dX7_readUnit_55 : decode cX7_readUnit 55 = .ok (.getfield 38, 3) := by decide +kernel
theorem dX7_readUnit_58 : decode cX7_readUnit 58 = .ok (.sipush 267, 3) := by decide +kernel
theorem dX7_readUnit_61 : decode cX7_readUnit 61 = .ok (.isub, 1) := by decide +kernel
theorem dX7_readUnit_62 : decode cX7_readUnit 62 = .ok (.invokevirtual 74, 3) := by decide +kernel
theorem dX7_readUnit_65 : decode cX7_readUnit 65 = .ok (.goto 9, 3) := by decide +kernel
theorem dX7_readUnit_68 : decode cX7_readUnit 68 = .ok (.aload_n 0, 1) := by decide +kernel
theorem dX7_readUnit_69 : decode cX7_readUnit 69 = .ok (.iconst 1, 1) := by decide +kernel
theorem dX7_readUnit_70 : decode cX7_readUnit 70 = .ok (.invokevirtual 58, 3) := by decide +kernel
theorem dX7_readUnit_73 : decode cX7_readUnit 73 = .ok (.ireturn, 1) := by decide +kernel
theorem dX7_readUnit_74 : decode cX7_readUnit 74 = .ok (.aload_n 0, 1) := by decide +kernel
theorem dX7_readUnit_75 : decode cX7_readUnit 75 = .ok (.invokevirtual 61, 3) := by decide +kernel
theorem dX7_readUnit_78 : decode cX7_readUnit 78 = .ok (.iconst 1, 1) := by decide +kernel
theorem dX7_readUnit_79 : decode cX7_readUnit 79 = .ok (.ireturn, 1) := by decide +kernel
theorem dX7_readPart_0 : decode cX7_readPart 0 = .ok (.aload_n 0, 1) := by decide +kernel
theorem dX7_readPart_1 : decode cX7_readPart 1 = .ok (.getfield 38, 3) := by decide +kernel
theorem dX7_readPart_4 : decode cX7_readPart 4 = .ok (.sipush 1000, 3) := by decide +kernel
theorem dX7_readPart_7 : decode cX7_readPart 7 = .ok (.if_icmp .ge 9, 3) := by decide +kernel
theorem dX7_readPart_10 : decode cX7_readPart 10 = .ok (.aload_n 0, 1) := by decide +kernel
theorem dX7_readPart_11 : decode cX7_readPart 11 = .ok (.iconst 1, 1) := by decide +kernel
theorem dX7_readPart_12 : decode cX7_readPart 12 = .ok (.invokevirtual 58, 3) := by decide +kernel
theorem dX7_readPart_15 : decode cX7_readPart 15 = .ok (.ireturn, 1) := by decide +kernel
theorem dX7_readPart_16 : decode cX7_readPart 16 = .ok (.aload_n 0, 1) := by decide +kernel
theorem dX7_readPart_17 : decode cX7_readPart 17 = .ok (.getfield 38, 3) := by decide +kernel
theorem dX7_readPart_20 : decode cX7_readPart 20 = .ok (.sipush 1000, 3) := by decide +kernel
theorem dX7_readPart_23 : decode cX7_readPart 23 = .ok (.if_icmp .ne 9, 3) := by decide +kernel
theorem dX7_readPart_26 : decode cX7_readPart 26 = .ok (.aload_n 0, 1) := by decide +kernel
theorem dX7_readPart_27 : decode cX7_readPart 27 = .ok (.iconst 2, 1) := by decide +kernel
theorem dX7_readPart_28 : decode cX7_readPart 28 = .ok (.invokevirtual 58, 3) := by decide +kernel
theorem dX7_readPart_31 : decode cX7_readPart 31 = .ok (.ireturn, 1) := by decide +kernel
theorem dX7_readPart_32 : decode cX7_readPart 32 = .ok (.aload_n 0, 1) := by decide +kernel
theorem dX7_readPart_33 : decode cX7_readPart 33 = .ok (.getfield 12, 3) := by decide +kernel
theorem dX7_readPart_36 : decode cX7_readPart 36 = .ok (.iconst 2, 1) := by decide +kernel
theorem dX7_readPart_37 : decode cX7_readPart 37 = .ok (.aload_n 0, 1) := by decide +kernel
theorem dX7_readPart_38 : decode cX7_readPart 38 = .ok (.getfield 38, 3) := by decide +kernel
theorem dX7_readPart_41 : decode cX7_readPart 41 = .ok (.sipush 1000, 3) := by decide +kernel
theorem dX7_readPart_44 : decode cX7_readPart 44 = .ok (.isub, 1) := by decide +kernel
theorem dX7_readPart_45 : decode cX7_readPart 45 = .ok (.invokevirtual 74, 3) := by decide +kernel
theorem dX7_readPart_48 : decode cX7_readPart 48 = .ok (.aload_n 0, 1) := by decide +kernel
theorem dX7_readPart_49 : decode cX7_readPart 49 = .ok (.invokevirtual 61, 3) := by decide +kernel
theorem dX7_readPart_52 : decode cX7_readPart 52 = .ok (.iconst 1, 1) := by decide +kernel
theorem dX7_readPart_53 : decode cX7_readPart 53 = .ok (.ireturn, 1) := by decide +kernel
theorem dX7_isJoining_0 : decode cX7_isJoining 0 = .ok (.iload_n 0, 1) := by decide +kernel
theorem dX7_isJoining_1 : decode cX7_isJoining 1 = .ok (.bipush 43, 2) := by decide +kernel
theorem dX7_isJoining_3 : decode cX7_isJoining 3 = .ok (.if_icmp .eq 21, 3) := by decide +kernel
theorem dX7_isJoining_6 : decode cX7_isJoining 6 = .ok (.iload_n 0, 1) := by decide +kernel
theorem dX7_isJoining_7 : decode cX7_isJoining 7 = .ok (.bipush 45, 2) := by decide +kernel
theorem dX7_isJoining_9 : decode cX7_isJoining 9 = .ok (.if_icmp .eq 15, 3) := by decide +kernel
theorem dX7_isJoining_12 : decode cX7_isJoining 12 = .ok (.iload_n 0, 1) := by decide +kernel
theorem dX7_isJoining_13 : decode cX7_isJoining 13 = .ok (.bipush 42, 2) := by decide +kernel
theorem dX7_isJoining_15 : decode cX7_isJoining 15 = .ok (.if_icmp .eq 9, 3) := by decide +kernel
theorem dX7_isJoining_18 : decode cX7_isJoining 18 = .ok (.iload_n 0, 1) := by decide +kernel
theorem dX7_isJoining_19 : decode cX7_isJoining 19 = .ok (.bipush 47, 2) := by decide +kernel
theorem dX7_isJoining_21 : decode cX7_isJoining 21 = .ok (.if_icmp .ne 7, 3) := by decide +kernel
theorem dX7_isJoining_24 : decode cX7_isJoining 24 = .ok (.iconst 1, 1) := by decide +kernel
theorem dX7_isJoining_25 : decode cX7_isJoining 25 = .ok (.goto 4, 3) := by decide +kernel
theorem dX7_isJoining_28 : decode cX7_isJoining 28 = .ok (.iconst 0, 1) := by decide +kernel
theorem dX7_isJoining_29 : decode cX7_isJoining 29 = .ok (.ireturn, 1) := by decide +kernel
theorem dX7_split_0 : decode cX7_split 0 = .ok (.aload_n 0, 1) := by decide +kernel
theorem dX7_split_1 : decode cX7_split 1 = .ok (.iconst 0, 1) := by decide +kernel
theorem dX7_split_2 : decode cX7_split 2 = .ok (.putfield 32, 3) := by decide +kernel
theorem dX7_split_5 : decode cX7_split 5 = .ok (.iconst 0, 1) := by decide +kernel
theorem dX7_split_6 : decode cX7_split 6 = .ok (.istore_n 3, 1) := by decide +kernel
theorem dX7_split_7 : decode cX7_split 7 = .ok (.iload_n 3, 1) := by decide +kernel
theorem dX7_split_8 : decode cX7_split 8 = .ok (.iload_n 2, 1) := by decide +kernel
theorem dX7_split_9 : decode cX7_split 9 = .ok (.if_icmp .ge 71, 3) := by decide +kernel
theorem dX7_split_12 : decode cX7_split 12 = .ok (.aload_n 1, 1) := by decide +kernel
theorem dX7_split_13 : decode cX7_split 13 = .ok (.iload_n 3, 1) := by decide +kernel
theorem dX7_split_14 : decode cX7_split 14 = .ok (.iaload, 1) := by decide +kernel
theorem dX7_split_15 : decode cX7_split 15 = .ok (.invokestatic 103, 3) := by decide +kernel
theorem dX7_split_18 : decode cX7_split 18 = .ok (.istore 4, 2) := by decide +kernel
theorem dX7_split_20 : decode cX7_split 20 = .ok (.iload_n 3, 1) := by decide +kernel
theorem dX7_split_21 : decode cX7_split 21 = .ok (.iconst 1, 1) := by decide +kernel
theorem dX7_split_22 : decode cX7_split 22 = .ok (.iadd, 1) := by decide +kernel
theorem dX7_split_23 : decode cX7_split 23 = .ok (.istore 5, 2) := by decide +kernel
theorem dX7_split_25 : decode cX7_split 25 = .ok (.iload 5, 2) := by decide +kernel
theorem dX7_split_27 : decode cX7_split 27 = .ok (.iload_n 2, 1) := by decide +kernel
theorem dX7_split_28 : decode cX7_split 28 = .ok (.if_icmp .ge 26, 3) := by decide +kernel
theorem dX7_split_31 : decode cX7_split 31 = .ok (.iload 4, 2) := by decide +kernel
theorem dX7_split_33 : decode cX7_split 33 = .ok (.ifCond .eq 21, 3) := by decide +kernel
theorem dX7_split_36 : decode cX7_split 36 = .ok (.aload_n 1, 1) := by decide +kernel
theorem dX7_split_37 : decode cX7_split 37 = .ok (.iload 5, 2) := by decide +kernel
theorem dX7_split_39 : decode cX7_split 39 = .ok (.iaload, 1) := by decide +kernel
theorem dX7_split_40 : decode cX7_split 40 = .ok (.invokestatic 103, 3) := by decide +kernel
theorem dX7_split_43 : decode cX7_split 43 = .ok (.iload 4, 2) := by decide +kernel
theorem dX7_split_45 : decode cX7_split 45 = .ok (.if_icmp .ne 9, 3) := by decide +kernel
theorem dX7_split_48 : decode cX7_split 48 = .ok (.iinc 5 1, 3) := by decide +kernel
theorem dX7_split_51 : decode cX7_split 51 = .ok (.goto (-26), 3) := by decide +kernel
theorem dX7_split_54 : decode cX7_split 54 = .ok (.iload 4, 2) := by decide +kernel
theorem dX7_split_56 : decode cX7_split 56 = .ok (.iconst 1, 1) := by decide +kernel
theorem dX7_split_57 : decode cX7_split 57 = .ok (.if_icmp .eq 17, 3) := by decide +kernel
theorem dX7_split_60 : decode cX7_split 60 = .ok (.aload_n 0, 1) := by decide +kernel
theorem dX7_split_61 : decode cX7_split 61 = .ok (.iload 4, 2) := by decide +kernel
theorem dX7_split_63 : decode cX7_split 63 = .ok (.aload_n 1, 1) := by decide +kernel
theorem dX7_split_64 : decode cX7_split 64 = .ok (.iload_n 3, 1) := by decide +kernel
theorem dX7_split_65 : decode cX7_split 65 = .ok (.iload 5, 2) := by decide +kernel
theorem dX7_split_67 : decode cX7_split 67 = .ok (.invokestatic 107, 3) := by decide +kernel
theorem dX7_split_70 : decode cX7_split 70 = .ok (.iload_n 3, 1) := by decide +kernel
theorem dX7_split_71 : decode cX7_split 71 = .ok (.invokevirtual 111, 3) := by decide +kernel
theorem dX7_split_74 : decode cX7_split 74 = .ok (.iload 5, 2) := by decide +kernel
theorem dX7_split_76 : decode cX7_split 76 = .ok (.istore_n 3, 1) := by decide +kernel
theorem dX7_split_77 : decode cX7_split 77 = .ok (.goto (-70), 3) := by decide +kernel
theorem dX7_split_80 : decode cX7_split 80 = .ok (.aload_n 0, 1) := by decide +kernel
theorem dX7_split_81 : decode cX7_split 81 = .ok (.sipush 300, 3) := by decide +kernel
theorem dX7_split_84 : decode cX7_split 84 = .ok (.iload_n 2, 1) := by decide +kernel
theorem dX7_split_85 : decode cX7_split 85 = .ok (.invokevirtual 111, 3) := by decide +kernel
theorem dX7_split_88 : decode cX7_split 88 = .ok (.return_, 1) := by decide +kernel
theorem dX7_addToken_0 : decode cX7_addToken 0 = .ok (.aload_n 0, 1) := by decide +kernel
theorem dX7_addToken_1 : decode cX7_addToken 1 = .ok (.getfield 32, 3) := by decide +kernel
theorem dX7_addToken_4 : decode cX7_addToken 4 = .ok (.aload_n 0, 1) := by decide +kernel
theorem dX7_addToken_5 : decode cX7_addToken 5 = .ok (.getfield 25, 3) := by decide +kernel
theorem dX7_addToken_8 : decode cX7_addToken 8 = .ok (.arraylength, 1) := by decide +kernel
theorem dX7_addToken_9 : decode cX7_addToken 9 = .ok (.if_icmp .ge 33, 3) := by decide +kernel
theorem dX7_addToken_12 : decode cX7_addToken 12 = .ok (.aload_n 0, 1) := by decide +kernel
theorem dX7_addToken_13 : decode cX7_addToken 13 = .ok (.getfield 25, 3) := by decide +kernel
theorem dX7_addToken_16 : decode cX7_addToken 16 = .ok (.aload_n 0, 1) := by decide +kernel
theorem dX7_addToken_17 : decode cX7_addToken 17 = .ok (.getfield 32, 3) := by decide +kernel
theorem dX7_addToken_20 : decode cX7_addToken 20 = .ok (.iload_n 1, 1) := by decide +kernel
theorem dX7_addToken_21 : decode cX7_addToken 21 = .ok (.iastore, 1) := by decide +kernel
theorem dX7_addToken_22 : decode cX7_addToken 22 = .ok (.aload_n 0, 1) := by decide +kernel
theorem dX7_addToken_23 : decode cX7_addToken 23 = .ok (.getfield 29, 3) := by decide +kernel
theorem dX7_addToken_26 : decode cX7_addToken 26 = .ok (.aload_n 0, 1) := by decide +kernel
theorem dX7_addToken_27 : decode cX7_addToken 27 = .ok (.getfield 32, 3) := by decide +kernel
theorem dX7_addToken_30 : decode cX7_addToken 30 = .ok (.iload_n 2, 1) := by decide +kernel
theorem dX7_addToken_31 : decode cX7_addToken 31 = .ok (.iastore, 1) := by decide +kernel
theorem dX7_addToken_32 : decode cX7_addToken 32 = .ok (.aload_n 0, 1) := by decide +kernel
theorem dX7_addToken_33 : decode cX7_addToken 33 = .ok (.dup, 1) := by decide +kernel
theorem dX7_addToken_34 : decode cX7_addToken 34 = .ok (.getfield 32, 3) := by decide +kernel
theorem dX7_addToken_37 : decode cX7_addToken 37 = .ok (.iconst 1, 1) := by decide +kernel
theorem dX7_addToken_38 : decode cX7_addToken 38 = .ok (.iadd, 1) := by decide +kernel
theorem dX7_addToken_39 : decode cX7_addToken 39 = .ok (.putfield 32, 3) := by decide +kernel
theorem dX7_addToken_42 : decode cX7_addToken 42 = .ok (.return_, 1) := by decide +kernel
theorem dX7_kindOf_0 : decode cX7_kindOf 0 = .ok (.iload_n 0, 1) := by decide +kernel
theorem dX7_kindOf_1 : decode cX7_kindOf 1 = .ok (.bipush 32, 2) := by decide +kernel
theorem dX7_kindOf_3 : decode cX7_kindOf 3 = .ok (.if_icmp .eq 9, 3) := by decide +kernel
theorem dX7_kindOf_6 : decode cX7_kindOf 6 = .ok (.iload_n 0, 1) := by decide +kernel
theorem dX7_kindOf_7 : decode cX7_kindOf 7 = .ok (.bipush 10, 2) := by decide +kernel
theorem dX7_kindOf_9 : decode cX7_kindOf 9 = .ok (.if_icmp .ne 5, 3) := by decide +kernel
theorem dX7_kindOf_12 : decode cX7_kindOf 12 = .ok (.iconst 1, 1) := by decide +kernel
theorem dX7_kindOf_13 : decode cX7_kindOf 13 = .ok (.ireturn, 1) := by decide +kernel
theorem dX7_kindOf_14 : decode cX7_kindOf 14 = .ok (.iload_n 0, 1) := by decide +kernel
theorem dX7_kindOf_15 : decode cX7_kindOf 15 = .ok (.bipush 97, 2) := by decide +kernel
theorem dX7_kindOf_17 : decode cX7_kindOf 17 = .ok (.if_icmp .lt 9, 3) := by decide +kernel
theorem dX7_kindOf_20 : decode cX7_kindOf 20 = .ok (.iload_n 0, 1) := by decide +kernel
theorem dX7_kindOf_21 : decode cX7_kindOf 21 = .ok (.bipush 122, 2) := by decide +kernel
theorem dX7_kindOf_23 : decode cX7_kindOf 23 = .ok (.if_icmp .le 15, 3) := by decide +kernel
theorem dX7_kindOf_26 : decode cX7_kindOf 26 = .ok (.iload_n 0, 1) := by decide +kernel
theorem dX7_kindOf_27 : decode cX7_kindOf 27 = .ok (.bipush 65, 2) := by decide +kernel
theorem dX7_kindOf_29 : decode cX7_kindOf 29 = .ok (.if_icmp .lt 11, 3) := by decide +kernel
theorem dX7_kindOf_32 : decode cX7_kindOf 32 = .ok (.iload_n 0, 1) := by decide +kernel
theorem dX7_kindOf_33 : decode cX7_kindOf 33 = .ok (.bipush 90, 2) := by decide +kernel
theorem dX7_kindOf_35 : decode cX7_kindOf 35 = .ok (.if_icmp .gt 5, 3) := by decide +kernel
theorem dX7_kindOf_38 : decode cX7_kindOf 38 = .ok (.iconst 2, 1) := by decide +kernel
theorem dX7_kindOf_39 : decode cX7_kindOf 39 = .ok (.ireturn, 1) := by decide +kernel
theorem dX7_kindOf_40 : decode cX7_kindOf 40 = .ok (.iload_n 0, 1) := by decide +kernel
theorem dX7_kindOf_41 : decode cX7_kindOf 41 = .ok (.bipush 48, 2) := by decide +kernel
theorem dX7_kindOf_43 : decode cX7_kindOf 43 = .ok (.if_icmp .lt 13, 3) := by decide +kernel
theorem dX7_kindOf_46 : decode cX7_kindOf 46 = .ok (.iload_n 0, 1) := by decide +kernel
theorem dX7_kindOf_47 : decode cX7_kindOf 47 = .ok (.bipush 57, 2) := by decide +kernel
theorem dX7_kindOf_49 : decode cX7_kindOf 49 = .ok (.if_icmp .gt 7, 3) := by decide +kernel
theorem dX7_kindOf_52 : decode cX7_kindOf 52 = .ok (.iconst 3, 1) := by decide +kernel
theorem dX7_kindOf_53 : decode cX7_kindOf 53 = .ok (.goto 4, 3) := by decide +kernel
theorem dX7_kindOf_56 : decode cX7_kindOf 56 = .ok (.iconst 0, 1) := by decide +kernel
theorem dX7_kindOf_57 : decode cX7_kindOf 57 = .ok (.ireturn, 1) := by decide +kernel
theorem dX7_tokenOf_0 : decode cX7_tokenOf 0 = .ok (.iload_n 0, 1) := by decide +kernel
theorem dX7_tokenOf_1 : decode cX7_tokenOf 1 = .ok (.iconst 2, 1) := by decide +kernel
theorem dX7_tokenOf_2 : decode cX7_tokenOf 2 = .ok (.if_icmp .ne 10, 3) := by decide +kernel
theorem dX7_tokenOf_5 : decode cX7_tokenOf 5 = .ok (.aload_n 1, 1) := by decide +kernel
theorem dX7_tokenOf_6 : decode cX7_tokenOf 6 = .ok (.iload_n 2, 1) := by decide +kernel
theorem dX7_tokenOf_7 : decode cX7_tokenOf 7 = .ok (.iload_n 3, 1) := by decide +kernel
theorem dX7_tokenOf_8 : decode cX7_tokenOf 8 = .ok (.invokestatic 114, 3) := by decide +kernel
theorem dX7_tokenOf_11 : decode cX7_tokenOf 11 = .ok (.ireturn, 1) := by decide +kernel
theorem dX7_tokenOf_12 : decode cX7_tokenOf 12 = .ok (.iload_n 0, 1) := by decide +kernel
theorem dX7_tokenOf_13 : decode cX7_tokenOf 13 = .ok (.iconst 3, 1) := by decide +kernel
theorem dX7_tokenOf_14 : decode cX7_tokenOf 14 = .ok (.if_icmp .ne 10, 3) := by decide +kernel
theorem dX7_tokenOf_17 : decode cX7_tokenOf 17 = .ok (.aload_n 1, 1) := by decide +kernel
theorem dX7_tokenOf_18 : decode cX7_tokenOf 18 = .ok (.iload_n 2, 1) := by decide +kernel
theorem dX7_tokenOf_19 : decode cX7_tokenOf 19 = .ok (.iload_n 3, 1) := by decide +kernel
theorem dX7_tokenOf_20 : decode cX7_tokenOf 20 = .ok (.invokestatic 118, 3) := by decide +kernel
theorem dX7_tokenOf_23 : decode cX7_tokenOf 23 = .ok (.ireturn, 1) := by decide +kernel
theorem dX7_tokenOf_24 : decode cX7_tokenOf 24 = .ok (.ldc 121, 2) := by decide +kernel
theorem dX7_tokenOf_26 : decode cX7_tokenOf 26 = .ok (.aload_n 1, 1) := by decide +kernel
theorem dX7_tokenOf_27 : decode cX7_tokenOf 27 = .ok (.iload_n 2, 1) := by decide +kernel
theorem dX7_tokenOf_28 : decode cX7_tokenOf 28 = .ok (.iaload, 1) := by decide +kernel
theorem dX7_tokenOf_29 : decode cX7_tokenOf 29 = .ok (.i2c, 1) := by decide +kernel
theorem dX7_tokenOf_30 : decode cX7_tokenOf 30 = .ok (.invokevirtual 123, 3) := by decide +kernel
theorem dX7_tokenOf_33 : decode cX7_tokenOf 33 = .ok (.ifCond .lt 9, 3) := by decide +kernel
theorem dX7_tokenOf_36 : decode cX7_tokenOf 36 = .ok (.aload_n 1, 1) := by decide +kernel
theorem dX7_tokenOf_37 : decode cX7_tokenOf 37 = .ok (.iload_n 2, 1) := by decide +kernel
theorem dX7_tokenOf_38 : decode cX7_tokenOf 38 = .ok (.iaload, 1) := by decide +kernel
theorem dX7_tokenOf_39 : decode cX7_tokenOf 39 = .ok (.goto 6, 3) := by decide +kernel
theorem dX7_tokenOf_42 : decode cX7_tokenOf 42 = .ok (.sipush 301, 3) := by decide +kernel
theorem dX7_tokenOf_45 : decode cX7_tokenOf 45 = .ok (.ireturn, 1) := by decide +kernel
theorem dX7_numberAt_0 : decode cX7_numberAt 0 = .ok (.iload_n 2, 1) := by decide +kernel
theorem dX7_numberAt_1 : decode cX7_numberAt 1 = .ok (.iload_n 1, 1) := by decide +kernel
theorem dX7_numberAt_2 : decode cX7_numberAt 2 = .ok (.isub, 1) := by decide +kernel
theorem dX7_numberAt_3 : decode cX7_numberAt 3 = .ok (.iconst 4, 1) := by decide +kernel
theorem dX7_numberAt_4 : decode cX7_numberAt 4 = .ok (.if_icmp .le 7, 3) := by decide +kernel
theorem dX7_numberAt_7 : decode cX7_numberAt 7 = .ok (.sipush 301, 3) := by decide +kernel
theorem dX7_numberAt_10 : decode cX7_numberAt 10 = .ok (.ireturn, 1) := by decide +kernel
theorem dX7_numberAt_11 : decode cX7_numberAt 11 = .ok (.iconst 0, 1) := by decide +kernel
theorem dX7_numberAt_12 : decode cX7_numberAt 12 = .ok (.istore_n 3, 1) := by decide +kernel
theorem dX7_numberAt_13 : decode cX7_numberAt 13 = .ok (.iload_n 1, 1) := by decide +kernel
theorem dX7_numberAt_14 : decode cX7_numberAt 14 = .ok (.istore 4, 2) := by decide +kernel
theorem dX7_numberAt_16 : decode cX7_numberAt 16 = .ok (.iload 4, 2) := by decide +kernel
theorem dX7_numberAt_18 : decode cX7_numberAt 18 = .ok (.iload_n 2, 1) := by decide +kernel
theorem dX7_numberAt_19 : decode cX7_numberAt 19 = .ok (.if_icmp .ge 22, 3) := by decide +kernel
theorem dX7_numberAt_22 : decode cX7_numberAt 22 = .ok (.iload_n 3, 1) := by decide +kernel
theorem dX7_numberAt_23 : decode cX7_numberAt 23 = .ok (.bipush 10, 2) := by decide +kernel
theorem dX7_numberAt_25 : decode cX7_numberAt 25 = .ok (.imul, 1) := by decide +kernel
theorem dX7_numberAt_26 : decode cX7_numberAt 26 = .ok (.aload_n 0, 1) := by decide +kernel
theorem dX7_numberAt_27 : decode cX7_numberAt 27 = .ok (.iload 4, 2) := by decide +kernel
theorem dX7_numberAt_29 : decode cX7_numberAt 29 = .ok (.iaload, 1) := by decide +kernel
theorem dX7_numberAt_30 : decode cX7_numberAt 30 = .ok (.iadd, 1) := by decide +kernel
theorem dX7_numberAt_31 : decode cX7_numberAt 31 = .ok (.bipush 48, 2) := by decide +kernel
theorem dX7_numberAt_33 : decode cX7_numberAt 33 = .ok (.isub, 1) := by decide +kernel
theorem dX7_numberAt_34 : decode cX7_numberAt 34 = .ok (.istore_n 3, 1) := by decide +kernel
theorem dX7_numberAt_35 : decode cX7_numberAt 35 = .ok (.iinc 4 1, 3) := by decide +kernel
theorem dX7_numberAt_38 : decode cX7_numberAt 38 = .ok (.goto (-22), 3) := by decide +kernel
theorem dX7_numberAt_41 : decode cX7_numberAt 41 = .ok (.sipush 1000, 3) := by decide +kernel
theorem dX7_numberAt_44 : decode cX7_numberAt 44 = .ok (.iload_n 3, 1) := by decide +kernel
theorem dX7_numberAt_45 : decode cX7_numberAt 45 = .ok (.iadd, 1) := by decide +kernel
theorem dX7_numberAt_46 : decode cX7_numberAt 46 = .ok (.ireturn, 1) := by decide +kernel
theorem dX7_keywordAt_0 : decode cX7_keywordAt 0 = .ok (.sipush 256, 3) := by decide +kernel
theorem dX7_keywordAt_3 : decode cX7_keywordAt 3 = .ok (.istore_n 3, 1) := by decide +kernel
theorem dX7_keywordAt_4 : decode cX7_keywordAt 4 = .ok (.iconst 0, 1) := by decide +kernel
theorem dX7_keywordAt_5 : decode cX7_keywordAt 5 = .ok (.istore 4, 2) := by decide +kernel
theorem dX7_keywordAt_7 : decode cX7_keywordAt 7 = .ok (.iconst 0, 1) := by decide +kernel
theorem dX7_keywordAt_8 : decode cX7_keywordAt 8 = .ok (.istore 5, 2) := by decide +kernel
theorem dX7_keywordAt_10 : decode cX7_keywordAt 10 = .ok (.iload 5, 2) := by decide +kernel
theorem dX7_keywordAt_12 : decode cX7_keywordAt 12 = .ok (.ldc 128, 2) := by decide +kernel
theorem dX7_keywordAt_14 : decode cX7_keywordAt 14 = .ok (.invokevirtual 130, 3) := by decide +kernel
theorem dX7_keywordAt_17 : decode cX7_keywordAt 17 = .ok (.if_icmp .ge 55, 3) := by decide +kernel
theorem dX7_keywordAt_20 : decode cX7_keywordAt 20 = .ok (.ldc 128, 2) := by decide +kernel
theorem dX7_keywordAt_22 : decode cX7_keywordAt 22 = .ok (.iload 5, 2) := by decide +kernel
theorem dX7_keywordAt_24 : decode cX7_keywordAt 24 = .ok (.invokevirtual 134, 3) := by decide +kernel
theorem dX7_keywordAt_27 : decode cX7_keywordAt 27 = .ok (.bipush 32, 2) := by decide +kernel
theorem dX7_keywordAt_29 : decode cX7_keywordAt 29 = .ok (.if_icmp .ne 37, 3) := by decide +kernel
theorem dX7_keywordAt_32 : decode cX7_keywordAt 32 = .ok (.iload 5, 2) := by decide +kernel
theorem dX7_keywordAt_34 : decode cX7_keywordAt 34 = .ok (.iload 4, 2) := by decide +kernel
theorem dX7_keywordAt_36 : decode cX7_keywordAt 36 = .ok (.isub, 1) := by decide +kernel
theorem dX7_keywordAt_37 : decode cX7_keywordAt 37 = .ok (.iload_n 2, 1) := by decide +kernel
theorem dX7_keywordAt_38 : decode cX7_keywordAt 38 = .ok (.iload_n 1, 1) := by decide +kernel
theorem dX7_keywordAt_39 : decode cX7_keywordAt 39 = .ok (.isub, 1) := by decide +kernel
theorem dX7_keywordAt_40 : decode cX7_keywordAt 40 = .ok (.if_icmp .ne 17, 3) := by decide +kernel
theorem dX7_keywordAt_43 : decode cX7_keywordAt 43 = .ok (.iload 4, 2) := by decide +kernel
theorem dX7_keywordAt_45 : decode cX7_keywordAt 45 = .ok (.iload 5, 2) := by decide +kernel
theorem dX7_keywordAt_47 : decode cX7_keywordAt 47 = .ok (.aload_n 0, 1) := by decide +kernel
theorem dX7_keywordAt_48 : decode cX7_keywordAt 48 = .ok (.iload_n 1, 1) := by decide +kernel
theorem dX7_keywordAt_49 : decode cX7_keywordAt 49 = .ok (.invokestatic 138, 3) := by decide +kernel
theorem dX7_keywordAt_52 : decode cX7_keywordAt 52 = .ok (.ifCond .eq 5, 3) := by decide +kernel
theorem dX7_keywordAt_55 : decode cX7_keywordAt 55 = .ok (.iload_n 3, 1) := by decide +kernel
theorem dX7_keywordAt_56 : decode cX7_keywordAt 56 = .ok (.ireturn, 1) := by decide +kernel
theorem dX7_keywordAt_57 : decode cX7_keywordAt 57 = .ok (.iinc 3 1, 3) := by decide +kernel
theorem dX7_keywordAt_60 : decode cX7_keywordAt 60 = .ok (.iload 5, 2) := by decide +kernel
theorem dX7_keywordAt_62 : decode cX7_keywordAt 62 = .ok (.iconst 1, 1) := by decide +kernel
theorem dX7_keywordAt_63 : decode cX7_keywordAt 63 = .ok (.iadd, 1) := by decide +kernel
theorem dX7_keywordAt_64 : decode cX7_keywordAt 64 = .ok (.istore 4, 2) := by decide +kernel
theorem dX7_keywordAt_66 : decode cX7_keywordAt 66 = .ok (.iinc 5 1, 3) := by decide +kernel
theorem dX7_keywordAt_69 : decode cX7_keywordAt 69 = .ok (.goto (-59), 3) := by decide +kernel
theorem dX7_keywordAt_72 : decode cX7_keywordAt 72 = .ok (.sipush 301, 3) := by decide +kernel
theorem dX7_keywordAt_75 : decode cX7_keywordAt 75 = .ok (.ireturn, 1) := by decide +kernel
theorem dX7_isKeyword_0 : decode cX7_isKeyword 0 = .ok (.iload_n 0, 1) := by decide +kernel
theorem dX7_isKeyword_1 : decode cX7_isKeyword 1 = .ok (.istore 4, 2) := by decide +kernel
theorem dX7_isKeyword_3 : decode cX7_isKeyword 3 = .ok (.iload 4, 2) := by decide +kernel
theorem dX7_isKeyword_5 : decode cX7_isKeyword 5 = .ok (.iload_n 1, 1) := by decide +kernel
theorem dX7_isKeyword_6 : decode cX7_isKeyword 6 = .ok (.if_icmp .ge 29, 3) := by decide +kernel
theorem dX7_isKeyword_9 : decode cX7_isKeyword 9 = .ok (.ldc 128, 2) := by decide +kernel
theorem dX7_isKeyword_11 : decode cX7_isKeyword 11 = .ok (.iload 4, 2) := by decide +kernel
theorem dX7_isKeyword_13 : decode cX7_isKeyword 13 = .ok (.invokevirtual 134, 3) := by decide +kernel
theorem dX7_isKeyword_16 : decode cX7_isKeyword 16 = .ok (.aload_n 2, 1) := by decide +kernel
theorem dX7_isKeyword_17 : decode cX7_isKeyword 17 = .ok (.iload_n 3, 1) := by decide +kernel
theorem dX7_isKeyword_18 : decode cX7_isKeyword 18 = .ok (.iload 4, 2) := by decide +kernel
theorem dX7_isKeyword_20 : decode cX7_isKeyword 20 = .ok (.iadd, 1) := by decide +kernel
theorem dX7_isKeyword_21 : decode cX7_isKeyword 21 = .ok (.iload_n 0, 1) := by decide +kernel
theorem dX7_isKeyword_22 : decode cX7_isKeyword 22 = .ok (.isub, 1) := by decide +kernel
theorem dX7_isKeyword_23 : decode cX7_isKeyword 23 = .ok (.iaload, 1) := by decide +kernel
theorem dX7_isKeyword_24 : decode cX7_isKeyword 24 = .ok (.if_icmp .eq 5, 3) := by decide +kernel
theorem dX7_isKeyword_27 : decode cX7_isKeyword 27 = .ok (.iconst 0, 1) := by decide +kernel
theorem dX7_isKeyword_28 : decode cX7_isKeyword 28 = .ok (.ireturn, 1) := by decide +kernel
theorem dX7_isKeyword_29 : decode cX7_isKeyword 29 = .ok (.iinc 4 1, 3) := by decide +kernel
theorem dX7_isKeyword_32 : decode cX7_isKeyword 32 = .ok (.goto (-29), 3) := by decide +kernel
theorem dX7_isKeyword_35 : decode cX7_isKeyword 35 = .ok (.iconst 1, 1) := by decide +kernel
theorem dX7_isKeyword_36 : decode cX7_isKeyword 36 = .ok (.ireturn, 1) := by decide +kernel
theorem dX8_init_0 : decode cX8_init 0 = .ok (.aload_n 0, 1) := by decide +kernel
theorem dX8_init_1 : decode cX8_init 1 = .ok (.invokespecial 3, 3) := by decide +kernel
theorem dX8_init_4 : decode cX8_init 4 = .ok (.aload_n 0, 1) := by decide +kernel
theorem dX8_init_5 : decode cX8_init 5 = .ok (.bipush 56, 2) := by decide +kernel
theorem dX8_init_7 : decode cX8_init 7 = .ok (.newarray .int, 2) := by decide +kernel
theorem dX8_init_9 : decode cX8_init 9 = .ok (.putfield 9, 3) := by decide +kernel
theorem dX8_init_12 : decode cX8_init 12 = .ok (.aload_n 0, 1) := by decide +kernel
theorem dX8_init_13 : decode cX8_init 13 = .ok (.aload_n 1, 1) := by decide +kernel
theorem dX8_init_14 : decode cX8_init 14 = .ok (.putfield 15, 3) := by decide +kernel
theorem dX8_init_17 : decode cX8_init 17 = .ok (.return_, 1) := by decide +kernel
theorem dX8_measure_0 : decode cX8_measure 0 = .ok (.aload_n 0, 1) := by decide +kernel
theorem dX8_measure_1 : decode cX8_measure 1 = .ok (.getfield 15, 3) := by decide +kernel
theorem dX8_measure_4 : decode cX8_measure 4 = .ok (.getfield 19, 3) := by decide +kernel
theorem dX8_measure_7 : decode cX8_measure 7 = .ok (.iconst 0, 1) := by decide +kernel
theorem dX8_measure_8 : decode cX8_measure 8 = .ok (.aload_n 0, 1) := by decide +kernel
theorem dX8_measure_9 : decode cX8_measure 9 = .ok (.getfield 9, 3) := by decide +kernel
theorem dX8_measure_12 : decode cX8_measure 12 = .ok (.iconst 0, 1) := by decide +kernel
theorem dX8_measure_13 : decode cX8_measure 13 = .ok (.aload_n 0, 1) := by decide +kernel
theorem dX8_measure_14 : decode cX8_measure 14 = .ok (.getfield 9, 3) := by decide +kernel
theorem dX8_measure_17 : decode cX8_measure 17 = .ok (.arraylength, 1) := by decide +kernel
theorem dX8_measure_18 : decode cX8_measure 18 = .ok (.invokestatic 24, 3) := by decide +kernel
theorem dX8_measure_21 : decode cX8_measure 21 = .ok (.iconst 0, 1) := by decide +kernel
theorem dX8_measure_22 : decode cX8_measure 22 = .ok (.istore_n 1, 1) := by decide +kernel
theorem dX8_measure_23 : decode cX8_measure 23 = .ok (.iload_n 1, 1) := by decide +kernel
theorem dX8_measure_24 : decode cX8_measure 24 = .ok (.aload_n 0, 1) := by decide +kernel
theorem dX8_measure_25 : decode cX8_measure 25 = .ok (.getfield 15, 3) := by decide +kernel
theorem dX8_measure_28 : decode cX8_measure 28 = .ok (.getfield 30, 3) := by decide +kernel
theorem dX8_measure_31 : decode cX8_measure 31 = .ok (.if_icmp .ge 65, 3) := by decide +kernel
theorem dX8_measure_34 : decode cX8_measure 34 = .ok (.iload_n 1, 1) := by decide +kernel
theorem dX8_measure_35 : decode cX8_measure 35 = .ok (.iconst 3, 1) := by decide +kernel
theorem dX8_measure_36 : decode cX8_measure 36 = .ok (.imul, 1) := by decide +kernel
theorem dX8_measure_37 : decode cX8_measure 37 = .ok (.istore_n 2, 1) := by decide +kernel
theorem dX8_measure_38 : decode cX8_measure 38 = .ok (.aload_n 0, 1) := by decide +kernel
theorem dX8_measure_39 : decode cX8_measure 39 = .ok (.getfield 15, 3) := by decide +kernel
theorem dX8_measure_42 : decode cX8_measure 42 = .ok (.getfield 34, 3) := by decide +kernel
theorem dX8_measure_45 : decode cX8_measure 45 = .ok (.aload_n 0, 1) := by decide +kernel
theorem dX8_measure_46 : decode cX8_measure 46 = .ok (.getfield 15, 3) := by decide +kernel
theorem dX8_measure_49 : decode cX8_measure 49 = .ok (.getfield 37, 3) := by decide +kernel
theorem dX8_measure_52 : decode cX8_measure 52 = .ok (.iload_n 2, 1) := by decide +kernel
theorem dX8_measure_53 : decode cX8_measure 53 = .ok (.iconst 2, 1) := by decide +kernel
theorem dX8_measure_54 : decode cX8_measure 54 = .ok (.iadd, 1) := by decide +kernel
theorem dX8_measure_55 : decode cX8_measure 55 = .ok (.iaload, 1) := by decide +kernel
theorem dX8_measure_56 : decode cX8_measure 56 = .ok (.isub, 1) := by decide +kernel
theorem dX8_measure_57 : decode cX8_measure 57 = .ok (.istore_n 3, 1) := by decide +kernel
theorem dX8_measure_58 : decode cX8_measure 58 = .ok (.aload_n 0, 1) := by decide +kernel
theorem dX8_measure_59 : decode cX8_measure 59 = .ok (.getfield 9, 3) := by decide +kernel
theorem dX8_measure_62 : decode cX8_measure 62 = .ok (.aload_n 0, 1) := by decide +kernel
theorem dX8_measure_63 : decode cX8_measure 63 = .ok (.getfield 15, 3) := by decide +kernel
theorem dX8_measure_66 : decode cX8_measure 66 = .ok (.getfield 37, 3) := by decide +kernel
theorem dX8_measure_69 : decode cX8_measure 69 = .ok (.iload_n 2, 1) := by decide +kernel
theorem dX8_measure_70 : decode cX8_measure 70 = .ok (.iconst 0, 1) := by decide +kernel
theorem dX8_measure_71 : decode cX8_measure 71 = .ok (.iadd, 1) := by decide +kernel
theorem dX8_measure_72 : decode cX8_measure 72 = .ok (.iaload, 1) := by decide +kernel
theorem dX8_measure_73 : decode cX8_measure 73 = .ok (.dup2, 1) := by decide +kernel
theorem dX8_measure_74 : decode cX8_measure 74 = .ok (.iaload, 1) := by decide +kernel
theorem dX8_measure_75 : decode cX8_measure 75 = .ok (.iload_n 3, 1) := by decide +kernel
theorem dX8_measure_76 : decode cX8_measure 76 = .ok (.aload_n 0, 1) := by decide +kernel
theorem dX8_measure_77 : decode cX8_measure 77 = .ok (.getfield 15, 3) := by decide +kernel
theorem dX8_measure_80 : decode cX8_measure 80 = .ok (.getfield 37, 3) := by decide +kernel
theorem dX8_measure_83 : decode cX8_measure 83 = .ok (.iload_n 2, 1) := by decide +kernel
theorem dX8_measure_84 : decode cX8_measure 84 = .ok (.iconst 1, 1) := by decide +kernel
theorem dX8_measure_85 : decode cX8_measure 85 = .ok (.iadd, 1) := by decide +kernel
theorem dX8_measure_86 : decode cX8_measure 86 = .ok (.iaload, 1) := by decide +kernel
theorem dX8_measure_87 : decode cX8_measure 87 = .ok (.imul, 1) := by decide +kernel
theorem dX8_measure_88 : decode cX8_measure 88 = .ok (.isub, 1) := by decide +kernel
theorem dX8_measure_89 : decode cX8_measure 89 = .ok (.iastore, 1) := by decide +kernel
theorem dX8_measure_90 : decode cX8_measure 90 = .ok (.iinc 1 1, 3) := by decide +kernel
theorem dX8_measure_93 : decode cX8_measure 93 = .ok (.goto (-70), 3) := by decide +kernel
theorem dX8_measure_96 : decode cX8_measure 96 = .ok (.iconst 0, 1) := by decide +kernel
theorem dX8_measure_97 : decode cX8_measure 97 = .ok (.istore_n 1, 1) := by decide +kernel
theorem dX8_measure_98 : decode cX8_measure 98 = .ok (.iload_n 1, 1) := by decide +kernel
theorem dX8_measure_99 : decode cX8_measure 99 = .ok (.aload_n 0, 1) := by decide +kernel
theorem dX8_measure_100 : decode cX8_measure 100 = .ok (.getfield 9, 3) := by decide +kernel
theorem dX8_measure_103 : decode cX8_measure 103 = .ok (.arraylength, 1) := by decide +kernel
theorem dX8_measure_104 : decode cX8_measure 104 = .ok (.if_icmp .ge 25, 3) := by decide +kernel
theorem dX8_measure_107 : decode cX8_measure 107 = .ok (.aload_n 0, 1) := by decide +kernel
theorem dX8_measure_108 : decode cX8_measure 108 = .ok (.getfield 9, 3) := by decide +kernel
theorem dX8_measure_111 : decode cX8_measure 111 = .ok (.iload_n 1, 1) := by decide +kernel
theorem dX8_measure_112 : decode cX8_measure 112 = .ok (.aload_n 0, 1) := by decide +kernel
theorem dX8_measure_113 : decode cX8_measure 113 = .ok (.getfield 9, 3) := by decide +kernel
theorem dX8_measure_116 : decode cX8_measure 116 = .ok (.iload_n 1, 1) := by decide +kernel
theorem dX8_measure_117 : decode cX8_measure 117 = .ok (.iaload, 1) := by decide +kernel
theorem dX8_measure_118 : decode cX8_measure 118 = .ok (.iconst 0, 1) := by decide +kernel
theorem dX8_measure_119 : decode cX8_measure 119 = .ok (.invokestatic 40, 3) := by decide +kernel
theorem dX8_measure_122 : decode cX8_measure 122 = .ok (.iastore, 1) := by decide +kernel
theorem dX8_measure_123 : decode cX8_measure 123 = .ok (.iinc 1 1, 3) := by decide +kernel
theorem dX8_measure_126 : decode cX8_measure 126 = .ok (.goto (-28), 3) := by decide +kernel
theorem dX8_measure_129 : decode cX8_measure 129 = .ok (.return_, 1) := by decide +kernel
theorem dX8_yardsFrom_0 : decode cX8_yardsFrom 0 = .ok (.aload_n 0, 1) := by decide +kernel
theorem dX8_yardsFrom_1 : decode cX8_yardsFrom 1 = .ok (.getfield 9, 3) := by decide +kernel
theorem dX8_yardsFrom_4 : decode cX8_yardsFrom 4 = .ok (.iload_n 1, 1) := by decide +kernel
theorem dX8_yardsFrom_5 : decode cX8_yardsFrom 5 = .ok (.bipush 7, 2) := by decide +kernel
theorem dX8_yardsFrom_7 : decode cX8_yardsFrom 7 = .ok (.imul, 1) := by decide +kernel
theorem dX8_yardsFrom_8 : decode cX8_yardsFrom 8 = .ok (.iload_n 2, 1) := by decide +kernel
theorem dX8_yardsFrom_9 : decode cX8_yardsFrom 9 = .ok (.iadd, 1) := by decide +kernel
theorem dX8_yardsFrom_10 : decode cX8_yardsFrom 10 = .ok (.iaload, 1) := by decide +kernel
theorem dX8_yardsFrom_11 : decode cX8_yardsFrom 11 = .ok (.ireturn, 1) := by decide +kernel
theorem dX8_yardsOf_0 : decode cX8_yardsOf 0 = .ok (.aload_n 0, 1) := by decide +kernel
theorem dX8_yardsOf_1 : decode cX8_yardsOf 1 = .ok (.getfield 9, 3) := by decide +kernel
theorem dX8_yardsOf_4 : decode cX8_yardsOf 4 = .ok (.aload_n 0, 1) := by decide +kernel
theorem dX8_yardsOf_5 : decode cX8_yardsOf 5 = .ok (.getfield 15, 3) := by decide +kernel
theorem dX8_yardsOf_8 : decode cX8_yardsOf 8 = .ok (.getfield 46, 3) := by decide +kernel
theorem dX8_yardsOf_11 : decode cX8_yardsOf 11 = .ok (.iload_n 1, 1) := by decide +kernel
theorem dX8_yardsOf_12 : decode cX8_yardsOf 12 = .ok (.iaload, 1) := by decide +kernel
theorem dX8_yardsOf_13 : decode cX8_yardsOf 13 = .ok (.bipush 7, 2) := by decide +kernel
theorem dX8_yardsOf_15 : decode cX8_yardsOf 15 = .ok (.imul, 1) := by decide +kernel
theorem dX8_yardsOf_16 : decode cX8_yardsOf 16 = .ok (.iload_n 2, 1) := by decide +kernel
theorem dX8_yardsOf_17 : decode cX8_yardsOf 17 = .ok (.iadd, 1) := by decide +kernel
theorem dX8_yardsOf_18 : decode cX8_yardsOf 18 = .ok (.iaload, 1) := by decide +kernel
theorem dX8_yardsOf_19 : decode cX8_yardsOf 19 = .ok (.ireturn, 1) := by decide +kernel
theorem dX8_worthOfTwo_0 : decode cX8_worthOfTwo 0 = .ok (.aload_n 0, 1) := by decide +kernel
theorem dX8_worthOfTwo_1 : decode cX8_worthOfTwo 1 = .ok (.getfield 15, 3) := by decide +kernel
theorem dX8_worthOfTwo_4 : decode cX8_worthOfTwo 4 = .ok (.getfield 49, 3) := by decide +kernel
theorem dX8_worthOfTwo_7 : decode cX8_worthOfTwo 7 = .ok (.iload_n 3, 1) := by decide +kernel
theorem dX8_worthOfTwo_8 : decode cX8_worthOfTwo 8 = .ok (.bipush 7, 2) := by decide +kernel
theorem dX8_worthOfTwo_10 : decode cX8_worthOfTwo 10 = .ok (.imul, 1) := by decide +kernel
theorem dX8_worthOfTwo_11 : decode cX8_worthOfTwo 11 = .ok (.iload 4, 2) := by decide +kernel
theorem dX8_worthOfTwo_13 : decode cX8_worthOfTwo 13 = .ok (.iadd, 1) := by decide +kernel
theorem dX8_worthOfTwo_14 : decode cX8_worthOfTwo 14 = .ok (.iaload, 1) := by decide +kernel
theorem dX8_worthOfTwo_15 : decode cX8_worthOfTwo 15 = .ok (.ifCond .ne 5, 3) := by decide +kernel
theorem dX8_worthOfTwo_18 : decode cX8_worthOfTwo 18 = .ok (.iconst 0, 1) := by decide +kernel
theorem dX8_worthOfTwo_19 : decode cX8_worthOfTwo 19 = .ok (.ireturn, 1) := by decide +kernel
theorem dX8_worthOfTwo_20 : decode cX8_worthOfTwo 20 = .ok (.aload_n 0, 1) := by decide +kernel
theorem dX8_worthOfTwo_21 : decode cX8_worthOfTwo 21 = .ok (.getfield 15, 3) := by decide +kernel
theorem dX8_worthOfTwo_24 : decode cX8_worthOfTwo 24 = .ok (.getfield 52, 3) := by decide +kernel
theorem dX8_worthOfTwo_27 : decode cX8_worthOfTwo 27 = .ok (.iload_n 1, 1) := by decide +kernel
theorem dX8_worthOfTwo_28 : decode cX8_worthOfTwo 28 = .ok (.iaload, 1) := by decide +kernel
theorem dX8_worthOfTwo_29 : decode cX8_worthOfTwo 29 = .ok (.aload_n 0, 1) := by decide +kernel
theorem dX8_worthOfTwo_30 : decode cX8_worthOfTwo 30 = .ok (.iload_n 2, 1) := by decide +kernel
theorem dX8_worthOfTwo_31 : decode cX8_worthOfTwo 31 = .ok (.iload_n 3, 1) := by decide +kernel
theorem dX8_worthOfTwo_32 : decode cX8_worthOfTwo 32 = .ok (.invokevirtual 55, 3) := by decide +kernel
theorem dX8_worthOfTwo_35 : decode cX8_worthOfTwo 35 = .ok (.aload_n 0, 1) := by decide +kernel
theorem dX8_worthOfTwo_36 : decode cX8_worthOfTwo 36 = .ok (.iload_n 2, 1) := by decide +kernel
theorem dX8_worthOfTwo_37 : decode cX8_worthOfTwo 37 = .ok (.iload 4, 2) := by decide +kernel
theorem dX8_worthOfTwo_39 : decode cX8_worthOfTwo 39 = .ok (.invokevirtual 55, 3) := by decide +kernel
theorem dX8_worthOfTwo_42 : decode cX8_worthOfTwo 42 = .ok (.invokestatic 58, 3) := by decide +kernel
theorem dX8_worthOfTwo_45 : decode cX8_worthOfTwo 45 = .ok (.imul, 1) := by decide +kernel
theorem dX8_worthOfTwo_46 : decode cX8_worthOfTwo 46 = .ok (.ireturn, 1) := by decide +kernel
theorem dX8_worthIn_0 : decode cX8_worthIn 0 = .ok (.iconst 0, 1) := by decide +kernel
theorem dX8_worthIn_1 : decode cX8_worthIn 1 = .ok (.istore 4, 2) := by decide +kernel
theorem dX8_worthIn_3 : decode cX8_worthIn 3 = .ok (.iconst 0, 1) := by decide +kernel
theorem dX8_worthIn_4 : decode cX8_worthIn 4 = .ok (.istore 5, 2) := by decide +kernel
theorem dX8_worthIn_6 : decode cX8_worthIn 6 = .ok (.iload 5, 2) := by decide +kernel
theorem dX8_worthIn_8 : decode cX8_worthIn 8 = .ok (.aload_n 0, 1) := by decide +kernel
theorem dX8_worthIn_9 : decode cX8_worthIn 9 = .ok (.getfield 15, 3) := by decide +kernel
theorem dX8_worthIn_12 : decode cX8_worthIn 12 = .ok (.getfield 61, 3) := by decide +kernel
theorem dX8_worthIn_15 : decode cX8_worthIn 15 = .ok (.if_icmp .ge 80, 3) := by decide +kernel
theorem dX8_worthIn_18 : decode cX8_worthIn 18 = .ok (.iload 4, 2) := by decide +kernel
theorem dX8_worthIn_20 : decode cX8_worthIn 20 = .ok (.aload_n 0, 1) := by decide +kernel
theorem dX8_worthIn_21 : decode cX8_worthIn 21 = .ok (.iload_n 2, 1) := by decide +kernel
theorem dX8_worthIn_22 : decode cX8_worthIn 22 = .ok (.iload 5, 2) := by decide +kernel
theorem dX8_worthIn_24 : decode cX8_worthIn 24 = .ok (.invokevirtual 55, 3) := by decide +kernel
theorem dX8_worthIn_27 : decode cX8_worthIn 27 = .ok (.aload_n 0, 1) := by decide +kernel
theorem dX8_worthIn_28 : decode cX8_worthIn 28 = .ok (.getfield 15, 3) := by decide +kernel
theorem dX8_worthIn_31 : decode cX8_worthIn 31 = .ok (.getfield 64, 3) := by decide +kernel
theorem dX8_worthIn_34 : decode cX8_worthIn 34 = .ok (.iload_n 1, 1) := by decide +kernel
theorem dX8_worthIn_35 : decode cX8_worthIn 35 = .ok (.iconst 4, 1) := by decide +kernel
theorem dX8_worthIn_36 : decode cX8_worthIn 36 = .ok (.imul, 1) := by decide +kernel
theorem dX8_worthIn_37 : decode cX8_worthIn 37 = .ok (.aload_n 3, 1) := by decide +kernel
theorem dX8_worthIn_38 : decode cX8_worthIn 38 = .ok (.iload 5, 2) := by decide +kernel
theorem dX8_worthIn_40 : decode cX8_worthIn 40 = .ok (.iaload, 1) := by decide +kernel
theorem dX8_worthIn_41 : decode cX8_worthIn 41 = .ok (.iadd, 1) := by decide +kernel
theorem dX8_worthIn_42 : decode cX8_worthIn 42 = .ok (.iaload, 1) := by decide +kernel
theorem dX8_worthIn_43 : decode cX8_worthIn 43 = .ok (.imul, 1) := by decide +kernel
theorem dX8_worthIn_44 : decode cX8_worthIn 44 = .ok (.iadd, 1) := by decide +kernel
theorem dX8_worthIn_45 : decode cX8_worthIn 45 = .ok (.istore 4, 2) := by decide +kernel
theorem dX8_worthIn_47 : decode cX8_worthIn 47 = .ok (.iconst 0, 1) := by decide +kernel
theorem dX8_worthIn_48 : decode cX8_worthIn 48 = .ok (.istore 6, 2) := by decide +kernel
theorem dX8_worthIn_50 : decode cX8_worthIn 50 = .ok (.iload 6, 2) := by decide +kernel
theorem dX8_worthIn_52 : decode cX8_worthIn 52 = .ok (.iload 5, 2) := by decide +kernel
theorem dX8_worthIn_54 : decode cX8_worthIn 54 = .ok (.if_icmp .ge 35, 3) := by decide +kernel
theorem dX8_worthIn_57 : decode cX8_worthIn 57 = .ok (.aload_n 3, 1) := by decide +kernel
theorem dX8_worthIn_58 : decode cX8_worthIn 58 = .ok (.iload 5, 2) := by decide +kernel
theorem dX8_worthIn_60 : decode cX8_worthIn 60 = .ok (.iaload, 1) := by decide +kernel
theorem dX8_worthIn_61 : decode cX8_worthIn 61 = .ok (.aload_n 3, 1) := by decide +kernel
theorem dX8_worthIn_62 : decode cX8_worthIn 62 = .ok (.iload 6, 2) := by decide +kernel
theorem dX8_worthIn_64 : decode cX8_worthIn 64 = .ok (.iaload, 1) := by decide +kernel
theorem dX8_worthIn_65 : decode cX8_worthIn 65 = .ok (.if_icmp .ne 18, 3) := by decide +kernel
theorem dX8_worthIn_68 : decode cX8_worthIn 68 = .ok (.iload 4, 2) := by decide +kernel
theorem dX8_worthIn_70 : decode cX8_worthIn 70 = .ok (.aload_n 0, 1) := by decide +kernel
theorem dX8_worthIn_71 : decode cX8_worthIn 71 = .ok (.iload_n 1, 1) := by decide +kernel
theorem dX8_worthIn_72 : decode cX8_worthIn 72 = .ok (.iload_n 2, 1) := by decide +kernel
theorem dX8_worthIn_73 : decode cX8_worthIn 73 = .ok (.iload 5, 2) := by decide +kernel
theorem dX8_worthIn_75 : decode cX8_worthIn 75 = .ok (.iload 6, 2) := by decide +kernel
theorem dX8_worthIn_77 : decode cX8_worthIn 77 = .ok (.invokevirtual 67, 3) := by decide +kernel
theorem dX8_worthIn_80 : decode cX8_worthIn 80 = .ok (.iadd, 1) := by decide +kernel
theorem dX8_worthIn_81 : decode cX8_worthIn 81 = .ok (.istore 4, 2) := by decide +kernel
theorem dX8_worthIn_83 : decode cX8_worthIn 83 = .ok (.iinc 6 1, 3) := by decide +kernel
theorem dX8_worthIn_86 : decode cX8_worthIn 86 = .ok (.goto (-36), 3) := by decide +kernel
theorem dX8_worthIn_89 : decode cX8_worthIn 89 = .ok (.iinc 5 1, 3) := by decide +kernel
theorem dX8_worthIn_92 : decode cX8_worthIn 92 = .ok (.goto (-86), 3) := by decide +kernel
theorem dX8_worthIn_95 : decode cX8_worthIn 95 = .ok (.iload 4, 2) := by decide +kernel
theorem dX8_worthIn_97 : decode cX8_worthIn 97 = .ok (.ireturn, 1) := by decide +kernel
theorem dX8_worthTo_0 : decode cX8_worthTo 0 = .ok (.aload_n 0, 1) := by decide +kernel
theorem dX8_worthTo_1 : decode cX8_worthTo 1 = .ok (.iload_n 1, 1) := by decide +kernel
theorem dX8_worthTo_2 : decode cX8_worthTo 2 = .ok (.aload_n 0, 1) := by decide +kernel
theorem dX8_worthTo_3 : decode cX8_worthTo 3 = .ok (.getfield 15, 3) := by decide +kernel
theorem dX8_worthTo_6 : decode cX8_worthTo 6 = .ok (.getfield 46, 3) := by decide +kernel
theorem dX8_worthTo_9 : decode cX8_worthTo 9 = .ok (.iload_n 1, 1) := by decide +kernel
theorem dX8_worthTo_10 : decode cX8_worthTo 10 = .ok (.iaload, 1) := by decide +kernel
theorem dX8_worthTo_11 : decode cX8_worthTo 11 = .ok (.aload_n 2, 1) := by decide +kernel
theorem dX8_worthTo_12 : decode cX8_worthTo 12 = .ok (.invokevirtual 71, 3) := by decide +kernel
theorem dX8_worthTo_15 : decode cX8_worthTo 15 = .ok (.ireturn, 1) := by decide +kernel
theorem dX9_init_0 : decode cX9_init 0 = .ok (.aload_n 0, 1) := by decide +kernel
theorem dX9_init_1 : decode cX9_init 1 = .ok (.invokespecial 3, 3) := by decide +kernel
theorem dX9_init_4 : decode cX9_init 4 = .ok (.aload_n 0, 1) := by decide +kernel
theorem dX9_init_5 : decode cX9_init 5 = .ok (.iconst 3, 1) := by decide +kernel
theorem dX9_init_6 : decode cX9_init 6 = .ok (.putfield 9, 3) := by decide +kernel
theorem dX9_init_9 : decode cX9_init 9 = .ok (.aload_n 0, 1) := by decide +kernel
theorem dX9_init_10 : decode cX9_init 10 = .ok (.iconst 0, 1) := by decide +kernel
theorem dX9_init_11 : decode cX9_init 11 = .ok (.putfield 15, 3) := by decide +kernel
theorem dX9_init_14 : decode cX9_init 14 = .ok (.aload_n 0, 1) := by decide +kernel
theorem dX9_init_15 : decode cX9_init 15 = .ok (.iconst 0, 1) := by decide +kernel
theorem dX9_init_16 : decode cX9_init 16 = .ok (.putfield 18, 3) := by decide +kernel
theorem dX9_init_19 : decode cX9_init 19 = .ok (.aload_n 0, 1) := by decide +kernel
theorem dX9_init_20 : decode cX9_init 20 = .ok (.iconst 0, 1) := by decide +kernel
theorem dX9_init_21 : decode cX9_init 21 = .ok (.putfield 21, 3) := by decide +kernel
theorem dX9_init_24 : decode cX9_init 24 = .ok (.aload_n 0, 1) := by decide +kernel
theorem dX9_init_25 : decode cX9_init 25 = .ok (.iconst 0, 1) := by decide +kernel
theorem dX9_init_26 : decode cX9_init 26 = .ok (.putfield 24, 3) := by decide +kernel
theorem dX9_init_29 : decode cX9_init 29 = .ok (.aload_n 0, 1) := by decide +kernel
theorem dX9_init_30 : decode cX9_init 30 = .ok (.iconst 0, 1) := by decide +kernel
theorem dX9_init_31 : decode cX9_init 31 = .ok (.putfield 27, 3) := by decide +kernel
theorem dX9_init_34 : decode cX9_init 34 = .ok (.aload_n 0, 1) := by decide +kernel
theorem dX9_init_35 : decode cX9_init 35 = .ok (.iconst 4, 1) := by decide +kernel
theorem dX9_init_36 : decode cX9_init 36 = .ok (.newarray .int, 2) := by decide +kernel
theorem dX9_init_38 : decode cX9_init 38 = .ok (.putfield 30, 3) := by decide +kernel
theorem dX9_init_41 : decode cX9_init 41 = .ok (.aload_n 0, 1) := by decide +kernel
theorem dX9_init_42 : decode cX9_init 42 = .ok (.bipush 7, 2) := by decide +kernel
theorem dX9_init_44 : decode cX9_init 44 = .ok (.newarray .int, 2) := by decide +kernel
theorem dX9_init_46 : decode cX9_init 46 = .ok (.putfield 34, 3) := by decide +kernel
theorem dX9_init_49 : decode cX9_init 49 = .ok (.aload_n 0, 1) := by decide +kernel
theorem dX9_init_50 : decode cX9_init 50 = .ok (.bipush 7, 2) := by decide +kernel
theorem dX9_init_52 : decode cX9_init 52 = .ok (.newarray .int, 2) := by decide +kernel
theorem dX9_init_54 : decode cX9_init 54 = .ok (.putfield 37, 3) := by decide +kernel
theorem dX9_init_57 : decode cX9_init 57 = .ok (.aload_n 0, 1) := by decide +kernel
theorem dX9_init_58 : decode cX9_init 58 = .ok (.bipush 56, 2) := by decide +kernel
theorem dX9_init_60 : decode cX9_init 60 = .ok (.newarray .int, 2) := by decide +kernel
theorem dX9_init_62 : decode cX9_init 62 = .ok (.putfield 40, 3) := by decide +kernel
theorem dX9_init_65 : decode cX9_init 65 = .ok (.aload_n 0, 1) := by decide +kernel
theorem dX9_init_66 : decode cX9_init 66 = .ok (.bipush 60, 2) := by decide +kernel
theorem dX9_init_68 : decode cX9_init 68 = .ok (.newarray .int, 2) := by decide +kernel
theorem dX9_init_70 : decode cX9_init 70 = .ok (.putfield 43, 3) := by decide +kernel
theorem dX9_init_73 : decode cX9_init 73 = .ok (.aload_n 0, 1) := by decide +kernel
theorem dX9_init_74 : decode cX9_init 74 = .ok (.bipush 28, 2) := by decide +kernel
theorem dX9_init_76 : decode cX9_init 76 = .ok (.newarray .int, 2) := by decide +kernel
theorem dX9_init_78 : decode cX9_init 78 = .ok (.putfield 46, 3) := by decide +kernel
theorem dX9_init_81 : decode cX9_init 81 = .ok (.aload_n 0, 1) := by decide +kernel
theorem dX9_init_82 : decode cX9_init 82 = .ok (.bipush 28, 2) := by decide +kernel
theorem dX9_init_84 : decode cX9_init 84 = .ok (.newarray .int, 2) := by decide +kernel
theorem dX9_init_86 : decode cX9_init 86 = .ok (.putfield 49, 3) := by decide +kernel
theorem dX9_init_89 : decode cX9_init 89 = .ok (.aload_n 0, 1) := by decide +kernel
theorem dX9_init_90 : decode cX9_init 90 = .ok (.bipush 7, 2) := by decide +kernel
theorem dX9_init_92 : decode cX9_init 92 = .ok (.newarray .int, 2) := by decide +kernel
theorem dX9_init_94 : decode cX9_init 94 = .ok (.putfield 52, 3) := by decide +kernel
theorem dX9_init_97 : decode cX9_init 97 = .ok (.aload_n 0, 1) := by decide +kernel
theorem dX9_init_98 : decode cX9_init 98 = .ok (.bipush 49, 2) := by decide +kernel
theorem dX9_init_100 : decode cX9_init 100 = .ok (.newarray .int, 2) := by decide +kernel
theorem dX9_init_102 : decode cX9_init 102 = .ok (.putfield 55, 3) := by decide +kernel
theorem dX9_init_105 : decode cX9_init 105 = .ok (.aload_n 0, 1) := by decide +kernel
theorem dX9_init_106 : decode cX9_init 106 = .ok (.new 58, 3) := by decide +kernel
theorem dX9_init_109 : decode cX9_init 109 = .ok (.dup, 1) := by decide +kernel
theorem dX9_init_110 : decode cX9_init 110 = .ok (.invokespecial 60, 3) := by decide +kernel
theorem dX9_init_113 : decode cX9_init 113 = .ok (.putfield 61, 3) := by decide +kernel
theorem dX9_init_116 : decode cX9_init 116 = .ok (.aload_n 0, 1) := by decide +kernel
theorem dX9_init_117 : decode cX9_init 117 = .ok (.new 65, 3) := by decide +kernel
theorem dX9_init_120 : decode cX9_init 120 = .ok (.dup, 1) := by decide +kernel
theorem dX9_init_121 : decode cX9_init 121 = .ok (.invokespecial 67, 3) := by decide +kernel
theorem dX9_init_124 : decode cX9_init 124 = .ok (.putfield 68, 3) := by decide +kernel
theorem dX9_init_127 : decode cX9_init 127 = .ok (.aload_n 0, 1) := by decide +kernel
theorem dX9_init_128 : decode cX9_init 128 = .ok (.new 72, 3) := by decide +kernel
theorem dX9_init_131 : decode cX9_init 131 = .ok (.dup, 1) := by decide +kernel
theorem dX9_init_132 : decode cX9_init 132 = .ok (.invokespecial 74, 3) := by decide +kernel
theorem dX9_init_135 : decode cX9_init 135 = .ok (.putfield 75, 3) := by decide +kernel
theorem dX9_init_138 : decode cX9_init 138 = .ok (.return_, 1) := by decide +kernel
theorem dX9_clear_0 : decode cX9_clear 0 = .ok (.aload_n 0, 1) := by decide +kernel
theorem dX9_clear_1 : decode cX9_clear 1 = .ok (.iload_n 1, 1) := by decide +kernel
theorem dX9_clear_2 : decode cX9_clear 2 = .ok (.putfield 9, 3) := by decide +kernel
theorem dX9_clear_5 : decode cX9_clear 5 = .ok (.aload_n 0, 1) := by decide +kernel
theorem dX9_clear_6 : decode cX9_clear 6 = .ok (.iconst 0, 1) := by decide +kernel
theorem dX9_clear_7 : decode cX9_clear 7 = .ok (.putfield 18, 3) := by decide +kernel
theorem dX9_clear_10 : decode cX9_clear 10 = .ok (.aload_n 0, 1) := by decide +kernel
theorem dX9_clear_11 : decode cX9_clear 11 = .ok (.iconst 0, 1) := by decide +kernel
theorem dX9_clear_12 : decode cX9_clear 12 = .ok (.putfield 21, 3) := by decide +kernel
theorem dX9_clear_15 : decode cX9_clear 15 = .ok (.aload_n 0, 1) := by decide +kernel
theorem dX9_clear_16 : decode cX9_clear 16 = .ok (.iconst 0, 1) := by decide +kernel
theorem dX9_clear_17 : decode cX9_clear 17 = .ok (.putfield 24, 3) := by decide +kernel
theorem dX9_clear_20 : decode cX9_clear 20 = .ok (.aload_n 0, 1) := by decide +kernel
theorem dX9_clear_21 : decode cX9_clear 21 = .ok (.iconst 0, 1) := by decide +kernel
theorem dX9_clear_22 : decode cX9_clear 22 = .ok (.putfield 27, 3) := by decide +kernel
theorem dX9_clear_25 : decode cX9_clear 25 = .ok (.aload_n 0, 1) := by decide +kernel
theorem dX9_clear_26 : decode cX9_clear 26 = .ok (.getfield 30, 3) := by decide +kernel
theorem dX9_clear_29 : decode cX9_clear 29 = .ok (.iconst 0, 1) := by decide +kernel
theorem dX9_clear_30 : decode cX9_clear 30 = .ok (.invokestatic 79, 3) := by decide +kernel
theorem dX9_clear_33 : decode cX9_clear 33 = .ok (.aload_n 0, 1) := by decide +kernel
theorem dX9_clear_34 : decode cX9_clear 34 = .ok (.getfield 40, 3) := by decide +kernel
theorem dX9_clear_37 : decode cX9_clear 37 = .ok (.iconst 0, 1) := by decide +kernel
theorem dX9_clear_38 : decode cX9_clear 38 = .ok (.invokestatic 79, 3) := by decide +kernel
theorem dX9_clear_41 : decode cX9_clear 41 = .ok (.aload_n 0, 1) := by decide +kernel
theorem dX9_clear_42 : decode cX9_clear 42 = .ok (.getfield 46, 3) := by decide +kernel
theorem dX9_clear_45 : decode cX9_clear 45 = .ok (.iconst 0, 1) := by decide +kernel
theorem dX9_clear_46 : decode cX9_clear 46 = .ok (.invokestatic 79, 3) := by decide +kernel
theorem dX9_clear_49 : decode cX9_clear 49 = .ok (.aload_n 0, 1) := by decide +kernel
theorem dX9_clear_50 : decode cX9_clear 50 = .ok (.getfield 49, 3) := by decide +kernel
theorem dX9_clear_53 : decode cX9_clear 53 = .ok (.iconst 0, 1) := by decide +kernel
theorem dX9_clear_54 : decode cX9_clear 54 = .ok (.invokestatic 79, 3) := by decide +kernel
theorem dX9_clear_57 : decode cX9_clear 57 = .ok (.aload_n 0, 1) := by decide +kernel
theorem dX9_clear_58 : decode cX9_clear 58 = .ok (.getfield 52, 3) := by decide +kernel
theorem dX9_clear_61 : decode cX9_clear 61 = .ok (.iconst 0, 1) := by decide +kernel
theorem dX9_clear_62 : decode cX9_clear 62 = .ok (.invokestatic 79, 3) := by decide +kernel
theorem dX9_clear_65 : decode cX9_clear 65 = .ok (.aload_n 0, 1) := by decide +kernel
theorem dX9_clear_66 : decode cX9_clear 66 = .ok (.getfield 55, 3) := by decide +kernel
theorem dX9_clear_69 : decode cX9_clear 69 = .ok (.iconst 0, 1) := by decide +kernel
theorem dX9_clear_70 : decode cX9_clear 70 = .ok (.invokestatic 79, 3) := by decide +kernel
theorem dX9_clear_73 : decode cX9_clear 73 = .ok (.aload_n 0, 1) := by decide +kernel
theorem dX9_clear_74 : decode cX9_clear 74 = .ok (.getfield 61, 3) := by decide +kernel
theorem dX9_clear_77 : decode cX9_clear 77 = .ok (.invokevirtual 85, 3) := by decide +kernel
theorem dX9_clear_80 : decode cX9_clear 80 = .ok (.aload_n 0, 1) := by decide +kernel
theorem dX9_clear_81 : decode cX9_clear 81 = .ok (.getfield 68, 3) := by decide +kernel
theorem dX9_clear_84 : decode cX9_clear 84 = .ok (.invokevirtual 88, 3) := by decide +kernel
theorem dX9_clear_87 : decode cX9_clear 87 = .ok (.aload_n 0, 1) := by decide +kernel
theorem dX9_clear_88 : decode cX9_clear 88 = .ok (.getfield 75, 3) := by decide +kernel
theorem dX9_clear_91 : decode cX9_clear 91 = .ok (.invokevirtual 89, 3) := by decide +kernel
theorem dX9_clear_94 : decode cX9_clear 94 = .ok (.return_, 1) := by decide +kernel
theorem dX9_copyFrom_0 : decode cX9_copyFrom 0 = .ok (.aload_n 0, 1) := by decide +kernel
theorem dX9_copyFrom_1 : decode cX9_copyFrom 1 = .ok (.aload_n 1, 1) := by decide +kernel
theorem dX9_copyFrom_2 : decode cX9_copyFrom 2 = .ok (.getfield 9, 3) := by decide +kernel
theorem dX9_copyFrom_5 : decode cX9_copyFrom 5 = .ok (.putfield 9, 3) := by decide +kernel
theorem dX9_copyFrom_8 : decode cX9_copyFrom 8 = .ok (.aload_n 0, 1) := by decide +kernel
theorem dX9_copyFrom_9 : decode cX9_copyFrom 9 = .ok (.aload_n 1, 1) := by decide +kernel
theorem dX9_copyFrom_10 : decode cX9_copyFrom 10 = .ok (.getfield 15, 3) := by decide +kernel
theorem dX9_copyFrom_13 : decode cX9_copyFrom 13 = .ok (.putfield 15, 3) := by decide +kernel
theorem dX9_copyFrom_16 : decode cX9_copyFrom 16 = .ok (.aload_n 0, 1) := by decide +kernel
theorem dX9_copyFrom_17 : decode cX9_copyFrom 17 = .ok (.aload_n 1, 1) := by decide +kernel
theorem dX9_copyFrom_18 : decode cX9_copyFrom 18 = .ok (.getfield 18, 3) := by decide +kernel
theorem dX9_copyFrom_21 : decode cX9_copyFrom 21 = .ok (.putfield 18, 3) := by decide +kernel
theorem dX9_copyFrom_24 : decode cX9_copyFrom 24 = .ok (.aload_n 0, 1) := by decide +kernel
theorem dX9_copyFrom_25 : decode cX9_copyFrom 25 = .ok (.aload_n 1, 1) := by decide +kernel
theorem dX9_copyFrom_26 : decode cX9_copyFrom 26 = .ok (.getfield 21, 3) := by decide +kernel
theorem dX9_copyFrom_29 : decode cX9_copyFrom 29 = .ok (.putfield 21, 3) := by decide +kernel
theorem dX9_copyFrom_32 : decode cX9_copyFrom 32 = .ok (.aload_n 0, 1) := by decide +kernel
theorem dX9_copyFrom_33 : decode cX9_copyFrom 33 = .ok (.aload_n 1, 1) := by decide +kernel
theorem dX9_copyFrom_34 : decode cX9_copyFrom 34 = .ok (.getfield 24, 3) := by decide +kernel
theorem dX9_copyFrom_37 : decode cX9_copyFrom 37 = .ok (.putfield 24, 3) := by decide +kernel
theorem dX9_copyFrom_40 : decode cX9_copyFrom 40 = .ok (.aload_n 0, 1) := by decide +kernel
theorem dX9_copyFrom_41 : decode cX9_copyFrom 41 = .ok (.aload_n 1, 1) := by decide +kernel
theorem dX9_copyFrom_42 : decode cX9_copyFrom 42 = .ok (.getfield 27, 3) := by decide +kernel
theorem dX9_copyFrom_45 : decode cX9_copyFrom 45 = .ok (.putfield 27, 3) := by decide +kernel
theorem dX9_copyFrom_48 : decode cX9_copyFrom 48 = .ok (.aload_n 1, 1) := by decide +kernel
theorem dX9_copyFrom_49 : decode cX9_copyFrom 49 = .ok (.getfield 30, 3) := by decide +kernel
theorem dX9_copyFrom_52 : decode cX9_copyFrom 52 = .ok (.iconst 0, 1) := by decide +kernel
theorem dX9_copyFrom_53 : decode cX9_copyFrom 53 = .ok (.aload_n 0, 1) := by decide +kernel
theorem dX9_copyFrom_54 : decode cX9_copyFrom 54 = .ok (.getfield 30, 3) := by decide +kernel
theorem dX9_copyFrom_57 : decode cX9_copyFrom 57 = .ok (.iconst 0, 1) := by decide +kernel
theorem dX9_copyFrom_58 : decode cX9_copyFrom 58 = .ok (.aload_n 0, 1) := by decide +kernel
theorem dX9_copyFrom_59 : decode cX9_copyFrom 59 = .ok (.getfield 30, 3) := by decide +kernel
theorem dX9_copyFrom_62 : decode cX9_copyFrom 62 = .ok (.arraylength, 1) := by decide +kernel
theorem dX9_copyFrom_63 : decode cX9_copyFrom 63 = .ok (.invokestatic 90, 3) := by decide +kernel
theorem dX9_copyFrom_66 : decode cX9_copyFrom 66 = .ok (.aload_n 1, 1) := by decide +kernel
theorem dX9_copyFrom_67 : decode cX9_copyFrom 67 = .ok (.getfield 34, 3) := by decide +kernel
theorem dX9_copyFrom_70 : decode cX9_copyFrom 70 = .ok (.iconst 0, 1) := by decide +kernel
theorem dX9_copyFrom_71 : decode cX9_copyFrom 71 = .ok (.aload_n 0, 1) := by decide +kernel
theorem dX9_copyFrom_72 : decode cX9_copyFrom 72 = .ok (.getfield 34, 3) := by decide +kernel
theorem dX9_copyFrom_75 : decode cX9_copyFrom 75 = .ok (.iconst 0, 1) := by decide +kernel
theorem dX9_copyFrom_76 : decode cX9_copyFrom 76 = .ok (.aload_n 0, 1) := by decide +kernel
theorem dX9_copyFrom_77 : decode cX9_copyFrom 77 = .ok (.getfield 34, 3) := by decide +kernel
theorem dX9_copyFrom_80 : decode cX9_copyFrom 80 = .ok (.arraylength, 1) := by decide +kernel
theorem dX9_copyFrom_81 : decode cX9_copyFrom 81 = .ok (.invokestatic 90, 3) := by decide +kernel
theorem dX9_copyFrom_84 : decode cX9_copyFrom 84 = .ok (.aload_n 1, 1) := by decide +kernel
theorem dX9_copyFrom_85 : decode cX9_copyFrom 85 = .ok (.getfield 37, 3) := by decide +kernel
theorem dX9_copyFrom_88 : decode cX9_copyFrom 88 = .ok (.iconst 0, 1) := by decide +kernel
theorem dX9_copyFrom_89 : decode cX9_copyFrom 89 = .ok (.aload_n 0, 1) := by decide +kernel
theorem dX9_copyFrom_90 : decode cX9_copyFrom 90 = .ok (.getfield 37, 3) := by decide +kernel
theorem dX9_copyFrom_93 : decode cX9_copyFrom 93 = .ok (.iconst 0, 1) := by decide +kernel
theorem dX9_copyFrom_94 : decode cX9_copyFrom 94 = .ok (.aload_n 0, 1) := by decide +kernel
theorem dX9_copyFrom_95 : decode cX9_copyFrom 95 = .ok (.getfield 37, 3) := by decide +kernel
theorem dX9_copyFrom_98 : decode cX9_copyFrom 98 = .ok (.arraylength, 1) := by decide +kernel
theorem dX9_copyFrom_99 : decode cX9_copyFrom 99 = .ok (.invokestatic 90, 3) := by decide +kernel
theorem dX9_copyFrom_102 : decode cX9_copyFrom 102 = .ok (.aload_n 1, 1) := by decide +kernel
theorem dX9_copyFrom_103 : decode cX9_copyFrom 103 = .ok (.getfield 40, 3) := by decide +kernel
theorem dX9_copyFrom_106 : decode cX9_copyFrom 106 = .ok (.iconst 0, 1) := by decide +kernel
theorem dX9_copyFrom_107 : decode cX9_copyFrom 107 = .ok (.aload_n 0, 1) := by decide +kernel
theorem dX9_copyFrom_108 : decode cX9_copyFrom 108 = .ok (.getfield 40, 3) := by decide +kernel
theorem dX9_copyFrom_111 : decode cX9_copyFrom 111 = .ok (.iconst 0, 1) := by decide +kernel
theorem dX9_copyFrom_112 : decode cX9_copyFrom 112 = .ok (.aload_n 0, 1) := by decide +kernel
theorem dX9_copyFrom_113 : decode cX9_copyFrom 113 = .ok (.getfield 40, 3) := by decide +kernel
theorem dX9_copyFrom_116 : decode cX9_copyFrom 116 = .ok (.arraylength, 1) := by decide +kernel
theorem dX9_copyFrom_117 : decode cX9_copyFrom 117 = .ok (.invokestatic 90, 3) := by decide +kernel
theorem dX9_copyFrom_120 : decode cX9_copyFrom 120 = .ok (.aload_n 1, 1) := by decide +kernel
theorem dX9_copyFrom_121 : decode cX9_copyFrom 121 = .ok (.getfield 43, 3) := by decide +kernel
theorem dX9_copyFrom_124 : decode cX9_copyFrom 124 = .ok (.iconst 0, 1) := by decide +kernel
theorem dX9_copyFrom_125 : decode cX9_copyFrom 125 = .ok (.aload_n 0, 1) := by decide +kernel
theorem dX9_copyFrom_126 : decode cX9_copyFrom 126 = .ok (.getfield 43, 3) := by decide +kernel
theorem dX9_copyFrom_129 : decode cX9_copyFrom 129 = .ok (.iconst 0, 1) := by decide +kernel
theorem dX9_copyFrom_130 : decode cX9_copyFrom 130 = .ok (.aload_n 0, 1) := by decide +kernel
theorem dX9_copyFrom_131 : decode cX9_copyFrom 131 = .ok (.getfield 43, 3) := by decide +kernel
theorem dX9_copyFrom_134 : decode cX9_copyFrom 134 = .ok (.arraylength, 1) := by decide +kernel
theorem dX9_copyFrom_135 : decode cX9_copyFrom 135 = .ok (.invokestatic 90, 3) := by decide +kernel
theorem dX9_copyFrom_138 : decode cX9_copyFrom 138 = .ok (.aload_n 1, 1) := by decide +kernel
theorem dX9_copyFrom_139 : decode cX9_copyFrom 139 = .ok (.getfield 46, 3) := by decide +kernel
theorem dX9_copyFrom_142 : decode cX9_copyFrom 142 = .ok (.iconst 0, 1) := by decide +kernel
theorem dX9_copyFrom_143 : decode cX9_copyFrom 143 = .ok (.aload_n 0, 1) := by decide +kernel
theorem dX9_copyFrom_144 : decode cX9_copyFrom 144 = .ok (.getfield 46, 3) := by decide +kernel
theorem dX9_copyFrom_147 : decode cX9_copyFrom 147 = .ok (.iconst 0, 1) := by decide +kernel
theorem dX9_copyFrom_148 : decode cX9_copyFrom 148 = .ok (.aload_n 0, 1) := by decide +kernel
theorem dX9_copyFrom_149 : decode cX9_copyFrom 149 = .ok (.getfield 46, 3) := by decide +kernel
theorem dX9_copyFrom_152 : decode cX9_copyFrom 152 = .ok (.arraylength, 1) := by decide +kernel
theorem dX9_copyFrom_153 : decode cX9_copyFrom 153 = .ok (.invokestatic 90, 3) := by decide +kernel
theorem dX9_copyFrom_156 : decode cX9_copyFrom 156 = .ok (.aload_n 1, 1) := by decide +kernel
theorem dX9_copyFrom_157 : decode cX9_copyFrom 157 = .ok (.getfield 49, 3) := by decide +kernel
theorem dX9_copyFrom_160 : decode cX9_copyFrom 160 = .ok (.iconst 0, 1) := by decide +kernel
theorem dX9_copyFrom_161 : decode cX9_copyFrom 161 = .ok (.aload_n 0, 1) := by decide +kernel
theorem dX9_copyFrom_162 : decode cX9_copyFrom 162 = .ok (.getfield 49, 3) := by decide +kernel
theorem dX9_copyFrom_165 : decode cX9_copyFrom 165 = .ok (.iconst 0, 1) := by decide +kernel
theorem dX9_copyFrom_166 : decode cX9_copyFrom 166 = .ok (.aload_n 0, 1) := by decide +kernel
theorem dX9_copyFrom_167 : decode cX9_copyFrom 167 = .ok (.getfield 49, 3) := by decide +kernel
theorem dX9_copyFrom_170 : decode cX9_copyFrom 170 = .ok (.arraylength, 1) := by decide +kernel
theorem dX9_copyFrom_171 : decode cX9_copyFrom 171 = .ok (.invokestatic 90, 3) := by decide +kernel
theorem dX9_copyFrom_174 : decode cX9_copyFrom 174 = .ok (.aload_n 1, 1) := by decide +kernel
theorem dX9_copyFrom_175 : decode cX9_copyFrom 175 = .ok (.getfield 52, 3) := by decide +kernel
theorem dX9_copyFrom_178 : decode cX9_copyFrom 178 = .ok (.iconst 0, 1) := by decide +kernel
theorem dX9_copyFrom_179 : decode cX9_copyFrom 179 = .ok (.aload_n 0, 1) := by decide +kernel
theorem dX9_copyFrom_180 : decode cX9_copyFrom 180 = .ok (.getfield 52, 3) := by decide +kernel
theorem dX9_copyFrom_183 : decode cX9_copyFrom 183 = .ok (.iconst 0, 1) := by decide +kernel
theorem dX9_copyFrom_184 : decode cX9_copyFrom 184 = .ok (.aload_n 0, 1) := by decide +kernel
theorem dX9_copyFrom_185 : decode cX9_copyFrom 185 = .ok (.getfield 52, 3) := by decide +kernel
theorem dX9_copyFrom_188 : decode cX9_copyFrom 188 = .ok (.arraylength, 1) := by decide +kernel
theorem dX9_copyFrom_189 : decode cX9_copyFrom 189 = .ok (.invokestatic 90, 3) := by decide +kernel
theorem dX9_copyFrom_192 : decode cX9_copyFrom 192 = .ok (.aload_n 1, 1) := by decide +kernel
theorem dX9_copyFrom_193 : decode cX9_copyFrom 193 = .ok (.getfield 55, 3) := by decide +kernel
theorem dX9_copyFrom_196 : decode cX9_copyFrom 196 = .ok (.iconst 0, 1) := by decide +kernel
theorem dX9_copyFrom_197 : decode cX9_copyFrom 197 = .ok (.aload_n 0, 1) := by decide +kernel
theorem dX9_copyFrom_198 : decode cX9_copyFrom 198 = .ok (.getfield 55, 3) := by decide +kernel
theorem dX9_copyFrom_201 : decode cX9_copyFrom 201 = .ok (.iconst 0, 1) := by decide +kernel
theorem dX9_copyFrom_202 : decode cX9_copyFrom 202 = .ok (.aload_n 0, 1) := by decide +kernel
theorem dX9_copyFrom_203 : decode cX9_copyFrom 203 = .ok (.getfield 55, 3) := by decide +kernel
theorem dX9_copyFrom_206 : decode cX9_copyFrom 206 = .ok (.arraylength, 1) := by decide +kernel
theorem dX9_copyFrom_207 : decode cX9_copyFrom 207 = .ok (.invokestatic 90, 3) := by decide +kernel
theorem dX9_copyFrom_210 : decode cX9_copyFrom 210 = .ok (.aload_n 0, 1) := by decide +kernel
theorem dX9_copyFrom_211 : decode cX9_copyFrom 211 = .ok (.getfield 61, 3) := by decide +kernel
theorem dX9_copyFrom_214 : decode cX9_copyFrom 214 = .ok (.aload_n 1, 1) := by decide +kernel
theorem dX9_copyFrom_215 : decode cX9_copyFrom 215 = .ok (.getfield 61, 3) := by decide +kernel
theorem dX9_copyFrom_218 : decode cX9_copyFrom 218 = .ok (.invokevirtual 96, 3) := by decide +kernel
theorem dX9_copyFrom_221 : decode cX9_copyFrom 221 = .ok (.aload_n 0, 1) := by decide +kernel
theorem dX9_copyFrom_222 : decode cX9_copyFrom 222 = .ok (.getfield 68, 3) := by decide +kernel
theorem dX9_copyFrom_225 : decode cX9_copyFrom 225 = .ok (.aload_n 1, 1) := by decide +kernel
theorem dX9_copyFrom_226 : decode cX9_copyFrom 226 = .ok (.getfield 68, 3) := by decide +kernel
theorem dX9_copyFrom_229 : decode cX9_copyFrom 229 = .ok (.invokevirtual 100, 3) := by decide +kernel
theorem dX9_copyFrom_232 : decode cX9_copyFrom 232 = .ok (.aload_n 0, 1) := by decide +kernel
theorem dX9_copyFrom_233 : decode cX9_copyFrom 233 = .ok (.getfield 75, 3) := by decide +kernel
theorem dX9_copyFrom_236 : decode cX9_copyFrom 236 = .ok (.aload_n 1, 1) := by decide +kernel
theorem dX9_copyFrom_237 : decode cX9_copyFrom 237 = .ok (.getfield 75, 3) := by decide +kernel
theorem dX9_copyFrom_240 : decode cX9_copyFrom 240 = .ok (.invokevirtual 103, 3) := by decide +kernel
theorem dX9_copyFrom_243 : decode cX9_copyFrom 243 = .ok (.return_, 1) := by decide +kernel
theorem dX9_hasColour_0 : decode cX9_hasColour 0 = .ok (.iload_n 1, 1) := by decide +kernel
theorem dX9_hasColour_1 : decode cX9_hasColour 1 = .ok (.ifCond .lt 15, 3) := by decide +kernel
theorem dX9_hasColour_4 : decode cX9_hasColour 4 = .ok (.iload_n 1, 1) := by decide +kernel
theorem dX9_hasColour_5 : decode cX9_hasColour 5 = .ok (.aload_n 0, 1) := by decide +kernel
theorem dX9_hasColour_6 : decode cX9_hasColour 6 = .ok (.getfield 9, 3) := by decide +kernel
theorem dX9_hasColour_9 : decode cX9_hasColour 9 = .ok (.if_icmp .ge 7, 3) := by decide +kernel
theorem dX9_hasColour_12 : decode cX9_hasColour 12 = .ok (.iconst 1, 1) := by decide +kernel
theorem dX9_hasColour_13 : decode cX9_hasColour 13 = .ok (.goto 4, 3) := by decide +kernel
theorem dX9_hasColour_16 : decode cX9_hasColour 16 = .ok (.iconst 0, 1) := by decide +kernel
theorem dX9_hasColour_17 : decode cX9_hasColour 17 = .ok (.ireturn, 1) := by decide +kernel
theorem dX9_hasWall_0 : decode cX9_hasWall 0 = .ok (.iload_n 1, 1) := by decide +kernel
theorem dX9_hasWall_1 : decode cX9_hasWall 1 = .ok (.ifCond .lt 15, 3) := by decide +kernel
theorem dX9_hasWall_4 : decode cX9_hasWall 4 = .ok (.iload_n 1, 1) := by decide +kernel
theorem dX9_hasWall_5 : decode cX9_hasWall 5 = .ok (.aload_n 0, 1) := by decide +kernel
theorem dX9_hasWall_6 : decode cX9_hasWall 6 = .ok (.getfield 21, 3) := by decide +kernel
theorem dX9_hasWall_9 : decode cX9_hasWall 9 = .ok (.if_icmp .ge 7, 3) := by decide +kernel
theorem dX9_hasWall_12 : decode cX9_hasWall 12 = .ok (.iconst 1, 1) := by decide +kernel
theorem dX9_hasWall_13 : decode cX9_hasWall 13 = .ok (.goto 4, 3) := by decide +kernel
theorem dX9_hasWall_16 : decode cX9_hasWall 16 = .ok (.iconst 0, 1) := by decide +kernel
theorem dX9_hasWall_17 : decode cX9_hasWall 17 = .ok (.ireturn, 1) := by decide +kernel
theorem dX9_hasPerson_0 : decode cX9_hasPerson 0 = .ok (.iload_n 1, 1) := by decide +kernel
theorem dX9_hasPerson_1 : decode cX9_hasPerson 1 = .ok (.ifCond .lt 15, 3) := by decide +kernel
theorem dX9_hasPerson_4 : decode cX9_hasPerson 4 = .ok (.iload_n 1, 1) := by decide +kernel
theorem dX9_hasPerson_5 : decode cX9_hasPerson 5 = .ok (.aload_n 0, 1) := by decide +kernel
theorem dX9_hasPerson_6 : decode cX9_hasPerson 6 = .ok (.getfield 24, 3) := by decide +kernel
theorem dX9_hasPerson_9 : decode cX9_hasPerson 9 = .ok (.if_icmp .ge 7, 3) := by decide +kernel
theorem dX9_hasPerson_12 : decode cX9_hasPerson 12 = .ok (.iconst 1, 1) := by decide +kernel
theorem dX9_hasPerson_13 : decode cX9_hasPerson 13 = .ok (.goto 4, 3) := by decide +kernel
theorem dX9_hasPerson_16 : decode cX9_hasPerson 16 = .ok (.iconst 0, 1) := by decide +kernel
theorem dX9_hasPerson_17 : decode cX9_hasPerson 17 = .ok (.ireturn, 1) := by decide +kernel
theorem dX9_livingIn_0 : decode cX9_livingIn 0 = .ok (.iconst 0, 1) := by decide +kernel
theorem dX9_livingIn_1 : decode cX9_livingIn 1 = .ok (.istore_n 2, 1) := by decide +kernel
theorem dX9_livingIn_2 : decode cX9_livingIn 2 = .ok (.iload_n 2, 1) := by decide +kernel
theorem dX9_livingIn_3 : decode cX9_livingIn 3 = .ok (.aload_n 0, 1) := by decide +kernel
theorem dX9_livingIn_4 : decode cX9_livingIn 4 = .ok (.getfield 24, 3) := by decide +kernel
theorem dX9_livingIn_7 : decode cX9_livingIn 7 = .ok (.if_icmp .ge 21, 3) := by decide +kernel
theorem dX9_livingIn_10 : decode cX9_livingIn 10 = .ok (.aload_n 0, 1) := by decide +kernel
theorem dX9_livingIn_11 : decode cX9_livingIn 11 = .ok (.getfield 37, 3) := by decide +kernel
theorem dX9_livingIn_14 : decode cX9_livingIn 14 = .ok (.iload_n 2, 1) := by decide +kernel
theorem dX9_livingIn_15 : decode cX9_livingIn 15 = .ok (.iaload, 1) := by decide +kernel
theorem dX9_livingIn_16 : decode cX9_livingIn 16 = .ok (.iload_n 1, 1) := by decide +kernel
theorem dX9_livingIn_17 : decode cX9_livingIn 17 = .ok (.if_icmp .ne 5, 3) := by decide +kernel
theorem dX9_livingIn_20 : decode cX9_livingIn 20 = .ok (.iload_n 2, 1) := by decide +kernel
theorem dX9_livingIn_21 : decode cX9_livingIn 21 = .ok (.ireturn, 1) := by decide +kernel
theorem dX9_livingIn_22 : decode cX9_livingIn 22 = .ok (.iinc 2 1, 3) := by decide +kernel
theorem dX9_livingIn_25 : decode cX9_livingIn 25 = .ok (.goto (-23), 3) := by decide +kernel
theorem dX9_livingIn_28 : decode cX9_livingIn 28 = .ok (.iconst (-1), 1) := by decide +kernel
theorem dX9_livingIn_29 : decode cX9_livingIn 29 = .ok (.ireturn, 1) := by decide +kernel
theorem dX9_draw_0 : decode cX9_draw 0 = .ok (.aload_n 0, 1) := by decide +kernel
theorem dX9_draw_1 : decode cX9_draw 1 = .ok (.ldc 106, 2) := by decide +kernel
theorem dX9_draw_3 : decode cX9_draw 3 = .ok (.aload_n 0, 1) := by decide +kernel
theorem dX9_draw_4 : decode cX9_draw 4 = .ok (.getfield 15, 3) := by decide +kernel
theorem dX9_draw_7 : decode cX9_draw 7 = .ok (.imul, 1) := by decide +kernel
theorem dX9_draw_8 : decode cX9_draw 8 = .ok (.ldc 107, 2) := by decide +kernel
theorem dX9_draw_10 : decode cX9_draw 10 = .ok (.iadd, 1) := by decide +kernel
theorem dX9_draw_11 : decode cX9_draw 11 = .ok (.putfield 15, 3) := by decide +kernel
theorem dX9_draw_14 : decode cX9_draw 14 = .ok (.iload_n 1, 1) := by decide +kernel
theorem dX9_draw_15 : decode cX9_draw 15 = .ok (.ifCond .le 15, 3) := by decide +kernel
theorem dX9_draw_18 : decode cX9_draw 18 = .ok (.aload_n 0, 1) := by decide +kernel
theorem dX9_draw_19 : decode cX9_draw 19 = .ok (.getfield 15, 3) := by decide +kernel
theorem dX9_draw_22 : decode cX9_draw 22 = .ok (.bipush 8, 2) := by decide +kernel
theorem dX9_draw_24 : decode cX9_draw 24 = .ok (.iushr, 1) := by decide +kernel
theorem dX9_draw_25 : decode cX9_draw 25 = .ok (.iload_n 1, 1) := by decide +kernel
theorem dX9_draw_26 : decode cX9_draw 26 = .ok (.irem, 1) := by decide +kernel
theorem dX9_draw_27 : decode cX9_draw 27 = .ok (.goto 4, 3) := by decide +kernel
theorem dX9_draw_30 : decode cX9_draw 30 = .ok (.iconst 0, 1) := by decide +kernel
theorem dX9_draw_31 : decode cX9_draw 31 = .ok (.ireturn, 1) := by decide +kernel
theorem dX9_favourite_0 : decode cX9_favourite 0 = .ok (.iload_n 2, 1) := by decide +kernel
theorem dX9_favourite_1 : decode cX9_favourite 1 = .ok (.iconst 4, 1) := by decide +kernel
theorem dX9_favourite_2 : decode cX9_favourite 2 = .ok (.imul, 1) := by decide +kernel
theorem dX9_favourite_3 : decode cX9_favourite 3 = .ok (.istore_n 3, 1) := by decide +kernel
theorem dX9_favourite_4 : decode cX9_favourite 4 = .ok (.iconst 0, 1) := by decide +kernel
theorem dX9_favourite_5 : decode cX9_favourite 5 = .ok (.istore 4, 2) := by decide +kernel
theorem dX9_favourite_7 : decode cX9_favourite 7 = .ok (.iconst 1, 1) := by decide +kernel
theorem dX9_favourite_8 : decode cX9_favourite 8 = .ok (.istore 5, 2) := by decide +kernel
theorem dX9_favourite_10 : decode cX9_favourite 10 = .ok (.iload 5, 2) := by decide +kernel
theorem dX9_favourite_12 : decode cX9_favourite 12 = .ok (.aload_n 0, 1) := by decide +kernel
theorem dX9_favourite_13 : decode cX9_favourite 13 = .ok (.getfield 9, 3) := by decide +kernel
theorem dX9_favourite_16 : decode cX9_favourite 16 = .ok (.if_icmp .ge 28, 3) := by decide +kernel
theorem dX9_favourite_19 : decode cX9_favourite 19 = .ok (.aload_n 1, 1) := by decide +kernel
theorem dX9_favourite_20 : decode cX9_favourite 20 = .ok (.iload_n 3, 1) := by decide +kernel
theorem dX9_favourite_21 : decode cX9_favourite 21 = .ok (.iload 5, 2) := by decide +kernel
theorem dX9_favourite_23 : decode cX9_favourite 23 = .ok (.iadd, 1) := by decide +kernel
theorem dX9_favourite_24 : decode cX9_favourite 24 = .ok (.iaload, 1) := by decide +kernel
theorem dX9_favourite_25 : decode cX9_favourite 25 = .ok (.aload_n 1, 1) := by decide +kernel
theorem dX9_favourite_26 : decode cX9_favourite 26 = .ok (.iload_n 3, 1) := by decide +kernel
theorem dX9_favourite_27 : decode cX9_favourite 27 = .ok (.iload 4, 2) := by decide +kernel
theorem dX9_favourite_29 : decode cX9_favourite 29 = .ok (.iadd, 1) := by decide +kernel
theorem dX9_favourite_30 : decode cX9_favourite 30 = .ok (.iaload, 1) := by decide +kernel
theorem dX9_favourite_31 : decode cX9_favourite 31 = .ok (.if_icmp .le 7, 3) := by decide +kernel
theorem dX9_favourite_34 : decode cX9_favourite 34 = .ok (.iload 5, 2) := by decide +kernel
theorem dX9_favourite_36 : decode cX9_favourite 36 = .ok (.istore 4, 2) := by decide +kernel
theorem dX9_favourite_38 : decode cX9_favourite 38 = .ok (.iinc 5 1, 3) := by decide +kernel
theorem dX9_favourite_41 : decode cX9_favourite 41 = .ok (.goto (-31), 3) := by decide +kernel
theorem dX9_favourite_44 : decode cX9_favourite 44 = .ok (.iload 4, 2) := by decide +kernel
theorem dX9_favourite_46 : decode cX9_favourite 46 = .ok (.ireturn, 1) := by decide +kernel
theorem dX10_init_0 : decode cX10_init 0 = .ok (.aload_n 0, 1) := by decide +kernel
theorem dX10_init_1 : decode cX10_init 1 = .ok (.invokespecial 3, 3) := by decide +kernel
theorem dX10_init_4 : decode cX10_init 4 = .ok (.aload_n 0, 1) := by decide +kernel
theorem dX10_init_5 : decode cX10_init 5 = .ok (.bipush 7, 2) := by decide +kernel
theorem dX10_init_7 : decode cX10_init 7 = .ok (.newarray .int, 2) := by decide +kernel
theorem dX10_init_9 : decode cX10_init 9 = .ok (.putfield 9, 3) := by decide +kernel
theorem dX10_init_12 : decode cX10_init 12 = .ok (.aload_n 0, 1) := by decide +kernel
theorem dX10_init_13 : decode cX10_init 13 = .ok (.bipush 28, 2) := by decide +kernel
theorem dX10_init_15 : decode cX10_init 15 = .ok (.newarray .int, 2) := by decide +kernel
theorem dX10_init_17 : decode cX10_init 17 = .ok (.putfield 15, 3) := by decide +kernel
theorem dX10_init_20 : decode cX10_init 20 = .ok (.aload_n 0, 1) := by decide +kernel
theorem dX10_init_21 : decode cX10_init 21 = .ok (.bipush 28, 2) := by decide +kernel
theorem dX10_init_23 : decode cX10_init 23 = .ok (.newarray .int, 2) := by decide +kernel
theorem dX10_init_25 : decode cX10_init 25 = .ok (.putfield 18, 3) := by decide +kernel
theorem dX10_init_28 : decode cX10_init 28 = .ok (.aload_n 0, 1) := by decide +kernel
theorem dX10_init_29 : decode cX10_init 29 = .ok (.aload_n 1, 1) := by decide +kernel
theorem dX10_init_30 : decode cX10_init 30 = .ok (.putfield 21, 3) := by decide +kernel
theorem dX10_init_33 : decode cX10_init 33 = .ok (.aload_n 0, 1) := by decide +kernel
theorem dX10_init_34 : decode cX10_init 34 = .ok (.aload_n 2, 1) := by decide +kernel
theorem dX10_init_35 : decode cX10_init 35 = .ok (.putfield 25, 3) := by decide +kernel
theorem dX10_init_38 : decode cX10_init 38 = .ok (.return_, 1) := by decide +kernel
theorem dX10_tradesTillRest_0 : decode cX10_tradesTillRest 0 = .ok (.aload_n 0, 1) := by decide +kernel
theorem dX10_tradesTillRest_1 : decode cX10_tradesTillRest 1 = .ok (.getfield 25, 3) := by decide +kernel
theorem dX10_tradesTillRest_4 : decode cX10_tradesTillRest 4 = .ok (.invokevirtual 29, 3) := by decide +kernel
theorem dX10_tradesTillRest_7 : decode cX10_tradesTillRest 7 = .ok (.aload_n 0, 1) := by decide +kernel
theorem dX10_tradesTillRest_8 : decode cX10_tradesTillRest 8 = .ok (.getfield 21, 3) := by decide +kernel
theorem dX10_tradesTillRest_11 : decode cX10_tradesTillRest 11 = .ok (.getfield 34, 3) := by decide +kernel
theorem dX10_tradesTillRest_14 : decode cX10_tradesTillRest 14 = .ok (.iconst 0, 1) := by decide +kernel
theorem dX10_tradesTillRest_15 : decode cX10_tradesTillRest 15 = .ok (.aload_n 0, 1) := by decide +kernel
theorem dX10_tradesTillRest_16 : decode cX10_tradesTillRest 16 = .ok (.getfield 9, 3) := by decide +kernel
theorem dX10_tradesTillRest_19 : decode cX10_tradesTillRest 19 = .ok (.iconst 0, 1) := by decide +kernel
theorem dX10_tradesTillRest_20 : decode cX10_tradesTillRest 20 = .ok (.aload_n 0, 1) := by decide +kernel
theorem dX10_tradesTillRest_21 : decode cX10_tradesTillRest 21 = .ok (.getfield 9, 3) := by decide +kernel
theorem dX10_tradesTillRest_24 : decode cX10_tradesTillRest 24 = .ok (.arraylength, 1) := by decide +kernel
theorem dX10_tradesTillRest_25 : decode cX10_tradesTillRest 25 = .ok (.invokestatic 39, 3) := by decide +kernel
theorem dX10_tradesTillRest_28 : decode cX10_tradesTillRest 28 = .ok (.iconst 0, 1) := by decide +kernel
theorem dX10_tradesTillRest_29 : decode cX10_tradesTillRest 29 = .ok (.istore_n 1, 1) := by decide +kernel
theorem dX10_tradesTillRest_30 : decode cX10_tradesTillRest 30 = .ok (.iconst 0, 1) := by decide +kernel
theorem dX10_tradesTillRest_31 : decode cX10_tradesTillRest 31 = .ok (.istore_n 2, 1) := by decide +kernel
theorem dX10_tradesTillRest_32 : decode cX10_tradesTillRest 32 = .ok (.iload_n 2, 1) := by decide +kernel
theorem dX10_tradesTillRest_33 : decode cX10_tradesTillRest 33 = .ok (.bipush 30, 2) := by decide +kernel
theorem dX10_tradesTillRest_35 : decode cX10_tradesTillRest 35 = .ok (.if_icmp .ge 28, 3) := by decide +kernel
theorem dX10_tradesTillRest_38 : decode cX10_tradesTillRest 38 = .ok (.aload_n 0, 1) := by decide +kernel
theorem dX10_tradesTillRest_39 : decode cX10_tradesTillRest 39 = .ok (.aload_n 0, 1) := by decide +kernel
theorem dX10_tradesTillRest_40 : decode cX10_tradesTillRest 40 = .ok (.getfield 9, 3) := by decide +kernel
theorem dX10_tradesTillRest_43 : decode cX10_tradesTillRest 43 = .ok (.invokevirtual 45, 3) := by decide +kernel
theorem dX10_tradesTillRest_46 : decode cX10_tradesTillRest 46 = .ok (.istore_n 3, 1) := by decide +kernel
theorem dX10_tradesTillRest_47 : decode cX10_tradesTillRest 47 = .ok (.iload_n 3, 1) := by decide +kernel
theorem dX10_tradesTillRest_48 : decode cX10_tradesTillRest 48 = .ok (.ifCond .ne 5, 3) := by decide +kernel
theorem dX10_tradesTillRest_51 : decode cX10_tradesTillRest 51 = .ok (.iload_n 1, 1) := by decide +kernel
theorem dX10_tradesTillRest_52 : decode cX10_tradesTillRest 52 = .ok (.ireturn, 1) := by decide +kernel
theorem dX10_tradesTillRest_53 : decode cX10_tradesTillRest 53 = .ok (.iload_n 1, 1) := by decide +kernel
theorem dX10_tradesTillRest_54 : decode cX10_tradesTillRest 54 = .ok (.iload_n 3, 1) := by decide +kernel
theorem dX10_tradesTillRest_55 : decode cX10_tradesTillRest 55 = .ok (.iadd, 1) := by decide +kernel
theorem dX10_tradesTillRest_56 : decode cX10_tradesTillRest 56 = .ok (.istore_n 1, 1) := by decide +kernel
theorem dX10_tradesTillRest_57 : decode cX10_tradesTillRest 57 = .ok (.iinc 2 1, 3) := by decide +kernel
theorem dX10_tradesTillRest_60 : decode cX10_tradesTillRest 60 = .ok (.goto (-28), 3) := by decide +kernel
theorem dX10_tradesTillRest_63 : decode cX10_tradesTillRest 63 = .ok (.iconst (-1), 1) := by decide +kernel
theorem dX10_tradesTillRest_64 : decode cX10_tradesTillRest 64 = .ok (.ireturn, 1) := by decide +kernel
theorem dX10_round_0 : decode cX10_round 0 = .ok (.iconst 0, 1) := by decide +kernel
theorem dX10_round_1 : decode cX10_round 1 = .ok (.istore_n 2, 1) := by decide +kernel
theorem dX10_round_2 : decode cX10_round 2 = .ok (.iconst 0, 1) := by decide +kernel
theorem dX10_round_3 : decode cX10_round 3 = .ok (.istore_n 3, 1) := by decide +kernel
theorem dX10_round_4 : decode cX10_round 4 = .ok (.iload_n 3, 1) := by decide +kernel
theorem dX10_round_5 : decode cX10_round 5 = .ok (.aload_n 0, 1) := by decide +kernel
theorem dX10_round_6 : decode cX10_round 6 = .ok (.getfield 21, 3) := by decide +kernel
theorem dX10_round_9 : decode cX10_round 9 = .ok (.getfield 49, 3) := by decide +kernel
theorem dX10_round_12 : decode cX10_round 12 = .ok (.if_icmp .ge 46, 3) := by decide +kernel
theorem dX10_round_15 : decode cX10_round 15 = .ok (.iload_n 3, 1) := by decide +kernel
theorem dX10_round_16 : decode cX10_round 16 = .ok (.iconst 1, 1) := by decide +kernel
theorem dX10_round_17 : decode cX10_round 17 = .ok (.iadd, 1) := by decide +kernel
theorem dX10_round_18 : decode cX10_round 18 = .ok (.istore 4, 2) := by decide +kernel
theorem dX10_round_20 : decode cX10_round 20 = .ok (.iload 4, 2) := by decide +kernel
theorem dX10_round_22 : decode cX10_round 22 = .ok (.aload_n 0, 1) := by decide +kernel
theorem dX10_round_23 : decode cX10_round 23 = .ok (.getfield 21, 3) := by decide +kernel
theorem dX10_round_26 : decode cX10_round 26 = .ok (.getfield 49, 3) := by decide +kernel
theorem dX10_round_29 : decode cX10_round 29 = .ok (.if_icmp .ge 23, 3) := by decide +kernel
theorem dX10_round_32 : decode cX10_round 32 = .ok (.aload_n 0, 1) := by decide +kernel
theorem dX10_round_33 : decode cX10_round 33 = .ok (.iload_n 3, 1) := by decide +kernel
theorem dX10_round_34 : decode cX10_round 34 = .ok (.iload 4, 2) := by decide +kernel
theorem dX10_round_36 : decode cX10_round 36 = .ok (.aload_n 1, 1) := by decide +kernel
theorem dX10_round_37 : decode cX10_round 37 = .ok (.invokevirtual 53, 3) := by decide +kernel
theorem dX10_round_40 : decode cX10_round 40 = .ok (.ifCond .eq 6, 3) := by decide +kernel
theorem dX10_round_43 : decode cX10_round 43 = .ok (.iinc 2 1, 3) := by decide +kernel
theorem dX10_round_46 : decode cX10_round 46 = .ok (.iinc 4 1, 3) := by decide +kernel
theorem dX10_round_49 : decode cX10_round 49 = .ok (.goto (-29), 3) := by decide +kernel
theorem dX10_round_52 : decode cX10_round 52 = .ok (.iinc 3 1, 3) := by decide +kernel
theorem dX10_round_55 : decode cX10_round 55 = .ok (.goto (-51), 3) := by decide +kernel
theorem dX10_round_58 : decode cX10_round 58 = .ok (.iload_n 2, 1) := by decide +kernel
theorem dX10_round_59 : decode cX10_round 59 = .ok (.ireturn, 1) := by decide +kernel
theorem dX10_hasTraded_0 : decode cX10_hasTraded 0 = .ok (.aload_n 0, 1) := by decide +kernel
theorem dX10_hasTraded_1 : decode cX10_hasTraded 1 = .ok (.iload_n 1, 1) := by decide +kernel
theorem dX10_hasTraded_2 : decode cX10_hasTraded 2 = .ok (.aload_n 3, 1) := by decide +kernel
theorem dX10_hasTraded_3 : decode cX10_hasTraded 3 = .ok (.aload_n 0, 1) := by decide +kernel
theorem dX10_hasTraded_4 : decode cX10_hasTraded 4 = .ok (.getfield 15, 3) := by decide +kernel
theorem dX10_hasTraded_7 : decode cX10_hasTraded 7 = .ok (.invokevirtual 57, 3) := by decide +kernel
theorem dX10_hasTraded_10 : decode cX10_hasTraded 10 = .ok (.aload_n 0, 1) := by decide +kernel
theorem dX10_hasTraded_11 : decode cX10_hasTraded 11 = .ok (.iload_n 2, 1) := by decide +kernel
theorem dX10_hasTraded_12 : decode cX10_hasTraded 12 = .ok (.aload_n 3, 1) := by decide +kernel
theorem dX10_hasTraded_13 : decode cX10_hasTraded 13 = .ok (.aload_n 0, 1) := by decide +kernel
theorem dX10_hasTraded_14 : decode cX10_hasTraded 14 = .ok (.getfield 18, 3) := by decide +kernel
theorem dX10_hasTraded_17 : decode cX10_hasTraded 17 = .ok (.invokevirtual 57, 3) := by decide +kernel
theorem dX10_hasTraded_20 : decode cX10_hasTraded 20 = .ok (.iconst 0, 1) := by decide +kernel
theorem dX10_hasTraded_21 : decode cX10_hasTraded 21 = .ok (.istore 4, 2) := by decide +kernel
theorem dX10_hasTraded_23 : decode cX10_hasTraded 23 = .ok (.iload 4, 2) := by decide +kernel
theorem dX10_hasTraded_25 : decode cX10_hasTraded 25 = .ok (.aload_n 0, 1) := by decide +kernel
theorem dX10_hasTraded_26 : decode cX10_hasTraded 26 = .ok (.getfield 21, 3) := by decide +kernel
theorem dX10_hasTraded_29 : decode cX10_hasTraded 29 = .ok (.getfield 61, 3) := by decide +kernel
theorem dX10_hasTraded_32 : decode cX10_hasTraded 32 = .ok (.if_icmp .ge 49, 3) := by decide +kernel
theorem dX10_hasTraded_35 : decode cX10_hasTraded 35 = .ok (.iload 4, 2) := by decide +kernel
theorem dX10_hasTraded_37 : decode cX10_hasTraded 37 = .ok (.iconst 1, 1) := by decide +kernel
theorem dX10_hasTraded_38 : decode cX10_hasTraded 38 = .ok (.iadd, 1) := by decide +kernel
theorem dX10_hasTraded_39 : decode cX10_hasTraded 39 = .ok (.istore 5, 2) := by decide +kernel
theorem dX10_hasTraded_41 : decode cX10_hasTraded 41 = .ok (.iload 5, 2) := by decide +kernel
theorem dX10_hasTraded_43 : decode cX10_hasTraded 43 = .ok (.aload_n 0, 1) := by decide +kernel
theorem dX10_hasTraded_44 : decode cX10_hasTraded 44 = .ok (.getfield 21, 3) := by decide +kernel
theorem dX10_hasTraded_47 : decode cX10_hasTraded 47 = .ok (.getfield 61, 3) := by decide +kernel
theorem dX10_hasTraded_50 : decode cX10_hasTraded 50 = .ok (.if_icmp .ge 25, 3) := by decide +kernel
theorem dX10_hasTraded_53 : decode cX10_hasTraded 53 = .ok (.aload_n 0, 1) := by decide +kernel
theorem dX10_hasTraded_54 : decode cX10_hasTraded 54 = .ok (.iload_n 1, 1) := by decide +kernel
theorem dX10_hasTraded_55 : decode cX10_hasTraded 55 = .ok (.iload_n 2, 1) := by decide +kernel
theorem dX10_hasTraded_56 : decode cX10_hasTraded 56 = .ok (.iload 4, 2) := by decide +kernel
theorem dX10_hasTraded_58 : decode cX10_hasTraded 58 = .ok (.iload 5, 2) := by decide +kernel
theorem dX10_hasTraded_60 : decode cX10_hasTraded 60 = .ok (.aload_n 3, 1) := by decide +kernel
theorem dX10_hasTraded_61 : decode cX10_hasTraded 61 = .ok (.invokevirtual 64, 3) := by decide +kernel
theorem dX10_hasTraded_64 : decode cX10_hasTraded 64 = .ok (.ifCond .eq 5, 3) := by decide +kernel
theorem dX10_hasTraded_67 : decode cX10_hasTraded 67 = .ok (.iconst 1, 1) := by decide +kernel
theorem dX10_hasTraded_68 : decode cX10_hasTraded 68 = .ok (.ireturn, 1) := by decide +kernel
theorem dX10_hasTraded_69 : decode cX10_hasTraded 69 = .ok (.iinc 5 1, 3) := by decide +kernel
theorem dX10_hasTraded_72 : decode cX10_hasTraded 72 = .ok (.goto (-31), 3) := by decide +kernel
theorem dX10_hasTraded_75 : decode cX10_hasTraded 75 = .ok (.iinc 4 1, 3) := by decide +kernel
theorem dX10_hasTraded_78 : decode cX10_hasTraded 78 = .ok (.goto (-55), 3) := by decide +kernel
theorem dX10_hasTraded_81 : decode cX10_hasTraded 81 = .ok (.iconst 0, 1) := by decide +kernel
theorem dX10_hasTraded_82 : decode cX10_hasTraded 82 = .ok (.ireturn, 1) := by decide +kernel
theorem dX10_weighParts_0 : decode cX10_weighParts 0 = .ok (.iconst 0, 1) := by decide +kernel
theorem dX10_weighParts_1 : decode cX10_weighParts 1 = .ok (.istore 4, 2) := by decide +kernel
theorem dX10_weighParts_3 : decode cX10_weighParts 3 = .ok (.iload 4, 2) := by decide +kernel
theorem dX10_weighParts_5 : decode cX10_weighParts 5 = .ok (.aload_n 0, 1) := by decide +kernel
theorem dX10_weighParts_6 : decode cX10_weighParts 6 = .ok (.getfield 21, 3) := by decide +kernel
theorem dX10_weighParts_9 : decode cX10_weighParts 9 = .ok (.getfield 61, 3) := by decide +kernel
theorem dX10_weighParts_12 : decode cX10_weighParts 12 = .ok (.if_icmp .ge 127, 3) := by decide +kernel
theorem dX10_weighParts_15 : decode cX10_weighParts 15 = .ok (.iconst 0, 1) := by decide +kernel
theorem dX10_weighParts_16 : decode cX10_weighParts 16 = .ok (.istore 5, 2) := by decide +kernel
theorem dX10_weighParts_18 : decode cX10_weighParts 18 = .ok (.iload 5, 2) := by decide +kernel
theorem dX10_weighParts_20 : decode cX10_weighParts 20 = .ok (.aload_n 0, 1) := by decide +kernel
theorem dX10_weighParts_21 : decode cX10_weighParts 21 = .ok (.getfield 21, 3) := by decide +kernel
theorem dX10_weighParts_24 : decode cX10_weighParts 24 = .ok (.getfield 68, 3) := by decide +kernel
theorem dX10_weighParts_27 : decode cX10_weighParts 27 = .ok (.if_icmp .ge 43, 3) := by decide +kernel
theorem dX10_weighParts_30 : decode cX10_weighParts 30 = .ok (.aload_n 3, 1) := by decide +kernel
theorem dX10_weighParts_31 : decode cX10_weighParts 31 = .ok (.iload 4, 2) := by decide +kernel
theorem dX10_weighParts_33 : decode cX10_weighParts 33 = .ok (.iconst 4, 1) := by decide +kernel
theorem dX10_weighParts_34 : decode cX10_weighParts 34 = .ok (.imul, 1) := by decide +kernel
theorem dX10_weighParts_35 : decode cX10_weighParts 35 = .ok (.iload 5, 2) := by decide +kernel
theorem dX10_weighParts_37 : decode cX10_weighParts 37 = .ok (.iadd, 1) := by decide +kernel
theorem dX10_weighParts_38 : decode cX10_weighParts 38 = .ok (.aload_n 0, 1) := by decide +kernel
theorem dX10_weighParts_39 : decode cX10_weighParts 39 = .ok (.getfield 25, 3) := by decide +kernel
theorem dX10_weighParts_42 : decode cX10_weighParts 42 = .ok (.iload_n 1, 1) := by decide +kernel
theorem dX10_weighParts_43 : decode cX10_weighParts 43 = .ok (.iload 4, 2) := by decide +kernel
theorem dX10_weighParts_45 : decode cX10_weighParts 45 = .ok (.invokevirtual 71, 3) := by decide +kernel
theorem dX10_weighParts_48 : decode cX10_weighParts 48 = .ok (.aload_n 0, 1) := by decide +kernel
theorem dX10_weighParts_49 : decode cX10_weighParts 49 = .ok (.getfield 21, 3) := by decide +kernel
theorem dX10_weighParts_52 : decode cX10_weighParts 52 = .ok (.getfield 75, 3) := by decide +kernel
theorem dX10_weighParts_55 : decode cX10_weighParts 55 = .ok (.iload_n 1, 1) := by decide +kernel
theorem dX10_weighParts_56 : decode cX10_weighParts 56 = .ok (.iconst 4, 1) := by decide +kernel
theorem dX10_weighParts_57 : decode cX10_weighParts 57 = .ok (.imul, 1) := by decide +kernel
theorem dX10_weighParts_58 : decode cX10_weighParts 58 = .ok (.iload 5, 2) := by decide +kernel
theorem dX10_weighParts_60 : decode cX10_weighParts 60 = .ok (.iadd, 1) := by decide +kernel
theorem dX10_weighParts_61 : decode cX10_weighParts 61 = .ok (.iaload, 1) := by decide +kernel
theorem dX10_weighParts_62 : decode cX10_weighParts 62 = .ok (.imul, 1) := by decide +kernel
theorem dX10_weighParts_63 : decode cX10_weighParts 63 = .ok (.iastore, 1) := by decide +kernel
theorem dX10_weighParts_64 : decode cX10_weighParts 64 = .ok (.iinc 5 1, 3) := by decide +kernel
theorem dX10_weighParts_67 : decode cX10_weighParts 67 = .ok (.goto (-49), 3) := by decide +kernel
theorem dX10_weighParts_70 : decode cX10_weighParts 70 = .ok (.iconst 0, 1) := by decide +kernel
theorem dX10_weighParts_71 : decode cX10_weighParts 71 = .ok (.istore 5, 2) := by decide +kernel
theorem dX10_weighParts_73 : decode cX10_weighParts 73 = .ok (.iload 5, 2) := by decide +kernel
theorem dX10_weighParts_75 : decode cX10_weighParts 75 = .ok (.aload_n 0, 1) := by decide +kernel
theorem dX10_weighParts_76 : decode cX10_weighParts 76 = .ok (.getfield 21, 3) := by decide +kernel
theorem dX10_weighParts_79 : decode cX10_weighParts 79 = .ok (.getfield 61, 3) := by decide +kernel
theorem dX10_weighParts_82 : decode cX10_weighParts 82 = .ok (.if_icmp .ge 51, 3) := by decide +kernel
theorem dX10_weighParts_85 : decode cX10_weighParts 85 = .ok (.iload 5, 2) := by decide +kernel
theorem dX10_weighParts_87 : decode cX10_weighParts 87 = .ok (.iload 4, 2) := by decide +kernel
theorem dX10_weighParts_89 : decode cX10_weighParts 89 = .ok (.if_icmp .eq 38, 3) := by decide +kernel
theorem dX10_weighParts_92 : decode cX10_weighParts 92 = .ok (.aload_n 3, 1) := by decide +kernel
theorem dX10_weighParts_93 : decode cX10_weighParts 93 = .ok (.iload 4, 2) := by decide +kernel
theorem dX10_weighParts_95 : decode cX10_weighParts 95 = .ok (.iconst 4, 1) := by decide +kernel
theorem dX10_weighParts_96 : decode cX10_weighParts 96 = .ok (.imul, 1) := by decide +kernel
theorem dX10_weighParts_97 : decode cX10_weighParts 97 = .ok (.aload_n 2, 1) := by decide +kernel
theorem dX10_weighParts_98 : decode cX10_weighParts 98 = .ok (.iload 5, 2) := by decide +kernel
theorem dX10_weighParts_100 : decode cX10_weighParts 100 = .ok (.iaload, 1) := by decide +kernel
theorem dX10_weighParts_101 : decode cX10_weighParts 101 = .ok (.iadd, 1) := by decide +kernel
theorem dX10_weighParts_102 : decode cX10_weighParts 102 = .ok (.dup2, 1) := by decide +kernel
theorem dX10_weighParts_103 : decode cX10_weighParts 103 = .ok (.iaload, 1) := by decide +kernel
theorem dX10_weighParts_104 : decode cX10_weighParts 104 = .ok (.aload_n 0, 1) := by decide +kernel
theorem dX10_weighParts_105 : decode cX10_weighParts 105 = .ok (.getfield 25, 3) := by decide +kernel
theorem dX10_weighParts_108 : decode cX10_weighParts 108 = .ok (.iload_n 1, 1) := by decide +kernel
theorem dX10_weighParts_109 : decode cX10_weighParts 109 = .ok (.aload_n 0, 1) := by decide +kernel
theorem dX10_weighParts_110 : decode cX10_weighParts 110 = .ok (.getfield 21, 3) := by decide +kernel
theorem dX10_weighParts_113 : decode cX10_weighParts 113 = .ok (.getfield 78, 3) := by decide +kernel
theorem dX10_weighParts_116 : decode cX10_weighParts 116 = .ok (.iload_n 1, 1) := by decide +kernel
theorem dX10_weighParts_117 : decode cX10_weighParts 117 = .ok (.iaload, 1) := by decide +kernel
theorem dX10_weighParts_118 : decode cX10_weighParts 118 = .ok (.iload 4, 2) := by decide +kernel
theorem dX10_weighParts_120 : decode cX10_weighParts 120 = .ok (.iload 5, 2) := by decide +kernel
theorem dX10_weighParts_122 : decode cX10_weighParts 122 = .ok (.invokevirtual 81, 3) := by decide +kernel
theorem dX10_weighParts_125 : decode cX10_weighParts 125 = .ok (.iadd, 1) := by decide +kernel
theorem dX10_weighParts_126 : decode cX10_weighParts 126 = .ok (.iastore, 1) := by decide +kernel
theorem dX10_weighParts_127 : decode cX10_weighParts 127 = .ok (.iinc 5 1, 3) := by decide +kernel
theorem dX10_weighParts_130 : decode cX10_weighParts 130 = .ok (.goto (-57), 3) := by decide +kernel
theorem dX10_weighParts_133 : decode cX10_weighParts 133 = .ok (.iinc 4 1, 3) := by decide +kernel
theorem dX10_weighParts_136 : decode cX10_weighParts 136 = .ok (.goto (-133), 3) := by decide +kernel
theorem dX10_weighParts_139 : decode cX10_weighParts 139 = .ok (.return_, 1) := by decide +kernel
theorem dX10_hasRepainted_0 : decode cX10_hasRepainted 0 = .ok (.aload_n 0, 1) := by decide +kernel
theorem dX10_hasRepainted_1 : decode cX10_hasRepainted 1 = .ok (.getfield 25, 3) := by decide +kernel
theorem dX10_hasRepainted_4 : decode cX10_hasRepainted 4 = .ok (.iload_n 1, 1) := by decide +kernel
theorem dX10_hasRepainted_5 : decode cX10_hasRepainted 5 = .ok (.aload_n 0, 1) := by decide +kernel
theorem dX10_hasRepainted_6 : decode cX10_hasRepainted 6 = .ok (.getfield 21, 3) := by decide +kernel
theorem dX10_hasRepainted_9 : decode cX10_hasRepainted 9 = .ok (.getfield 78, 3) := by decide +kernel
theorem dX10_hasRepainted_12 : decode cX10_hasRepainted 12 = .ok (.iload_n 1, 1) := by decide +kernel
theorem dX10_hasRepainted_13 : decode cX10_hasRepainted 13 = .ok (.iaload, 1) := by decide +kernel
theorem dX10_hasRepainted_14 : decode cX10_hasRepainted 14 = .ok (.iload_n 3, 1) := by decide +kernel
theorem dX10_hasRepainted_15 : decode cX10_hasRepainted 15 = .ok (.iload 4, 2) := by decide +kernel
theorem dX10_hasRepainted_17 : decode cX10_hasRepainted 17 = .ok (.invokevirtual 81, 3) := by decide +kernel
theorem dX10_hasRepainted_20 : decode cX10_hasRepainted 20 = .ok (.istore 6, 2) := by decide +kernel
theorem dX10_hasRepainted_22 : decode cX10_hasRepainted 22 = .ok (.aload_n 0, 1) := by decide +kernel
theorem dX10_hasRepainted_23 : decode cX10_hasRepainted 23 = .ok (.getfield 25, 3) := by decide +kernel
theorem dX10_hasRepainted_26 : decode cX10_hasRepainted 26 = .ok (.iload_n 2, 1) := by decide +kernel
theorem dX10_hasRepainted_27 : decode cX10_hasRepainted 27 = .ok (.aload_n 0, 1) := by decide +kernel
theorem dX10_hasRepainted_28 : decode cX10_hasRepainted 28 = .ok (.getfield 21, 3) := by decide +kernel
theorem dX10_hasRepainted_31 : decode cX10_hasRepainted 31 = .ok (.getfield 78, 3) := by decide +kernel
theorem dX10_hasRepainted_34 : decode cX10_hasRepainted 34 = .ok (.iload_n 2, 1) := by decide +kernel
theorem dX10_hasRepainted_35 : decode cX10_hasRepainted 35 = .ok (.iaload, 1) := by decide +kernel
theorem dX10_hasRepainted_36 : decode cX10_hasRepainted 36 = .ok (.iload_n 3, 1) := by decide +kernel
theorem dX10_hasRepainted_37 : decode cX10_hasRepainted 37 = .ok (.iload 4, 2) := by decide +kernel
theorem dX10_hasRepainted_39 : decode cX10_hasRepainted 39 = .ok (.invokevirtual 81, 3) := by decide +kernel
theorem dX10_hasRepainted_42 : decode cX10_hasRepainted 42 = .ok (.istore 7, 2) := by decide +kernel
theorem dX10_hasRepainted_44 : decode cX10_hasRepainted 44 = .ok (.iconst 0, 1) := by decide +kernel
theorem dX10_hasRepainted_45 : decode cX10_hasRepainted 45 = .ok (.istore 8, 2) := by decide +kernel
theorem dX10_hasRepainted_47 : decode cX10_hasRepainted 47 = .ok (.iload 8, 2) := by decide +kernel
theorem dX10_hasRepainted_49 : decode cX10_hasRepainted 49 = .ok (.aload_n 0, 1) := by decide +kernel
theorem dX10_hasRepainted_50 : decode cX10_hasRepainted 50 = .ok (.getfield 21, 3) := by decide +kernel
theorem dX10_hasRepainted_53 : decode cX10_hasRepainted 53 = .ok (.getfield 68, 3) := by decide +kernel
theorem dX10_hasRepainted_56 : decode cX10_hasRepainted 56 = .ok (.if_icmp .ge 113, 3) := by decide +kernel
theorem dX10_hasRepainted_59 : decode cX10_hasRepainted 59 = .ok (.iconst 0, 1) := by decide +kernel
theorem dX10_hasRepainted_60 : decode cX10_hasRepainted 60 = .ok (.istore 9, 2) := by decide +kernel
theorem dX10_hasRepainted_62 : decode cX10_hasRepainted 62 = .ok (.iload 9, 2) := by decide +kernel
theorem dX10_hasRepainted_64 : decode cX10_hasRepainted 64 = .ok (.aload_n 0, 1) := by decide +kernel
theorem dX10_hasRepainted_65 : decode cX10_hasRepainted 65 = .ok (.getfield 21, 3) := by decide +kernel
theorem dX10_hasRepainted_68 : decode cX10_hasRepainted 68 = .ok (.getfield 68, 3) := by decide +kernel
theorem dX10_hasRepainted_71 : decode cX10_hasRepainted 71 = .ok (.if_icmp .ge 92, 3) := by decide +kernel
theorem dX10_hasRepainted_74 : decode cX10_hasRepainted 74 = .ok (.aload 5, 2) := by decide +kernel
theorem dX10_hasRepainted_76 : decode cX10_hasRepainted 76 = .ok (.iload_n 3, 1) := by decide +kernel
theorem dX10_hasRepainted_77 : decode cX10_hasRepainted 77 = .ok (.iaload, 1) := by decide +kernel
theorem dX10_hasRepainted_78 : decode cX10_hasRepainted 78 = .ok (.aload 5, 2) := by decide +kernel
theorem dX10_hasRepainted_80 : decode cX10_hasRepainted 80 = .ok (.iload 4, 2) := by decide +kernel
theorem dX10_hasRepainted_82 : decode cX10_hasRepainted 82 = .ok (.iaload, 1) := by decide +kernel
theorem dX10_hasRepainted_83 : decode cX10_hasRepainted 83 = .ok (.iload 8, 2) := by decide +kernel
theorem dX10_hasRepainted_85 : decode cX10_hasRepainted 85 = .ok (.iload 9, 2) := by decide +kernel
theorem dX10_hasRepainted_87 : decode cX10_hasRepainted 87 = .ok (.invokestatic 85, 3) := by decide +kernel
theorem dX10_hasRepainted_90 : decode cX10_hasRepainted 90 = .ok (.istore 10, 2) := by decide +kernel
theorem dX10_hasRepainted_92 : decode cX10_hasRepainted 92 = .ok (.aload_n 0, 1) := by decide +kernel
theorem dX10_hasRepainted_93 : decode cX10_hasRepainted 93 = .ok (.getfield 15, 3) := by decide +kernel
theorem dX10_hasRepainted_96 : decode cX10_hasRepainted 96 = .ok (.iload_n 3, 1) := by decide +kernel
theorem dX10_hasRepainted_97 : decode cX10_hasRepainted 97 = .ok (.iload 4, 2) := by decide +kernel
theorem dX10_hasRepainted_99 : decode cX10_hasRepainted 99 = .ok (.iload 8, 2) := by decide +kernel
theorem dX10_hasRepainted_101 : decode cX10_hasRepainted 101 = .ok (.iload 9, 2) := by decide +kernel
theorem dX10_hasRepainted_103 : decode cX10_hasRepainted 103 = .ok (.aload 5, 2) := by decide +kernel
theorem dX10_hasRepainted_105 : decode cX10_hasRepainted 105 = .ok (.invokestatic 88, 3) := by decide +kernel
theorem dX10_hasRepainted_108 : decode cX10_hasRepainted 108 = .ok (.iload 10, 2) := by decide +kernel
theorem dX10_hasRepainted_110 : decode cX10_hasRepainted 110 = .ok (.iload 6, 2) := by decide +kernel
theorem dX10_hasRepainted_112 : decode cX10_hasRepainted 112 = .ok (.imul, 1) := by decide +kernel
theorem dX10_hasRepainted_113 : decode cX10_hasRepainted 113 = .ok (.iadd, 1) := by decide +kernel
theorem dX10_hasRepainted_114 : decode cX10_hasRepainted 114 = .ok (.ifCond .le 43, 3) := by decide +kernel
theorem dX10_hasRepainted_117 : decode cX10_hasRepainted 117 = .ok (.aload_n 0, 1) := by decide +kernel
theorem dX10_hasRepainted_118 : decode cX10_hasRepainted 118 = .ok (.getfield 18, 3) := by decide +kernel
theorem dX10_hasRepainted_121 : decode cX10_hasRepainted 121 = .ok (.iload_n 3, 1) := by decide +kernel
theorem dX10_hasRepainted_122 : decode cX10_hasRepainted 122 = .ok (.iload 4, 2) := by decide +kernel
theorem dX10_hasRepainted_124 : decode cX10_hasRepainted 124 = .ok (.iload 8, 2) := by decide +kernel
theorem dX10_hasRepainted_126 : decode cX10_hasRepainted 126 = .ok (.iload 9, 2) := by decide +kernel
theorem dX10_hasRepainted_128 : decode cX10_hasRepainted 128 = .ok (.aload 5, 2) := by decide +kernel
theorem dX10_hasRepainted_130 : decode cX10_hasRepainted 130 = .ok (.invokestatic 88, 3) := by decide +kernel
theorem dX10_hasRepainted_133 : decode cX10_hasRepainted 133 = .ok (.iload 10, 2) := by decide +kernel
theorem dX10_hasRepainted_135 : decode cX10_hasRepainted 135 = .ok (.iload 7, 2) := by decide +kernel
theorem dX10_hasRepainted_137 : decode cX10_hasRepainted 137 = .ok (.imul, 1) := by decide +kernel
theorem dX10_hasRepainted_138 : decode cX10_hasRepainted 138 = .ok (.iadd, 1) := by decide +kernel
theorem dX10_hasRepainted_139 : decode cX10_hasRepainted 139 = .ok (.ifCond .le 18, 3) := by decide +kernel
theorem dX10_hasRepainted_142 : decode cX10_hasRepainted 142 = .ok (.aload 5, 2) := by decide +kernel
theorem dX10_hasRepainted_144 : decode cX10_hasRepainted 144 = .ok (.iload_n 3, 1) := by decide +kernel
theorem dX10_hasRepainted_145 : decode cX10_hasRepainted 145 = .ok (.iload 8, 2) := by decide +kernel
theorem dX10_hasRepainted_147 : decode cX10_hasRepainted 147 = .ok (.iastore, 1) := by decide +kernel
theorem dX10_hasRepainted_148 : decode cX10_hasRepainted 148 = .ok (.aload 5, 2) := by decide +kernel
theorem dX10_hasRepainted_150 : decode cX10_hasRepainted 150 = .ok (.iload 4, 2) := by decide +kernel
theorem dX10_hasRepainted_152 : decode cX10_hasRepainted 152 = .ok (.iload 9, 2) := by decide +kernel
theorem dX10_hasRepainted_154 : decode cX10_hasRepainted 154 = .ok (.iastore, 1) := by decide +kernel
theorem dX10_hasRepainted_155 : decode cX10_hasRepainted 155 = .ok (.iconst 1, 1) := by decide +kernel
theorem dX10_hasRepainted_156 : decode cX10_hasRepainted 156 = .ok (.ireturn, 1) := by decide +kernel
theorem dX10_hasRepainted_157 : decode cX10_hasRepainted 157 = .ok (.iinc 9 1, 3) := by decide +kernel
theorem dX10_hasRepainted_160 : decode cX10_hasRepainted 160 = .ok (.goto (-98), 3) := by decide +kernel
theorem dX10_hasRepainted_163 : decode cX10_hasRepainted 163 = .ok (.iinc 8 1, 3) := by decide +kernel
theorem dX10_hasRepainted_166 : decode cX10_hasRepainted 166 = .ok (.goto (-119), 3) := by decide +kernel
theorem dX10_hasRepainted_169 : decode cX10_hasRepainted 169 = .ok (.iconst 0, 1) := by decide +kernel
theorem dX10_hasRepainted_170 : decode cX10_hasRepainted 170 = .ok (.ireturn, 1) := by decide +kernel
theorem dX10_change_0 : decode cX10_change 0 = .ok (.aload_n 0, 1) := by decide +kernel
theorem dX10_change_1 : decode cX10_change 1 = .ok (.iload_n 1, 1) := by decide +kernel
theorem dX10_change_2 : decode cX10_change 2 = .ok (.iconst 4, 1) := by decide +kernel
theorem dX10_change_3 : decode cX10_change 3 = .ok (.imul, 1) := by decide +kernel
theorem dX10_change_4 : decode cX10_change 4 = .ok (.iload_n 3, 1) := by decide +kernel
theorem dX10_change_5 : decode cX10_change 5 = .ok (.iadd, 1) := by decide +kernel
theorem dX10_change_6 : decode cX10_change 6 = .ok (.iaload, 1) := by decide +kernel
theorem dX10_change_7 : decode cX10_change 7 = .ok (.aload_n 0, 1) := by decide +kernel
theorem dX10_change_8 : decode cX10_change 8 = .ok (.iload_n 1, 1) := by decide +kernel
theorem dX10_change_9 : decode cX10_change 9 = .ok (.iconst 4, 1) := by decide +kernel
theorem dX10_change_10 : decode cX10_change 10 = .ok (.imul, 1) := by decide +kernel
theorem dX10_change_11 : decode cX10_change 11 = .ok (.aload 5, 2) := by decide +kernel
theorem dX10_change_13 : decode cX10_change 13 = .ok (.iload_n 1, 1) := by decide +kernel
theorem dX10_change_14 : decode cX10_change 14 = .ok (.iaload, 1) := by decide +kernel
theorem dX10_change_15 : decode cX10_change 15 = .ok (.iadd, 1) := by decide +kernel
theorem dX10_change_16 : decode cX10_change 16 = .ok (.iaload, 1) := by decide +kernel
theorem dX10_change_17 : decode cX10_change 17 = .ok (.isub, 1) := by decide +kernel
theorem dX10_change_18 : decode cX10_change 18 = .ok (.istore 6, 2) := by decide +kernel
theorem dX10_change_20 : decode cX10_change 20 = .ok (.aload_n 0, 1) := by decide +kernel
theorem dX10_change_21 : decode cX10_change 21 = .ok (.iload_n 2, 1) := by decide +kernel
theorem dX10_change_22 : decode cX10_change 22 = .ok (.iconst 4, 1) := by decide +kernel
theorem dX10_change_23 : decode cX10_change 23 = .ok (.imul, 1) := by decide +kernel
theorem dX10_change_24 : decode cX10_change 24 = .ok (.iload 4, 2) := by decide +kernel
theorem dX10_change_26 : decode cX10_change 26 = .ok (.iadd, 1) := by decide +kernel
theorem dX10_change_27 : decode cX10_change 27 = .ok (.iaload, 1) := by decide +kernel
theorem dX10_change_28 : decode cX10_change 28 = .ok (.aload_n 0, 1) := by decide +kernel
theorem dX10_change_29 : decode cX10_change 29 = .ok (.iload_n 2, 1) := by decide +kernel
theorem dX10_change_30 : decode cX10_change 30 = .ok (.iconst 4, 1) := by decide +kernel
theorem dX10_change_31 : decode cX10_change 31 = .ok (.imul, 1) := by decide +kernel
theorem dX10_change_32 : decode cX10_change 32 = .ok (.aload 5, 2) := by decide +kernel
theorem dX10_change_34 : decode cX10_change 34 = .ok (.iload_n 2, 1) := by decide +kernel
theorem dX10_change_35 : decode cX10_change 35 = .ok (.iaload, 1) := by decide +kernel
theorem dX10_change_36 : decode cX10_change 36 = .ok (.iadd, 1) := by decide +kernel
theorem dX10_change_37 : decode cX10_change 37 = .ok (.iaload, 1) := by decide +kernel
theorem dX10_change_38 : decode cX10_change 38 = .ok (.isub, 1) := by decide +kernel
theorem dX10_change_39 : decode cX10_change 39 = .ok (.istore 7, 2) := by decide +kernel
theorem dX10_change_41 : decode cX10_change 41 = .ok (.iload 6, 2) := by decide +kernel
theorem dX10_change_43 : decode cX10_change 43 = .ok (.iload 7, 2) := by decide +kernel
theorem dX10_change_45 : decode cX10_change 45 = .ok (.iadd, 1) := by decide +kernel
theorem dX10_change_46 : decode cX10_change 46 = .ok (.ireturn, 1) := by decide +kernel
theorem dX10_pairsGained_0 : decode cX10_pairsGained 0 = .ok (.iload_n 2, 1) := by decide +kernel
theorem dX10_pairsGained_1 : decode cX10_pairsGained 1 = .ok (.iload_n 3, 1) := by decide +kernel
theorem dX10_pairsGained_2 : decode cX10_pairsGained 2 = .ok (.if_icmp .ne 7, 3) := by decide +kernel
theorem dX10_pairsGained_5 : decode cX10_pairsGained 5 = .ok (.iconst 1, 1) := by decide +kernel
theorem dX10_pairsGained_6 : decode cX10_pairsGained 6 = .ok (.goto 4, 3) := by decide +kernel
theorem dX10_pairsGained_9 : decode cX10_pairsGained 9 = .ok (.iconst 0, 1) := by decide +kernel
theorem dX10_pairsGained_10 : decode cX10_pairsGained 10 = .ok (.istore 4, 2) := by decide +kernel
theorem dX10_pairsGained_12 : decode cX10_pairsGained 12 = .ok (.iload 4, 2) := by decide +kernel
theorem dX10_pairsGained_14 : decode cX10_pairsGained 14 = .ok (.iload_n 2, 1) := by decide +kernel
theorem dX10_pairsGained_15 : decode cX10_pairsGained 15 = .ok (.iload_n 1, 1) := by decide +kernel
theorem dX10_pairsGained_16 : decode cX10_pairsGained 16 = .ok (.if_icmp .ne 7, 3) := by decide +kernel
theorem dX10_pairsGained_19 : decode cX10_pairsGained 19 = .ok (.iconst 1, 1) := by decide +kernel
theorem dX10_pairsGained_20 : decode cX10_pairsGained 20 = .ok (.goto 4, 3) := by decide +kernel
theorem dX10_pairsGained_23 : decode cX10_pairsGained 23 = .ok (.iconst 0, 1) := by decide +kernel
theorem dX10_pairsGained_24 : decode cX10_pairsGained 24 = .ok (.isub, 1) := by decide +kernel
theorem dX10_pairsGained_25 : decode cX10_pairsGained 25 = .ok (.istore 4, 2) := by decide +kernel
theorem dX10_pairsGained_27 : decode cX10_pairsGained 27 = .ok (.iload 4, 2) := by decide +kernel
theorem dX10_pairsGained_29 : decode cX10_pairsGained 29 = .ok (.iload_n 0, 1) := by decide +kernel
theorem dX10_pairsGained_30 : decode cX10_pairsGained 30 = .ok (.iload_n 3, 1) := by decide +kernel
theorem dX10_pairsGained_31 : decode cX10_pairsGained 31 = .ok (.if_icmp .ne 7, 3) := by decide +kernel
theorem dX10_pairsGained_34 : decode cX10_pairsGained 34 = .ok (.iconst 1, 1) := by decide +kernel
theorem dX10_pairsGained_35 : decode cX10_pairsGained 35 = .ok (.goto 4, 3) := by decide +kernel
theorem dX10_pairsGained_38 : decode cX10_pairsGained 38 = .ok (.iconst 0, 1) := by decide +kernel
theorem dX10_pairsGained_39 : decode cX10_pairsGained 39 = .ok (.isub, 1) := by decide +kernel
theorem dX10_pairsGained_40 : decode cX10_pairsGained 40 = .ok (.istore 4, 2) := by decide +kernel
theorem dX10_pairsGained_42 : decode cX10_pairsGained 42 = .ok (.iload 4, 2) := by decide +kernel
theorem dX10_pairsGained_44 : decode cX10_pairsGained 44 = .ok (.iload_n 0, 1) := by decide +kernel
theorem dX10_pairsGained_45 : decode cX10_pairsGained 45 = .ok (.iload_n 1, 1) := by decide +kernel
theorem dX10_pairsGained_46 : decode cX10_pairsGained 46 = .ok (.if_icmp .ne 7, 3) := by decide +kernel
theorem dX10_pairsGained_49 : decode cX10_pairsGained 49 = .ok (.iconst 1, 1) := by decide +kernel
theorem dX10_pairsGained_50 : decode cX10_pairsGained 50 = .ok (.goto 4, 3) := by decide +kernel
theorem dX10_pairsGained_53 : decode cX10_pairsGained 53 = .ok (.iconst 0, 1) := by decide +kernel
theorem dX10_pairsGained_54 : decode cX10_pairsGained 54 = .ok (.iadd, 1) := by decide +kernel
theorem dX10_pairsGained_55 : decode cX10_pairsGained 55 = .ok (.istore 4, 2) := by decide +kernel
theorem dX10_pairsGained_57 : decode cX10_pairsGained 57 = .ok (.iload 4, 2) := by decide +kernel
theorem dX10_pairsGained_59 : decode cX10_pairsGained 59 = .ok (.ireturn, 1) := by decide +kernel
theorem dX11_init_0 : decode cX11_init 0 = .ok (.aload_n 0, 1) := by decide +kernel
theorem dX11_init_1 : decode cX11_init 1 = .ok (.invokespecial 3, 3) := by decide +kernel
theorem dX11_init_4 : decode cX11_init 4 = .ok (.aload_n 0, 1) := by decide +kernel
theorem dX11_init_5 : decode cX11_init 5 = .ok (.new 9, 3) := by decide +kernel
theorem dX11_init_8 : decode cX11_init 8 = .ok (.dup, 1) := by decide +kernel
theorem dX11_init_9 : decode cX11_init 9 = .ok (.invokespecial 11, 3) := by decide +kernel
theorem dX11_init_12 : decode cX11_init 12 = .ok (.putfield 12, 3) := by decide +kernel
theorem dX11_init_15 : decode cX11_init 15 = .ok (.aload_n 0, 1) := by decide +kernel
theorem dX11_init_16 : decode cX11_init 16 = .ok (.new 16, 3) := by decide +kernel
theorem dX11_init_19 : decode cX11_init 19 = .ok (.dup, 1) := by decide +kernel
theorem dX11_init_20 : decode cX11_init 20 = .ok (.aload_n 0, 1) := by decide +kernel
theorem dX11_init_21 : decode cX11_init 21 = .ok (.getfield 12, 3) := by decide +kernel
theorem dX11_init_24 : decode cX11_init 24 = .ok (.invokespecial 18, 3) := by decide +kernel
theorem dX11_init_27 : decode cX11_init 27 = .ok (.putfield 21, 3) := by decide +kernel
theorem dX11_init_30 : decode cX11_init 30 = .ok (.aload_n 0, 1) := by decide +kernel
theorem dX11_init_31 : decode cX11_init 31 = .ok (.new 25, 3) := by decide +kernel
theorem dX11_init_34 : decode cX11_init 34 = .ok (.dup, 1) := by decide +kernel
theorem dX11_init_35 : decode cX11_init 35 = .ok (.aload_n 0, 1) := by decide +kernel
theorem dX11_init_36 : decode cX11_init 36 = .ok (.getfield 12, 3) := by decide +kernel
theorem dX11_init_39 : decode cX11_init 39 = .ok (.aload_n 0, 1) := by decide +kernel
theorem dX11_init_40 : decode cX11_init 40 = .ok (.getfield 21, 3) := by decide +kernel
theorem dX11_init_43 : decode cX11_init 43 = .ok (.invokespecial 27, 3) := by decide +kernel
theorem dX11_init_46 : decode cX11_init 46 = .ok (.putfield 30, 3) := by decide +kernel
theorem dX11_init_49 : decode cX11_init 49 = .ok (.aload_n 0, 1) := by decide +kernel
theorem dX11_init_50 : decode cX11_init 50 = .ok (.new 34, 3) := by decide +kernel
theorem dX11_init_53 : decode cX11_init 53 = .ok (.dup, 1) := by decide +kernel
theorem dX11_init_54 : decode cX11_init 54 = .ok (.aload_n 0, 1) := by decide +kernel
theorem dX11_init_55 : decode cX11_init 55 = .ok (.getfield 12, 3) := by decide +kernel
theorem dX11_init_58 : decode cX11_init 58 = .ok (.aload_n 0, 1) := by decide +kernel
theorem dX11_init_59 : decode cX11_init 59 = .ok (.getfield 21, 3) := by decide +kernel
theorem dX11_init_62 : decode cX11_init 62 = .ok (.invokespecial 36, 3) := by decide +kernel
theorem dX11_init_65 : decode cX11_init 65 = .ok (.putfield 37, 3) := by decide +kernel
theorem dX11_init_68 : decode cX11_init 68 = .ok (.aload_n 0, 1) := by decide +kernel
theorem dX11_init_69 : decode cX11_init 69 = .ok (.new 41, 3) := by decide +kernel
theorem dX11_init_72 : decode cX11_init 72 = .ok (.dup, 1) := by decide +kernel
theorem dX11_init_73 : decode cX11_init 73 = .ok (.aload_n 0, 1) := by decide +kernel
theorem dX11_init_74 : decode cX11_init 74 = .ok (.getfield 12, 3) := by decide +kernel
theorem dX11_init_77 : decode cX11_init 77 = .ok (.aload_n 0, 1) := by decide +kernel
theorem dX11_init_78 : decode cX11_init 78 = .ok (.getfield 21, 3) := by decide +kernel
theorem dX11_init_81 : decode cX11_init 81 = .ok (.invokespecial 43, 3) := by decide +kernel
theorem dX11_init_84 : decode cX11_init 84 = .ok (.putfield 44, 3) := by decide +kernel
theorem dX11_init_87 : decode cX11_init 87 = .ok (.aload_n 0, 1) := by decide +kernel
theorem dX11_init_88 : decode cX11_init 88 = .ok (.new 48, 3) := by decide +kernel
theorem dX11_init_91 : decode cX11_init 91 = .ok (.dup, 1) := by decide +kernel
theorem dX11_init_92 : decode cX11_init 92 = .ok (.aload_n 0, 1) := by decide +kernel
theorem dX11_init_93 : decode cX11_init 93 = .ok (.getfield 12, 3) := by decide +kernel
theorem dX11_init_96 : decode cX11_init 96 = .ok (.aload_n 0, 1) := by decide +kernel
theorem dX11_init_97 : decode cX11_init 97 = .ok (.getfield 21, 3) := by decide +kernel
theorem dX11_init_100 : decode cX11_init 100 = .ok (.invokespecial 50, 3) := by decide +kernel
theorem dX11_init_103 : decode cX11_init 103 = .ok (.putfield 51, 3) := by decide +kernel
theorem dX11_init_106 : decode cX11_init 106 = .ok (.aload_n 0, 1) := by decide +kernel
theorem dX11_init_107 : decode cX11_init 107 = .ok (.new 55, 3) := by decide +kernel
theorem dX11_init_110 : decode cX11_init 110 = .ok (.dup, 1) := by decide +kernel
theorem dX11_init_111 : decode cX11_init 111 = .ok (.aload_n 0, 1) := by decide +kernel
theorem dX11_init_112 : decode cX11_init 112 = .ok (.getfield 12, 3) := by decide +kernel
theorem dX11_init_115 : decode cX11_init 115 = .ok (.aload_n 0, 1) := by decide +kernel
theorem dX11_init_116 : decode cX11_init 116 = .ok (.getfield 21, 3) := by decide +kernel
theorem dX11_init_119 : decode cX11_init 119 = .ok (.invokespecial 57, 3) := by decide +kernel
theorem dX11_init_122 : decode cX11_init 122 = .ok (.putfield 58, 3) := by decide +kernel
theorem dX11_init_125 : decode cX11_init 125 = .ok (.aload_n 0, 1) := by decide +kernel
theorem dX11_init_126 : decode cX11_init 126 = .ok (.new 62, 3) := by decide +kernel
theorem dX11_init_129 : decode cX11_init 129 = .ok (.dup, 1) := by decide +kernel
theorem dX11_init_130 : decode cX11_init 130 = .ok (.invokespecial 64, 3) := by decide +kernel
theorem dX11_init_133 : decode cX11_init 133 = .ok (.putfield 65, 3) := by decide +kernel
theorem dX11_init_136 : decode cX11_init 136 = .ok (.aload_n 0, 1) := by decide +kernel
theorem dX11_init_137 : decode cX11_init 137 = .ok (.sipush 400, 3) := by decide +kernel
theorem dX11_init_140 : decode cX11_init 140 = .ok (.newarray .int, 2) := by decide +kernel
theorem dX11_init_142 : decode cX11_init 142 = .ok (.putfield 69, 3) := by decide +kernel
theorem dX11_init_145 : decode cX11_init 145 = .ok (.aload_n 0, 1) := by decide +kernel
theorem dX11_init_146 : decode cX11_init 146 = .ok (.iconst 0, 1) := by decide +kernel
theorem dX11_init_147 : decode cX11_init 147 = .ok (.putfield 73, 3) := by decide +kernel
theorem dX11_init_150 : decode cX11_init 150 = .ok (.aload_n 0, 1) := by decide +kernel
theorem dX11_init_151 : decode cX11_init 151 = .ok (.iconst 0, 1) := by decide +kernel
theorem dX11_init_152 : decode cX11_init 152 = .ok (.putfield 77, 3) := by decide +kernel
theorem dX11_init_155 : decode cX11_init 155 = .ok (.aload_n 0, 1) := by decide +kernel
theorem dX11_init_156 : decode cX11_init 156 = .ok (.iconst (-1), 1) := by decide +kernel
theorem dX11_init_157 : decode cX11_init 157 = .ok (.putfield 80, 3) := by decide +kernel
theorem dX11_init_160 : decode cX11_init 160 = .ok (.aload_n 0, 1) := by decide +kernel
theorem dX11_init_161 : decode cX11_init 161 = .ok (.aconst_null, 1) := by decide +kernel
theorem dX11_init_162 : decode cX11_init 162 = .ok (.putfield 83, 3) := by decide +kernel
theorem dX11_init_165 : decode cX11_init 165 = .ok (.return_, 1) := by decide +kernel
theorem dX11_state_0 : decode cX11_state 0 = .ok (.aload_n 0, 1) := by decide +kernel
theorem dX11_state_1 : decode cX11_state 1 = .ok (.getfield 12, 3) := by decide +kernel
theorem dX11_state_4 : decode cX11_state 4 = .ok (.getfield 86, 3) := by decide +kernel
theorem dX11_state_7 : decode cX11_state 7 = .ok (.istore_n 2, 1) := by decide +kernel
theorem dX11_state_8 : decode cX11_state 8 = .ok (.aload_n 0, 1) := by decide +kernel
theorem dX11_state_9 : decode cX11_state 9 = .ok (.getfield 12, 3) := by decide +kernel
theorem dX11_state_12 : decode cX11_state 12 = .ok (.iload_n 1, 1) := by decide +kernel
theorem dX11_state_13 : decode cX11_state 13 = .ok (.putfield 86, 3) := by decide +kernel
theorem dX11_state_16 : decode cX11_state 16 = .ok (.iload_n 2, 1) := by decide +kernel
theorem dX11_state_17 : decode cX11_state 17 = .ok (.ireturn, 1) := by decide +kernel
theorem dX11_colours_0 : decode cX11_colours 0 = .ok (.iload_n 1, 1) := by decide +kernel
theorem dX11_colours_1 : decode cX11_colours 1 = .ok (.iconst 2, 1) := by decide +kernel
theorem dX11_colours_2 : decode cX11_colours 2 = .ok (.if_icmp .lt 8, 3) := by decide +kernel
theorem dX11_colours_5 : decode cX11_colours 5 = .ok (.iload_n 1, 1) := by decide +kernel
theorem dX11_colours_6 : decode cX11_colours 6 = .ok (.iconst 4, 1) := by decide +kernel
theorem dX11_colours_7 : decode cX11_colours 7 = .ok (.if_icmp .le 5, 3) := by decide +kernel
theorem dX11_colours_10 : decode cX11_colours 10 = .ok (.iconst 0, 1) := by decide +kernel
theorem dX11_colours_11 : decode cX11_colours 11 = .ok (.ireturn, 1) := by decide +kernel
theorem dX11_colours_12 : decode cX11_colours 12 = .ok (.aload_n 0, 1) := by decide +kernel
theorem dX11_colours_13 : decode cX11_colours 13 = .ok (.getfield 12, 3) := by decide +kernel
theorem dX11_colours_16 : decode cX11_colours 16 = .ok (.iload_n 1, 1) := by decide +kernel
theorem dX11_colours_17 : decode cX11_colours 17 = .ok (.invokevirtual 89, 3) := by decide +kernel
theorem dX11_colours_20 : decode cX11_colours 20 = .ok (.iconst 1, 1) := by decide +kernel
theorem dX11_colours_21 : decode cX11_colours 21 = .ok (.ireturn, 1) := by decide +kernel
theorem dX11_pot_0 : decode cX11_pot 0 = .ok (.aload_n 0, 1) := by decide +kernel
theorem dX11_pot_1 : decode cX11_pot 1 = .ok (.getfield 12, 3) := by decide +kernel
theorem dX11_pot_4 : decode cX11_pot 4 = .ok (.iload_n 1, 1) := by decide +kernel
theorem dX11_pot_5 : decode cX11_pot 5 = .ok (.invokevirtual 93, 3) := by decide +kernel
theorem dX11_pot_8 : decode cX11_pot 8 = .ok (.ifCond .eq 14, 3) := by decide +kernel
theorem dX11_pot_11 : decode cX11_pot 11 = .ok (.iload_n 2, 1) := by decide +kernel
theorem dX11_pot_12 : decode cX11_pot 12 = .ok (.iconst 0, 1) := by decide +kernel
theorem dX11_pot_13 : decode cX11_pot 13 = .ok (.sipush 999, 3) := by decide +kernel
theorem dX11_pot_16 : decode cX11_pot 16 = .ok (.invokestatic 97, 3) := by decide +kernel
theorem dX11_pot_19 : decode cX11_pot 19 = .ok (.ifCond .ne 5, 3) := by decide +kernel
theorem dX11_pot_22 : decode cX11_pot 22 = .ok (.iconst 0, 1) := by decide +kernel
theorem dX11_pot_23 : decode cX11_pot 23 = .ok (.ireturn, 1) := by decide +kernel
theorem dX11_pot_24 : decode cX11_pot 24 = .ok (.aload_n 0, 1) := by decide +kernel
theorem dX11_pot_25 : decode cX11_pot 25 = .ok (.getfield 12, 3) := by decide +kernel
theorem dX11_pot_28 : decode cX11_pot 28 = .ok (.getfield 101, 3) := by decide +kernel
theorem dX11_pot_31 : decode cX11_pot 31 = .ok (.iload_n 1, 1) := by decide +kernel
theorem dX11_pot_32 : decode cX11_pot 32 = .ok (.iload_n 2, 1) := by decide +kernel
theorem dX11_pot_33 : decode cX11_pot 33 = .ok (.iastore, 1) := by decide +kernel
theorem dX11_pot_34 : decode cX11_pot 34 = .ok (.iconst 1, 1) := by decide +kernel
theorem dX11_pot_35 : decode cX11_pot 35 = .ok (.ireturn, 1) := by decide +kernel
theorem dX11_wall_0 : decode cX11_wall 0 = .ok (.aload_n 0, 1) := by decide +kernel
theorem dX11_wall_1 : decode cX11_wall 1 = .ok (.getfield 12, 3) := by decide +kernel
theorem dX11_wall_4 : decode cX11_wall 4 = .ok (.iload_n 1, 1) := by decide +kernel
theorem dX11_wall_5 : decode cX11_wall 5 = .ok (.invokevirtual 93, 3) := by decide +kernel
theorem dX11_wall_8 : decode cX11_wall 8 = .ok (.ifCond .eq 15, 3) := by decide +kernel
theorem dX11_wall_11 : decode cX11_wall 11 = .ok (.aload_n 0, 1) := by decide +kernel
theorem dX11_wall_12 : decode cX11_wall 12 = .ok (.getfield 12, 3) := by decide +kernel
theorem dX11_wall_15 : decode cX11_wall 15 = .ok (.getfield 104, 3) := by decide +kernel
theorem dX11_wall_18 : decode cX11_wall 18 = .ok (.bipush 7, 2) := by decide +kernel
theorem dX11_wall_20 : decode cX11_wall 20 = .ok (.if_icmp .lt 5, 3) := by decide +kernel
theorem dX11_wall_23 : decode cX11_wall 23 = .ok (.iconst (-1), 1) := by decide +kernel
theorem dX11_wall_24 : decode cX11_wall 24 = .ok (.ireturn, 1) := by decide +kernel
theorem dX11_wall_25 : decode cX11_wall 25 = .ok (.aload_n 0, 1) := by decide +kernel
theorem dX11_wall_26 : decode cX11_wall 26 = .ok (.getfield 12, 3) := by decide +kernel
theorem dX11_wall_29 : decode cX11_wall 29 = .ok (.getfield 107, 3) := by decide +kernel
theorem dX11_wall_32 : decode cX11_wall 32 = .ok (.aload_n 0, 1) := by decide +kernel
theorem dX11_wall_33 : decode cX11_wall 33 = .ok (.getfield 12, 3) := by decide +kernel
theorem dX11_wall_36 : decode cX11_wall 36 = .ok (.getfield 104, 3) := by decide +kernel
theorem dX11_wall_39 : decode cX11_wall 39 = .ok (.iload_n 1, 1) := by decide +kernel
theorem dX11_wall_40 : decode cX11_wall 40 = .ok (.iastore, 1) := by decide +kernel
theorem dX11_wall_41 : decode cX11_wall 41 = .ok (.aload_n 0, 1) := by decide +kernel
theorem dX11_wall_42 : decode cX11_wall 42 = .ok (.getfield 12, 3) := by decide +kernel
theorem dX11_wall_45 : decode cX11_wall 45 = .ok (.dup, 1) := by decide +kernel
theorem dX11_wall_46 : decode cX11_wall 46 = .ok (.getfield 104, 3) := by decide +kernel
theorem dX11_wall_49 : decode cX11_wall 49 = .ok (.iconst 1, 1) := by decide +kernel
theorem dX11_wall_50 : decode cX11_wall 50 = .ok (.iadd, 1) := by decide +kernel
theorem dX11_wall_51 : decode cX11_wall 51 = .ok (.putfield 104, 3) := by decide +kernel
theorem dX11_wall_54 : decode cX11_wall 54 = .ok (.aload_n 0, 1) := by decide +kernel
theorem dX11_wall_55 : decode cX11_wall 55 = .ok (.getfield 12, 3) := by decide +kernel
theorem dX11_wall_58 : decode cX11_wall 58 = .ok (.getfield 104, 3) := by decide +kernel
theorem dX11_wall_61 : decode cX11_wall 61 = .ok (.iconst 1, 1) := by decide +kernel
theorem dX11_wall_62 : decode cX11_wall 62 = .ok (.isub, 1) := by decide +kernel
theorem dX11_wall_63 : decode cX11_wall 63 = .ok (.ireturn, 1) := by decide +kernel
theorem dX11_person_0 : decode cX11_person 0 = .ok (.iload_n 1, 1) := by decide +kernel
theorem dX11_person_1 : decode cX11_person 1 = .ok (.invokestatic 110, 3) := by decide +kernel
theorem dX11_person_4 : decode cX11_person 4 = .ok (.ifCond .eq 27, 3) := by decide +kernel
theorem dX11_person_7 : decode cX11_person 7 = .ok (.aload_n 0, 1) := by decide +kernel
theorem dX11_person_8 : decode cX11_person 8 = .ok (.getfield 12, 3) := by decide +kernel
theorem dX11_person_11 : decode cX11_person 11 = .ok (.getfield 113, 3) := by decide +kernel
theorem dX11_person_14 : decode cX11_person 14 = .ok (.bipush 7, 2) := by decide +kernel
theorem dX11_person_16 : decode cX11_person 16 = .ok (.if_icmp .ge 15, 3) := by decide +kernel
theorem dX11_person_19 : decode cX11_person 19 = .ok (.aload_n 0, 1) := by decide +kernel
theorem dX11_person_20 : decode cX11_person 20 = .ok (.getfield 12, 3) := by decide +kernel
theorem dX11_person_23 : decode cX11_person 23 = .ok (.iload_n 1, 1) := by decide +kernel
theorem dX11_person_24 : decode cX11_person 24 = .ok (.invokevirtual 116, 3) := by decide +kernel
theorem dX11_person_27 : decode cX11_person 27 = .ok (.iconst (-1), 1) := by decide +kernel
theorem dX11_person_28 : decode cX11_person 28 = .ok (.if_icmp .eq 5, 3) := by decide +kernel
theorem dX11_person_31 : decode cX11_person 31 = .ok (.iconst (-1), 1) := by decide +kernel
theorem dX11_person_32 : decode cX11_person 32 = .ok (.ireturn, 1) := by decide +kernel
theorem dX11_person_33 : decode cX11_person 33 = .ok (.aload_n 0, 1) := by decide +kernel
theorem dX11_person_34 : decode cX11_person 34 = .ok (.getfield 12, 3) := by decide +kernel
theorem dX11_person_37 : decode cX11_person 37 = .ok (.getfield 120, 3) := by decide +kernel
theorem dX11_person_40 : decode cX11_person 40 = .ok (.aload_n 0, 1) := by decide +kernel
theorem dX11_person_41 : decode cX11_person 41 = .ok (.getfield 12, 3) := by decide +kernel
theorem dX11_person_44 : decode cX11_person 44 = .ok (.getfield 113, 3) := by decide +kernel
theorem dX11_person_47 : decode cX11_person 47 = .ok (.iload_n 1, 1) := by decide +kernel
theorem dX11_person_48 : decode cX11_person 48 = .ok (.iastore, 1) := by decide +kernel
theorem dX11_person_49 : decode cX11_person 49 = .ok (.aload_n 0, 1) := by decide +kernel
theorem dX11_person_50 : decode cX11_person 50 = .ok (.getfield 12, 3) := by decide +kernel
theorem dX11_person_53 : decode cX11_person 53 = .ok (.dup, 1) := by decide +kernel
theorem dX11_person_54 : decode cX11_person 54 = .ok (.getfield 113, 3) := by decide +kernel
theorem dX11_person_57 : decode cX11_person 57 = .ok (.iconst 1, 1) := by decide +kernel
theorem dX11_person_58 : decode cX11_person 58 = .ok (.iadd, 1) := by decide +kernel
theorem dX11_person_59 : decode cX11_person 59 = .ok (.putfield 113, 3) := by decide +kernel
theorem dX11_person_62 : decode cX11_person 62 = .ok (.aload_n 0, 1) := by decide +kernel
theorem dX11_person_63 : decode cX11_person 63 = .ok (.getfield 12, 3) := by decide +kernel
theorem dX11_person_66 : decode cX11_person 66 = .ok (.getfield 113, 3) := by decide +kernel
theorem dX11_person_69 : decode cX11_person 69 = .ok (.iconst 1, 1) := by decide +kernel
theorem dX11_person_70 : decode cX11_person 70 = .ok (.isub, 1) := by decide +kernel
theorem dX11_person_71 : decode cX11_person 71 = .ok (.ireturn, 1) := by decide +kernel
theorem dX11_move_0 : decode cX11_move 0 = .ok (.aload_n 0, 1) := by decide +kernel
theorem dX11_move_1 : decode cX11_move 1 = .ok (.getfield 12, 3) := by decide +kernel
theorem dX11_move_4 : decode cX11_move 4 = .ok (.iload_n 1, 1) := by decide +kernel
theorem dX11_move_5 : decode cX11_move 5 = .ok (.invokevirtual 123, 3) := by decide +kernel
theorem dX11_move_8 : decode cX11_move 8 = .ok (.ifCond .eq 10, 3) := by decide +kernel
theorem dX11_move_11 : decode cX11_move 11 = .ok (.iload_n 2, 1) := by decide +kernel
theorem dX11_move_12 : decode cX11_move 12 = .ok (.invokestatic 110, 3) := by decide +kernel
theorem dX11_move_15 : decode cX11_move 15 = .ok (.ifCond .ne 5, 3) := by decide +kernel
theorem dX11_move_18 : decode cX11_move 18 = .ok (.iconst 0, 1) := by decide +kernel
theorem dX11_move_19 : decode cX11_move 19 = .ok (.ireturn, 1) := by decide +kernel
theorem dX11_move_20 : decode cX11_move 20 = .ok (.aload_n 0, 1) := by decide +kernel
theorem dX11_move_21 : decode cX11_move 21 = .ok (.getfield 12, 3) := by decide +kernel
theorem dX11_move_24 : decode cX11_move 24 = .ok (.iload_n 2, 1) := by decide +kernel
theorem dX11_move_25 : decode cX11_move 25 = .ok (.invokevirtual 116, 3) := by decide +kernel
theorem dX11_move_28 : decode cX11_move 28 = .ok (.istore_n 3, 1) := by decide +kernel
theorem dX11_move_29 : decode cX11_move 29 = .ok (.iload_n 3, 1) := by decide +kernel
theorem dX11_move_30 : decode cX11_move 30 = .ok (.iconst (-1), 1) := by decide +kernel
theorem dX11_move_31 : decode cX11_move 31 = .ok (.if_icmp .eq 21, 3) := by decide +kernel
theorem dX11_move_34 : decode cX11_move 34 = .ok (.aload_n 0, 1) := by decide +kernel
theorem dX11_move_35 : decode cX11_move 35 = .ok (.getfield 12, 3) := by decide +kernel
theorem dX11_move_38 : decode cX11_move 38 = .ok (.getfield 120, 3) := by decide +kernel
theorem dX11_move_41 : decode cX11_move 41 = .ok (.iload_n 3, 1) := by decide +kernel
theorem dX11_move_42 : decode cX11_move 42 = .ok (.aload_n 0, 1) := by decide +kernel
theorem dX11_move_43 : decode cX11_move 43 = .ok (.getfield 12, 3) := by decide +kernel
theorem dX11_move_46 : decode cX11_move 46 = .ok (.getfield 120, 3) := by decide +kernel
theorem dX11_move_49 : decode cX11_move 49 = .ok (.iload_n 1, 1) := by decide +kernel
theorem dX11_move_50 : decode cX11_move 50 = .ok (.iaload, 1) := by decide +kernel
theorem dX11_move_51 : decode cX11_move 51 = .ok (.iastore, 1) := by decide +kernel
theorem dX11_move_52 : decode cX11_move 52 = .ok (.aload_n 0, 1) := by decide +kernel
theorem dX11_move_53 : decode cX11_move 53 = .ok (.getfield 12, 3) := by decide +kernel
theorem dX11_move_56 : decode cX11_move 56 = .ok (.getfield 120, 3) := by decide +kernel
theorem dX11_move_59 : decode cX11_move 59 = .ok (.iload_n 1, 1) := by decide +kernel
theorem dX11_move_60 : decode cX11_move 60 = .ok (.iload_n 2, 1) := by decide +kernel
theorem dX11_move_61 : decode cX11_move 61 = .ok (.iastore, 1) := by decide +kernel
theorem dX11_move_62 : decode cX11_move 62 = .ok (.iconst 1, 1) := by decide +kernel
theorem dX11_move_63 : decode cX11_move 63 = .ok (.ireturn, 1) := by decide +kernel
theorem dX11_view_0 : decode cX11_view 0 = .ok (.iload_n 1, 1) := by decide +kernel
theorem dX11_view_1 : decode cX11_view 1 = .ok (.invokestatic 110, 3) := by decide +kernel
theorem dX11_view_4 : decode cX11_view 4 = .ok (.ifCond .eq 24, 3) := by decide +kernel
theorem dX11_view_7 : decode cX11_view 7 = .ok (.aload_n 0, 1) := by decide +kernel
theorem dX11_view_8 : decode cX11_view 8 = .ok (.getfield 12, 3) := by decide +kernel
theorem dX11_view_11 : decode cX11_view 11 = .ok (.iload_n 2, 1) := by decide +kernel
theorem dX11_view_12 : decode cX11_view 12 = .ok (.invokevirtual 126, 3) := by decide +kernel
theorem dX11_view_15 : decode cX11_view 15 = .ok (.ifCond .eq 13, 3) := by decide +kernel
theorem dX11_view_18 : decode cX11_view 18 = .ok (.iload_n 3, 1) := by decide +kernel
theorem dX11_view_19 : decode cX11_view 19 = .ok (.iconst 0, 1) := by decide +kernel
theorem dX11_view_20 : decode cX11_view 20 = .ok (.bipush 99, 2) := by decide +kernel
theorem dX11_view_22 : decode cX11_view 22 = .ok (.invokestatic 97, 3) := by decide +kernel
theorem dX11_view_25 : decode cX11_view 25 = .ok (.ifCond .ne 5, 3) := by decide +kernel
theorem dX11_view_28 : decode cX11_view 28 = .ok (.iconst 0, 1) := by decide +kernel
theorem dX11_view_29 : decode cX11_view 29 = .ok (.ireturn, 1) := by decide +kernel
theorem dX11_view_30 : decode cX11_view 30 = .ok (.aload_n 0, 1) := by decide +kernel
theorem dX11_view_31 : decode cX11_view 31 = .ok (.getfield 12, 3) := by decide +kernel
theorem dX11_view_34 : decode cX11_view 34 = .ok (.getfield 129, 3) := by decide +kernel
theorem dX11_view_37 : decode cX11_view 37 = .ok (.iload_n 1, 1) := by decide +kernel
theorem dX11_view_38 : decode cX11_view 38 = .ok (.bipush 7, 2) := by decide +kernel
theorem dX11_view_40 : decode cX11_view 40 = .ok (.imul, 1) := by decide +kernel
theorem dX11_view_41 : decode cX11_view 41 = .ok (.iload_n 2, 1) := by decide +kernel
theorem dX11_view_42 : decode cX11_view 42 = .ok (.iadd, 1) := by decide +kernel
theorem dX11_view_43 : decode cX11_view 43 = .ok (.iload_n 3, 1) := by decide +kernel
theorem dX11_view_44 : decode cX11_view 44 = .ok (.iastore, 1) := by decide +kernel
theorem dX11_view_45 : decode cX11_view 45 = .ok (.iconst 1, 1) := by decide +kernel
theorem dX11_view_46 : decode cX11_view 46 = .ok (.ireturn, 1) := by decide +kernel
theorem dX11_tree_0 : decode cX11_tree 0 = .ok (.iload_n 1, 1) := by decide +kernel
theorem dX11_tree_1 : decode cX11_tree 1 = .ok (.invokestatic 110, 3) := by decide +kernel
theorem dX11_tree_4 : decode cX11_tree 4 = .ok (.ifCond .eq 24, 3) := by decide +kernel
theorem dX11_tree_7 : decode cX11_tree 7 = .ok (.aload_n 0, 1) := by decide +kernel
theorem dX11_tree_8 : decode cX11_tree 8 = .ok (.getfield 12, 3) := by decide +kernel
theorem dX11_tree_11 : decode cX11_tree 11 = .ok (.iload_n 2, 1) := by decide +kernel
theorem dX11_tree_12 : decode cX11_tree 12 = .ok (.invokevirtual 126, 3) := by decide +kernel
theorem dX11_tree_15 : decode cX11_tree 15 = .ok (.ifCond .eq 13, 3) := by decide +kernel
theorem dX11_tree_18 : decode cX11_tree 18 = .ok (.iload_n 3, 1) := by decide +kernel
theorem dX11_tree_19 : decode cX11_tree 19 = .ok (.iconst 0, 1) := by decide +kernel
theorem dX11_tree_20 : decode cX11_tree 20 = .ok (.bipush 99, 2) := by decide +kernel
theorem dX11_tree_22 : decode cX11_tree 22 = .ok (.invokestatic 97, 3) := by decide +kernel
theorem dX11_tree_25 : decode cX11_tree 25 = .ok (.ifCond .ne 5, 3) := by decide +kernel
theorem dX11_tree_28 : decode cX11_tree 28 = .ok (.iconst (-1), 1) := by decide +kernel
theorem dX11_tree_29 : decode cX11_tree 29 = .ok (.ireturn, 1) := by decide +kernel
theorem dX11_tree_30 : decode cX11_tree 30 = .ok (.aload_n 0, 1) := by decide +kernel
theorem dX11_tree_31 : decode cX11_tree 31 = .ok (.getfield 12, 3) := by decide +kernel
theorem dX11_tree_34 : decode cX11_tree 34 = .ok (.getfield 132, 3) := by decide +kernel
theorem dX11_tree_37 : decode cX11_tree 37 = .ok (.bipush 20, 2) := by decide +kernel
theorem dX11_tree_39 : decode cX11_tree 39 = .ok (.if_icmp .lt 5, 3) := by decide +kernel
theorem dX11_tree_42 : decode cX11_tree 42 = .ok (.iconst (-1), 1) := by decide +kernel
theorem dX11_tree_43 : decode cX11_tree 43 = .ok (.ireturn, 1) := by decide +kernel
theorem dX11_tree_44 : decode cX11_tree 44 = .ok (.aload_n 0, 1) := by decide +kernel
theorem dX11_tree_45 : decode cX11_tree 45 = .ok (.getfield 12, 3) := by decide +kernel
theorem dX11_tree_48 : decode cX11_tree 48 = .ok (.getfield 132, 3) := by decide +kernel
theorem dX11_tree_51 : decode cX11_tree 51 = .ok (.iconst 3, 1) := by decide +kernel
theorem dX11_tree_52 : decode cX11_tree 52 = .ok (.imul, 1) := by decide +kernel
theorem dX11_tree_53 : decode cX11_tree 53 = .ok (.istore 4, 2) := by decide +kernel
theorem dX11_tree_55 : decode cX11_tree 55 = .ok (.aload_n 0, 1) := by decide +kernel
theorem dX11_tree_56 : decode cX11_tree 56 = .ok (.getfield 12, 3) := by decide +kernel
theorem dX11_tree_59 : decode cX11_tree 59 = .ok (.getfield 135, 3) := by decide +kernel
theorem dX11_tree_62 : decode cX11_tree 62 = .ok (.iload 4, 2) := by decide +kernel
theorem dX11_tree_64 : decode cX11_tree 64 = .ok (.iconst 0, 1) := by decide +kernel
theorem dX11_tree_65 : decode cX11_tree 65 = .ok (.iadd, 1) := by decide +kernel
theorem dX11_tree_66 : decode cX11_tree 66 = .ok (.iload_n 1, 1) := by decide +kernel
theorem dX11_tree_67 : decode cX11_tree 67 = .ok (.bipush 7, 2) := by decide +kernel
theorem dX11_tree_69 : decode cX11_tree 69 = .ok (.imul, 1) := by decide +kernel
theorem dX11_tree_70 : decode cX11_tree 70 = .ok (.iload_n 2, 1) := by decide +kernel
theorem dX11_tree_71 : decode cX11_tree 71 = .ok (.iadd, 1) := by decide +kernel
theorem dX11_tree_72 : decode cX11_tree 72 = .ok (.iastore, 1) := by decide +kernel
theorem dX11_tree_73 : decode cX11_tree 73 = .ok (.aload_n 0, 1) := by decide +kernel
theorem dX11_tree_74 : decode cX11_tree 74 = .ok (.getfield 12, 3) := by decide +kernel
theorem dX11_tree_77 : decode cX11_tree 77 = .ok (.getfield 135, 3) := by decide +kernel
theorem dX11_tree_80 : decode cX11_tree 80 = .ok (.iload 4, 2) := by decide +kernel
theorem dX11_tree_82 : decode cX11_tree 82 = .ok (.iconst 1, 1) := by decide +kernel
theorem dX11_tree_83 : decode cX11_tree 83 = .ok (.iadd, 1) := by decide +kernel
theorem dX11_tree_84 : decode cX11_tree 84 = .ok (.iload_n 3, 1) := by decide +kernel
theorem dX11_tree_85 : decode cX11_tree 85 = .ok (.iastore, 1) := by decide +kernel
theorem dX11_tree_86 : decode cX11_tree 86 = .ok (.aload_n 0, 1) := by decide +kernel
theorem dX11_tree_87 : decode cX11_tree 87 = .ok (.getfield 12, 3) := by decide +kernel
theorem dX11_tree_90 : decode cX11_tree 90 = .ok (.getfield 135, 3) := by decide +kernel
theorem dX11_tree_93 : decode cX11_tree 93 = .ok (.iload 4, 2) := by decide +kernel
theorem dX11_tree_95 : decode cX11_tree 95 = .ok (.iconst 2, 1) := by decide +kernel
theorem dX11_tree_96 : decode cX11_tree 96 = .ok (.iadd, 1) := by decide +kernel
theorem dX11_tree_97 : decode cX11_tree 97 = .ok (.aload_n 0, 1) := by decide +kernel
theorem dX11_tree_98 : decode cX11_tree 98 = .ok (.getfield 12, 3) := by decide +kernel
theorem dX11_tree_101 : decode cX11_tree 101 = .ok (.getfield 138, 3) := by decide +kernel
theorem dX11_tree_104 : decode cX11_tree 104 = .ok (.iastore, 1) := by decide +kernel
theorem dX11_tree_105 : decode cX11_tree 105 = .ok (.aload_n 0, 1) := by decide +kernel
theorem dX11_tree_106 : decode cX11_tree 106 = .ok (.getfield 12, 3) := by decide +kernel
theorem dX11_tree_109 : decode cX11_tree 109 = .ok (.dup, 1) := by decide +kernel
theorem dX11_tree_110 : decode cX11_tree 110 = .ok (.getfield 132, 3) := by decide +kernel
theorem dX11_tree_113 : decode cX11_tree 113 = .ok (.iconst 1, 1) := by decide +kernel
theorem dX11_tree_114 : decode cX11_tree 114 = .ok (.iadd, 1) := by decide +kernel
theorem dX11_tree_115 : decode cX11_tree 115 = .ok (.putfield 132, 3) := by decide +kernel
theorem dX11_tree_118 : decode cX11_tree 118 = .ok (.aload_n 0, 1) := by decide +kernel
theorem dX11_tree_119 : decode cX11_tree 119 = .ok (.getfield 12, 3) := by decide +kernel
theorem dX11_tree_122 : decode cX11_tree 122 = .ok (.getfield 132, 3) := by decide +kernel
theorem dX11_tree_125 : decode cX11_tree 125 = .ok (.iconst 1, 1) := by decide +kernel
theorem dX11_tree_126 : decode cX11_tree 126 = .ok (.isub, 1) := by decide +kernel
theorem dX11_tree_127 : decode cX11_tree 127 = .ok (.ireturn, 1) := by decide +kernel
theorem dX11_tell_0 : decode cX11_tell 0 = .ok (.aload_n 0, 1) := by decide +kernel
theorem dX11_tell_1 : decode cX11_tell 1 = .ok (.getfield 12, 3) := by decide +kernel
theorem dX11_tell_4 : decode cX11_tell 4 = .ok (.iload_n 1, 1) := by decide +kernel
theorem dX11_tell_5 : decode cX11_tell 5 = .ok (.invokevirtual 123, 3) := by decide +kernel
theorem dX11_tell_8 : decode cX11_tell 8 = .ok (.ifCond .eq 15, 3) := by decide +kernel
theorem dX11_tell_11 : decode cX11_tell 11 = .ok (.iload 4, 2) := by decide +kernel
theorem dX11_tell_13 : decode cX11_tell 13 = .ok (.bipush (-9), 2) := by decide +kernel
theorem dX11_tell_15 : decode cX11_tell 15 = .ok (.bipush 9, 2) := by decide +kernel
theorem dX11_tell_17 : decode cX11_tell 17 = .ok (.invokestatic 97, 3) := by decide +kernel
theorem dX11_tell_20 : decode cX11_tell 20 = .ok (.ifCond .ne 5, 3) := by decide +kernel
theorem dX11_tell_23 : decode cX11_tell 23 = .ok (.iconst 0, 1) := by decide +kernel
theorem dX11_tell_24 : decode cX11_tell 24 = .ok (.ireturn, 1) := by decide +kernel
theorem dX11_tell_25 : decode cX11_tell 25 = .ok (.iload_n 2, 1) := by decide +kernel
theorem dX11_tell_26 : decode cX11_tell 26 = .ok (.iconst 2, 1) := by decide +kernel
theorem dX11_tell_27 : decode cX11_tell 27 = .ok (.if_icmp .ne 16, 3) := by decide +kernel
theorem dX11_tell_30 : decode cX11_tell 30 = .ok (.aload_n 0, 1) := by decide +kernel
theorem dX11_tell_31 : decode cX11_tell 31 = .ok (.getfield 12, 3) := by decide +kernel
theorem dX11_tell_34 : decode cX11_tell 34 = .ok (.getfield 141, 3) := by decide +kernel
theorem dX11_tell_37 : decode cX11_tell 37 = .ok (.iload_n 1, 1) := by decide +kernel
theorem dX11_tell_38 : decode cX11_tell 38 = .ok (.iload 4, 2) := by decide +kernel
theorem dX11_tell_40 : decode cX11_tell 40 = .ok (.iastore, 1) := by decide +kernel
theorem dX11_tell_41 : decode cX11_tell 41 = .ok (.iconst 1, 1) := by decide +kernel
theorem dX11_tell_42 : decode cX11_tell 42 = .ok (.ireturn, 1) := by decide +kernel
theorem dX11_tell_43 : decode cX11_tell 43 = .ok (.iload_n 2, 1) := by decide +kernel
theorem dX11_tell_44 : decode cX11_tell 44 = .ok (.ifCond .eq 8, 3) := by decide +kernel
theorem dX11_tell_47 : decode cX11_tell 47 = .ok (.iload_n 2, 1) := by decide +kernel
theorem dX11_tell_48 : decode cX11_tell 48 = .ok (.iconst 1, 1) := by decide +kernel
theorem dX11_tell_49 : decode cX11_tell 49 = .ok (.if_icmp .ne 14, 3) := by decide +kernel
theorem dX11_tell_52 : decode cX11_tell 52 = .ok (.aload_n 0, 1) := by decide +kernel
theorem dX11_tell_53 : decode cX11_tell 53 = .ok (.getfield 12, 3) := by decide +kernel
theorem dX11_tell_56 : decode cX11_tell 56 = .ok (.iload_n 3, 1) := by decide +kernel
theorem dX11_tell_57 : decode cX11_tell 57 = .ok (.invokevirtual 93, 3) := by decide +kernel
theorem dX11_tell_60 : decode cX11_tell 60 = .ok (.ifCond .ne 5, 3) := by decide +kernel
theorem dX11_tell_63 : decode cX11_tell 63 = .ok (.iconst 0, 1) := by decide +kernel
theorem dX11_tell_64 : decode cX11_tell 64 = .ok (.ireturn, 1) := by decide +kernel
theorem dX11_tell_65 : decode cX11_tell 65 = .ok (.iload_n 2, 1) := by decide +kernel
theorem dX11_tell_66 : decode cX11_tell 66 = .ok (.ifCond .ne 18, 3) := by decide +kernel
theorem dX11_tell_69 : decode cX11_tell 69 = .ok (.aload_n 0, 1) := by decide +kernel
theorem dX11_tell_70 : decode cX11_tell 70 = .ok (.getfield 12, 3) := by decide +kernel
theorem dX11_tell_73 : decode cX11_tell 73 = .ok (.getfield 144, 3) := by decide +kernel
theorem dX11_tell_76 : decode cX11_tell 76 = .ok (.iload_n 1, 1) := by decide +kernel
theorem dX11_tell_77 : decode cX11_tell 77 = .ok (.iconst 4, 1) := by decide +kernel
theorem dX11_tell_78 : decode cX11_tell 78 = .ok (.imul, 1) := by decide +kernel
theorem dX11_tell_79 : decode cX11_tell 79 = .ok (.iload_n 3, 1) := by decide +kernel
theorem dX11_tell_80 : decode cX11_tell 80 = .ok (.iadd, 1) := by decide +kernel
theorem dX11_tell_81 : decode cX11_tell 81 = .ok (.iload 4, 2) := by decide +kernel
theorem dX11_tell_83 : decode cX11_tell 83 = .ok (.iastore, 1) := by decide +kernel
theorem dX11_tell_84 : decode cX11_tell 84 = .ok (.aload_n 0, 1) := by decide +kernel
theorem dX11_tell_85 : decode cX11_tell 85 = .ok (.getfield 12, 3) := by decide +kernel
theorem dX11_tell_88 : decode cX11_tell 88 = .ok (.getfield 147, 3) := by decide +kernel
theorem dX11_tell_91 : decode cX11_tell 91 = .ok (.iload_n 1, 1) := by decide +kernel
theorem dX11_tell_92 : decode cX11_tell 92 = .ok (.iconst 4, 1) := by decide +kernel
theorem dX11_tell_93 : decode cX11_tell 93 = .ok (.imul, 1) := by decide +kernel
theorem dX11_tell_94 : decode cX11_tell 94 = .ok (.iload_n 3, 1) := by decide +kernel
theorem dX11_tell_95 : decode cX11_tell 95 = .ok (.iadd, 1) := by decide +kernel
theorem dX11_tell_96 : decode cX11_tell 96 = .ok (.iload 4, 2) := by decide +kernel
theorem dX11_tell_98 : decode cX11_tell 98 = .ok (.iastore, 1) := by decide +kernel
theorem dX11_tell_99 : decode cX11_tell 99 = .ok (.iconst 1, 1) := by decide +kernel
theorem dX11_tell_100 : decode cX11_tell 100 = .ok (.ireturn, 1) := by decide +kernel
theorem dX11_beside_0 : decode cX11_beside 0 = .ok (.aload_n 0, 1) := by decide +kernel
theorem dX11_beside_1 : decode cX11_beside 1 = .ok (.getfield 12, 3) := by decide +kernel
theorem dX11_beside_4 : decode cX11_beside 4 = .ok (.iload_n 1, 1) := by decide +kernel
theorem dX11_beside_5 : decode cX11_beside 5 = .ok (.invokevirtual 126, 3) := by decide +kernel
theorem dX11_beside_8 : decode cX11_beside 8 = .ok (.ifCond .eq 19, 3) := by decide +kernel
theorem dX11_beside_11 : decode cX11_beside 11 = .ok (.aload_n 0, 1) := by decide +kernel
theorem dX11_beside_12 : decode cX11_beside 12 = .ok (.getfield 12, 3) := by decide +kernel
theorem dX11_beside_15 : decode cX11_beside 15 = .ok (.iload_n 2, 1) := by decide +kernel
theorem dX11_beside_16 : decode cX11_beside 16 = .ok (.invokevirtual 126, 3) := by decide +kernel
theorem dX11_beside_19 : decode cX11_beside 19 = .ok (.ifCond .eq 8, 3) := by decide +kernel
theorem dX11_beside_22 : decode cX11_beside 22 = .ok (.iload_n 1, 1) := by decide +kernel
theorem dX11_beside_23 : decode cX11_beside 23 = .ok (.iload_n 2, 1) := by decide +kernel
theorem dX11_beside_24 : decode cX11_beside 24 = .ok (.if_icmp .ne 5, 3) := by decide +kernel
theorem dX11_beside_27 : decode cX11_beside 27 = .ok (.iconst 0, 1) := by decide +kernel
theorem dX11_beside_28 : decode cX11_beside 28 = .ok (.ireturn, 1) := by decide +kernel
theorem dX11_beside_29 : decode cX11_beside 29 = .ok (.aload_n 0, 1) := by decide +kernel
theorem dX11_beside_30 : decode cX11_beside 30 = .ok (.getfield 12, 3) := by decide +kernel
theorem dX11_beside_33 : decode cX11_beside 33 = .ok (.getfield 150, 3) := by decide +kernel
theorem dX11_beside_36 : decode cX11_beside 36 = .ok (.iload_n 1, 1) := by decide +kernel
theorem dX11_beside_37 : decode cX11_beside 37 = .ok (.bipush 7, 2) := by decide +kernel
theorem dX11_beside_39 : decode cX11_beside 39 = .ok (.imul, 1) := by decide +kernel
theorem dX11_beside_40 : decode cX11_beside 40 = .ok (.iload_n 2, 1) := by decide +kernel
theorem dX11_beside_41 : decode cX11_beside 41 = .ok (.iadd, 1) := by decide +kernel
theorem dX11_beside_42 : decode cX11_beside 42 = .ok (.iload_n 3, 1) := by decide +kernel
theorem dX11_beside_43 : decode cX11_beside 43 = .ok (.ifCond .eq 7, 3) := by decide +kernel
theorem dX11_beside_46 : decode cX11_beside 46 = .ok (.iconst 1, 1) := by decide +kernel
theorem dX11_beside_47 : decode cX11_beside 47 = .ok (.goto 4, 3) := by decide +kernel
theorem dX11_beside_50 : decode cX11_beside 50 = .ok (.iconst 0, 1) := by decide +kernel
theorem dX11_beside_51 : decode cX11_beside 51 = .ok (.iastore, 1) := by decide +kernel
theorem dX11_beside_52 : decode cX11_beside 52 = .ok (.aload_n 0, 1) := by decide +kernel
theorem dX11_beside_53 : decode cX11_beside 53 = .ok (.getfield 12, 3) := by decide +kernel
theorem dX11_beside_56 : decode cX11_beside 56 = .ok (.getfield 150, 3) := by decide +kernel
theorem dX11_beside_59 : decode cX11_beside 59 = .ok (.iload_n 2, 1) := by decide +kernel
theorem dX11_beside_60 : decode cX11_beside 60 = .ok (.bipush 7, 2) := by decide +kernel
theorem dX11_beside_62 : decode cX11_beside 62 = .ok (.imul, 1) := by decide +kernel
theorem dX11_beside_63 : decode cX11_beside 63 = .ok (.iload_n 1, 1) := by decide +kernel
theorem dX11_beside_64 : decode cX11_beside 64 = .ok (.iadd, 1) := by decide +kernel
theorem dX11_beside_65 : decode cX11_beside 65 = .ok (.iload_n 3, 1) := by decide +kernel
theorem dX11_beside_66 : decode cX11_beside 66 = .ok (.ifCond .eq 7, 3) := by decide +kernel
theorem dX11_beside_69 : decode cX11_beside 69 = .ok (.iconst 1, 1) := by decide +kernel
theorem dX11_beside_70 : decode cX11_beside 70 = .ok (.goto 4, 3) := by decide +kernel
theorem dX11_beside_73 : decode cX11_beside 73 = .ok (.iconst 0, 1) := by decide +kernel
theorem dX11_beside_74 : decode cX11_beside 74 = .ok (.iastore, 1) := by decide +kernel
theorem dX11_beside_75 : decode cX11_beside 75 = .ok (.iconst 1, 1) := by decide +kernel
theorem dX11_beside_76 : decode cX11_beside 76 = .ok (.ireturn, 1) := by decide +kernel
theorem dX11_paint_0 : decode cX11_paint 0 = .ok (.aload_n 0, 1) := by decide +kernel
theorem dX11_paint_1 : decode cX11_paint 1 = .ok (.getfield 12, 3) := by decide +kernel
theorem dX11_paint_4 : decode cX11_paint 4 = .ok (.iload_n 1, 1) := by decide +kernel
theorem dX11_paint_5 : decode cX11_paint 5 = .ok (.invokevirtual 126, 3) := by decide +kernel
theorem dX11_paint_8 : decode cX11_paint 8 = .ok (.ifCond .eq 14, 3) := by decide +kernel
theorem dX11_paint_11 : decode cX11_paint 11 = .ok (.aload_n 0, 1) := by decide +kernel
theorem dX11_paint_12 : decode cX11_paint 12 = .ok (.getfield 12, 3) := by decide +kernel
theorem dX11_paint_15 : decode cX11_paint 15 = .ok (.iload_n 2, 1) := by decide +kernel
theorem dX11_paint_16 : decode cX11_paint 16 = .ok (.invokevirtual 93, 3) := by decide +kernel
theorem dX11_paint_19 : decode cX11_paint 19 = .ok (.ifCond .ne 5, 3) := by decide +kernel
theorem dX11_paint_22 : decode cX11_paint 22 = .ok (.iconst 0, 1) := by decide +kernel
theorem dX11_paint_23 : decode cX11_paint 23 = .ok (.ireturn, 1) := by decide +kernel
theorem dX11_paint_24 : decode cX11_paint 24 = .ok (.aload_n 0, 1) := by decide +kernel
theorem dX11_paint_25 : decode cX11_paint 25 = .ok (.getfield 12, 3) := by decide +kernel
theorem dX11_paint_28 : decode cX11_paint 28 = .ok (.getfield 107, 3) := by decide +kernel
theorem dX11_paint_31 : decode cX11_paint 31 = .ok (.iload_n 1, 1) := by decide +kernel
theorem dX11_paint_32 : decode cX11_paint 32 = .ok (.iload_n 2, 1) := by decide +kernel
theorem dX11_paint_33 : decode cX11_paint 33 = .ok (.iastore, 1) := by decide +kernel
theorem dX11_paint_34 : decode cX11_paint 34 = .ok (.iconst 1, 1) := by decide +kernel
theorem dX11_paint_35 : decode cX11_paint 35 = .ok (.ireturn, 1) := by decide +kernel
theorem dX11_feed_0 : decode cX11_feed 0 = .ok (.aload_n 0, 1) := by decide +kernel
theorem dX11_feed_1 : decode cX11_feed 1 = .ok (.getfield 73, 3) := by decide +kernel
theorem dX11_feed_4 : decode cX11_feed 4 = .ok (.bipush 20, 2) := by decide +kernel
theorem dX11_feed_6 : decode cX11_feed 6 = .ok (.iadd, 1) := by decide +kernel
theorem dX11_feed_7 : decode cX11_feed 7 = .ok (.sipush 400, 3) := by decide +kernel
theorem dX11_feed_10 : decode cX11_feed 10 = .ok (.if_icmp .le 5, 3) := by decide +kernel
theorem dX11_feed_13 : decode cX11_feed 13 = .ok (.iconst (-1), 1) := by decide +kernel
theorem dX11_feed_14 : decode cX11_feed 14 = .ok (.ireturn, 1) := by decide +kernel
theorem dX11_feed_15 : decode cX11_feed 15 = .ok (.aload_n 0, 1) := by decide +kernel
theorem dX11_feed_16 : decode cX11_feed 16 = .ok (.iload_n 1, 1) := by decide +kernel
theorem dX11_feed_17 : decode cX11_feed 17 = .ok (.invokevirtual 153, 3) := by decide +kernel
theorem dX11_feed_20 : decode cX11_feed 20 = .ok (.aload_n 0, 1) := by decide +kernel
theorem dX11_feed_21 : decode cX11_feed 21 = .ok (.iload_n 2, 1) := by decide +kernel
theorem dX11_feed_22 : decode cX11_feed 22 = .ok (.invokevirtual 153, 3) := by decide +kernel
theorem dX11_feed_25 : decode cX11_feed 25 = .ok (.aload_n 0, 1) := by decide +kernel
theorem dX11_feed_26 : decode cX11_feed 26 = .ok (.iload_n 3, 1) := by decide +kernel
theorem dX11_feed_27 : decode cX11_feed 27 = .ok (.invokevirtual 153, 3) := by decide +kernel
theorem dX11_feed_30 : decode cX11_feed 30 = .ok (.aload_n 0, 1) := by decide +kernel
theorem dX11_feed_31 : decode cX11_feed 31 = .ok (.iload 4, 2) := by decide +kernel
theorem dX11_feed_33 : decode cX11_feed 33 = .ok (.invokevirtual 153, 3) := by decide +kernel
theorem dX11_feed_36 : decode cX11_feed 36 = .ok (.aload_n 0, 1) := by decide +kernel
theorem dX11_feed_37 : decode cX11_feed 37 = .ok (.iload 5, 2) := by decide +kernel
theorem dX11_feed_39 : decode cX11_feed 39 = .ok (.invokevirtual 153, 3) := by decide +kernel
theorem dX11_feed_42 : decode cX11_feed 42 = .ok (.aload_n 0, 1) := by decide +kernel
theorem dX11_feed_43 : decode cX11_feed 43 = .ok (.getfield 73, 3) := by decide +kernel
theorem dX11_feed_46 : decode cX11_feed 46 = .ok (.ireturn, 1) := by decide +kernel
theorem dX11_end_0 : decode cX11_end 0 = .ok (.iload_n 1, 1) := by decide +kernel
theorem dX11_end_1 : decode cX11_end 1 = .ok (.iconst 0, 1) := by decide +kernel
theorem dX11_end_2 : decode cX11_end 2 = .ok (.aload_n 0, 1) := by decide +kernel
theorem dX11_end_3 : decode cX11_end 3 = .ok (.getfield 73, 3) := by decide +kernel
theorem dX11_end_6 : decode cX11_end 6 = .ok (.invokestatic 97, 3) := by decide +kernel
theorem dX11_end_9 : decode cX11_end 9 = .ok (.ifCond .ne 5, 3) := by decide +kernel
theorem dX11_end_12 : decode cX11_end 12 = .ok (.iconst 0, 1) := by decide +kernel
theorem dX11_end_13 : decode cX11_end 13 = .ok (.ireturn, 1) := by decide +kernel
theorem dX11_end_14 : decode cX11_end 14 = .ok (.aload_n 0, 1) := by decide +kernel
theorem dX11_end_15 : decode cX11_end 15 = .ok (.iload_n 1, 1) := by decide +kernel
theorem dX11_end_16 : decode cX11_end 16 = .ok (.putfield 73, 3) := by decide +kernel
theorem dX11_end_19 : decode cX11_end 19 = .ok (.iconst 1, 1) := by decide +kernel
theorem dX11_end_20 : decode cX11_end 20 = .ok (.ireturn, 1) := by decide +kernel
theorem dX11_text_0 : decode cX11_text 0 = .ok (.aload_n 0, 1) := by decide +kernel
theorem dX11_text_1 : decode cX11_text 1 = .ok (.getfield 65, 3) := by decide +kernel
theorem dX11_text_4 : decode cX11_text 4 = .ok (.aload_n 0, 1) := by decide +kernel
theorem dX11_text_5 : decode cX11_text 5 = .ok (.getfield 69, 3) := by decide +kernel
theorem dX11_text_8 : decode cX11_text 8 = .ok (.aload_n 0, 1) := by decide +kernel
theorem dX11_text_9 : decode cX11_text 9 = .ok (.getfield 73, 3) := by decide +kernel
theorem dX11_text_12 : decode cX11_text 12 = .ok (.invokevirtual 156, 3) := by decide +kernel
theorem dX11_text_15 : decode cX11_text 15 = .ok (.istore_n 1, 1) := by decide +kernel
theorem dX11_text_16 : decode cX11_text 16 = .ok (.aload_n 0, 1) := by decide +kernel
theorem dX11_text_17 : decode cX11_text 17 = .ok (.iconst 0, 1) := by decide +kernel
theorem dX11_text_18 : decode cX11_text 18 = .ok (.putfield 73, 3) := by decide +kernel
theorem dX11_text_21 : decode cX11_text 21 = .ok (.aload_n 0, 1) := by decide +kernel
theorem dX11_text_22 : decode cX11_text 22 = .ok (.aload_n 0, 1) := by decide +kernel
theorem dX11_text_23 : decode cX11_text 23 = .ok (.getfield 65, 3) := by decide +kernel
theorem dX11_text_26 : decode cX11_text 26 = .ok (.getfield 160, 3) := by decide +kernel
theorem dX11_text_29 : decode cX11_text 29 = .ok (.putfield 77, 3) := by decide +kernel
theorem dX11_text_32 : decode cX11_text 32 = .ok (.aload_n 0, 1) := by decide +kernel
theorem dX11_text_33 : decode cX11_text 33 = .ok (.aload_n 0, 1) := by decide +kernel
theorem dX11_text_34 : decode cX11_text 34 = .ok (.getfield 65, 3) := by decide +kernel
theorem dX11_text_37 : decode cX11_text 37 = .ok (.getfield 161, 3) := by decide +kernel
theorem dX11_text_40 : decode cX11_text 40 = .ok (.putfield 80, 3) := by decide +kernel
theorem dX11_text_43 : decode cX11_text 43 = .ok (.iload_n 1, 1) := by decide +kernel
theorem dX11_text_44 : decode cX11_text 44 = .ok (.ifCond .ne 5, 3) := by decide +kernel
theorem dX11_text_47 : decode cX11_text 47 = .ok (.iconst (-1), 1) := by decide +kernel
theorem dX11_text_48 : decode cX11_text 48 = .ok (.ireturn, 1) := by decide +kernel
theorem dX11_text_49 : decode cX11_text 49 = .ok (.aload_n 0, 1) := by decide +kernel
theorem dX11_text_50 : decode cX11_text 50 = .ok (.getfield 12, 3) := by decide +kernel
theorem dX11_text_53 : decode cX11_text 53 = .ok (.getfield 162, 3) := by decide +kernel
theorem dX11_text_56 : decode cX11_text 56 = .ok (.aload_n 0, 1) := by decide +kernel
theorem dX11_text_57 : decode cX11_text 57 = .ok (.getfield 65, 3) := by decide +kernel
theorem dX11_text_60 : decode cX11_text 60 = .ok (.getfield 166, 3) := by decide +kernel
theorem dX11_text_63 : decode cX11_text 63 = .ok (.invokevirtual 169, 3) := by decide +kernel
theorem dX11_text_66 : decode cX11_text 66 = .ok (.aload_n 0, 1) := by decide +kernel
theorem dX11_text_67 : decode cX11_text 67 = .ok (.getfield 12, 3) := by decide +kernel
theorem dX11_text_70 : decode cX11_text 70 = .ok (.getfield 162, 3) := by decide +kernel
theorem dX11_text_73 : decode cX11_text 73 = .ok (.getfield 175, 3) := by decide +kernel
theorem dX11_text_76 : decode cX11_text 76 = .ok (.ireturn, 1) := by decide +kernel
theorem dX11_fault_0 : decode cX11_fault 0 = .ok (.iload_n 1, 1) := by decide +kernel
theorem dX11_fault_1 : decode cX11_fault 1 = .ok (.ifCond .ne 8, 3) := by decide +kernel
theorem dX11_fault_4 : decode cX11_fault 4 = .ok (.aload_n 0, 1) := by decide +kernel
theorem dX11_fault_5 : decode cX11_fault 5 = .ok (.getfield 77, 3) := by decide +kernel
theorem dX11_fault_8 : decode cX11_fault 8 = .ok (.ireturn, 1) := by decide +kernel
theorem dX11_fault_9 : decode cX11_fault 9 = .ok (.iload_n 1, 1) := by decide +kernel
theorem dX11_fault_10 : decode cX11_fault 10 = .ok (.iconst 1, 1) := by decide +kernel
theorem dX11_fault_11 : decode cX11_fault 11 = .ok (.if_icmp .ne 10, 3) := by decide +kernel
theorem dX11_fault_14 : decode cX11_fault 14 = .ok (.aload_n 0, 1) := by decide +kernel
theorem dX11_fault_15 : decode cX11_fault 15 = .ok (.getfield 80, 3) := by decide +kernel
theorem dX11_fault_18 : decode cX11_fault 18 = .ok (.goto 4, 3) := by decide +kernel
theorem dX11_fault_21 : decode cX11_fault 21 = .ok (.iconst (-1), 1) := by decide +kernel
theorem dX11_fault_22 : decode cX11_fault 22 = .ok (.ireturn, 1) := by decide +kernel
theorem dX11_sees_0 : decode cX11_sees 0 = .ok (.aload_n 0, 1) := by decide +kernel
theorem dX11_sees_1 : decode cX11_sees 1 = .ok (.getfield 12, 3) := by decide +kernel
theorem dX11_sees_4 : decode cX11_sees 4 = .ok (.iload_n 1, 1) := by decide +kernel
theorem dX11_sees_5 : decode cX11_sees 5 = .ok (.invokevirtual 123, 3) := by decide +kernel
theorem dX11_sees_8 : decode cX11_sees 8 = .ok (.ifCond .eq 14, 3) := by decide +kernel
theorem dX11_sees_11 : decode cX11_sees 11 = .ok (.aload_n 0, 1) := by decide +kernel
theorem dX11_sees_12 : decode cX11_sees 12 = .ok (.getfield 12, 3) := by decide +kernel
theorem dX11_sees_15 : decode cX11_sees 15 = .ok (.iload_n 2, 1) := by decide +kernel
theorem dX11_sees_16 : decode cX11_sees 16 = .ok (.invokevirtual 126, 3) := by decide +kernel
theorem dX11_sees_19 : decode cX11_sees 19 = .ok (.ifCond .ne 5, 3) := by decide +kernel
theorem dX11_sees_22 : decode cX11_sees 22 = .ok (.iconst (-1), 1) := by decide +kernel
theorem dX11_sees_23 : decode cX11_sees 23 = .ok (.ireturn, 1) := by decide +kernel
theorem dX11_sees_24 : decode cX11_sees 24 = .ok (.aload_n 0, 1) := by decide +kernel
theorem dX11_sees_25 : decode cX11_sees 25 = .ok (.getfield 21, 3) := by decide +kernel
theorem dX11_sees_28 : decode cX11_sees 28 = .ok (.invokevirtual 178, 3) := by decide +kernel
theorem dX11_sees_31 : decode cX11_sees 31 = .ok (.aload_n 0, 1) := by decide +kernel
theorem dX11_sees_32 : decode cX11_sees 32 = .ok (.getfield 21, 3) := by decide +kernel
theorem dX11_sees_35 : decode cX11_sees 35 = .ok (.iload_n 1, 1) := by decide +kernel
theorem dX11_sees_36 : decode cX11_sees 36 = .ok (.iload_n 2, 1) := by decide +kernel
theorem dX11_sees_37 : decode cX11_sees 37 = .ok (.invokevirtual 181, 3) := by decide +kernel
theorem dX11_sees_40 : decode cX11_sees 40 = .ok (.ireturn, 1) := by decide +kernel
theorem dX11_worth_0 : decode cX11_worth 0 = .ok (.aload_n 0, 1) := by decide +kernel
theorem dX11_worth_1 : decode cX11_worth 1 = .ok (.getfield 12, 3) := by decide +kernel
theorem dX11_worth_4 : decode cX11_worth 4 = .ok (.iload_n 1, 1) := by decide +kernel
theorem dX11_worth_5 : decode cX11_worth 5 = .ok (.invokevirtual 123, 3) := by decide +kernel
theorem dX11_worth_8 : decode cX11_worth 8 = .ok (.ifCond .ne 6, 3) := by decide +kernel
theorem dX11_worth_11 : decode cX11_worth 11 = .ok (.ldc 185, 2) := by decide +kernel
theorem dX11_worth_13 : decode cX11_worth 13 = .ok (.ireturn, 1) := by decide +kernel
theorem dX11_worth_14 : decode cX11_worth 14 = .ok (.aload_n 0, 1) := by decide +kernel
theorem dX11_worth_15 : decode cX11_worth 15 = .ok (.getfield 21, 3) := by decide +kernel
theorem dX11_worth_18 : decode cX11_worth 18 = .ok (.invokevirtual 178, 3) := by decide +kernel
theorem dX11_worth_21 : decode cX11_worth 21 = .ok (.aload_n 0, 1) := by decide +kernel
theorem dX11_worth_22 : decode cX11_worth 22 = .ok (.getfield 21, 3) := by decide +kernel
theorem dX11_worth_25 : decode cX11_worth 25 = .ok (.iload_n 1, 1) := by decide +kernel
theorem dX11_worth_26 : decode cX11_worth 26 = .ok (.aload_n 0, 1) := by decide +kernel
theorem dX11_worth_27 : decode cX11_worth 27 = .ok (.getfield 12, 3) := by decide +kernel
theorem dX11_worth_30 : decode cX11_worth 30 = .ok (.getfield 107, 3) := by decide +kernel
theorem dX11_worth_33 : decode cX11_worth 33 = .ok (.invokevirtual 186, 3) := by decide +kernel
theorem dX11_worth_36 : decode cX11_worth 36 = .ok (.ireturn, 1) := by decide +kernel
theorem dX11_colour_0 : decode cX11_colour 0 = .ok (.aload_n 0, 1) := by decide +kernel
theorem dX11_colour_1 : decode cX11_colour 1 = .ok (.getfield 12, 3) := by decide +kernel
theorem dX11_colour_4 : decode cX11_colour 4 = .ok (.iload_n 1, 1) := by decide +kernel
theorem dX11_colour_5 : decode cX11_colour 5 = .ok (.invokevirtual 126, 3) := by decide +kernel
theorem dX11_colour_8 : decode cX11_colour 8 = .ok (.ifCond .eq 12, 3) := by decide +kernel
theorem dX11_colour_11 : decode cX11_colour 11 = .ok (.iload_n 2, 1) := by decide +kernel
theorem dX11_colour_12 : decode cX11_colour 12 = .ok (.iconst 0, 1) := by decide +kernel
theorem dX11_colour_13 : decode cX11_colour 13 = .ok (.iconst 2, 1) := by decide +kernel
theorem dX11_colour_14 : decode cX11_colour 14 = .ok (.invokestatic 97, 3) := by decide +kernel
theorem dX11_colour_17 : decode cX11_colour 17 = .ok (.ifCond .ne 5, 3) := by decide +kernel
theorem dX11_colour_20 : decode cX11_colour 20 = .ok (.iconst (-1), 1) := by decide +kernel
theorem dX11_colour_21 : decode cX11_colour 21 = .ok (.ireturn, 1) := by decide +kernel
theorem dX11_colour_22 : decode cX11_colour 22 = .ok (.iload_n 2, 1) := by decide +kernel
theorem dX11_colour_23 : decode cX11_colour 23 = .ok (.ifCond .ne 15, 3) := by decide +kernel
theorem dX11_colour_26 : decode cX11_colour 26 = .ok (.aload_n 0, 1) := by decide +kernel
theorem dX11_colour_27 : decode cX11_colour 27 = .ok (.getfield 12, 3) := by decide +kernel
theorem dX11_colour_30 : decode cX11_colour 30 = .ok (.getfield 107, 3) := by decide +kernel
theorem dX11_colour_33 : decode cX11_colour 33 = .ok (.iload_n 1, 1) := by decide +kernel
theorem dX11_colour_34 : decode cX11_colour 34 = .ok (.iaload, 1) := by decide +kernel
theorem dX11_colour_35 : decode cX11_colour 35 = .ok (.goto 10, 3) := by decide +kernel
theorem dX11_colour_38 : decode cX11_colour 38 = .ok (.aload_n 0, 1) := by decide +kernel
theorem dX11_colour_39 : decode cX11_colour 39 = .ok (.iload_n 2, 1) := by decide +kernel
theorem dX11_colour_40 : decode cX11_colour 40 = .ok (.invokevirtual 190, 3) := by decide +kernel
theorem dX11_colour_43 : decode cX11_colour 43 = .ok (.iload_n 1, 1) := by decide +kernel
theorem dX11_colour_44 : decode cX11_colour 44 = .ok (.iaload, 1) := by decide +kernel
theorem dX11_colour_45 : decode cX11_colour 45 = .ok (.ireturn, 1) := by decide +kernel
theorem dX11_become_0 : decode cX11_become 0 = .ok (.iload_n 1, 1) := by decide +kernel
theorem dX11_become_1 : decode cX11_become 1 = .ok (.iconst 1, 1) := by decide +kernel
theorem dX11_become_2 : decode cX11_become 2 = .ok (.if_icmp .eq 10, 3) := by decide +kernel
theorem dX11_become_5 : decode cX11_become 5 = .ok (.iload_n 1, 1) := by decide +kernel
theorem dX11_become_6 : decode cX11_become 6 = .ok (.iconst 2, 1) := by decide +kernel
theorem dX11_become_7 : decode cX11_become 7 = .ok (.if_icmp .eq 5, 3) := by decide +kernel
theorem dX11_become_10 : decode cX11_become 10 = .ok (.iconst (-1), 1) := by decide +kernel
theorem dX11_become_11 : decode cX11_become 11 = .ok (.ireturn, 1) := by decide +kernel
theorem dX11_become_12 : decode cX11_become 12 = .ok (.aload_n 0, 1) := by decide +kernel
theorem dX11_become_13 : decode cX11_become 13 = .ok (.aload_n 0, 1) := by decide +kernel
theorem dX11_become_14 : decode cX11_become 14 = .ok (.iload_n 1, 1) := by decide +kernel
theorem dX11_become_15 : decode cX11_become 15 = .ok (.invokevirtual 190, 3) := by decide +kernel
theorem dX11_become_18 : decode cX11_become 18 = .ok (.invokevirtual 194, 3) := by decide +kernel
theorem dX11_become_21 : decode cX11_become 21 = .ok (.ireturn, 1) := by decide +kernel
theorem dX11_gains_0 : decode cX11_gains 0 = .ok (.aload_n 0, 1) := by decide +kernel
theorem dX11_gains_1 : decode cX11_gains 1 = .ok (.getfield 12, 3) := by decide +kernel
theorem dX11_gains_4 : decode cX11_gains 4 = .ok (.iload_n 1, 1) := by decide +kernel
theorem dX11_gains_5 : decode cX11_gains 5 = .ok (.invokevirtual 123, 3) := by decide +kernel
theorem dX11_gains_8 : decode cX11_gains 8 = .ok (.ifCond .eq 12, 3) := by decide +kernel
theorem dX11_gains_11 : decode cX11_gains 11 = .ok (.iload_n 2, 1) := by decide +kernel
theorem dX11_gains_12 : decode cX11_gains 12 = .ok (.ifCond .eq 11, 3) := by decide +kernel
theorem dX11_gains_15 : decode cX11_gains 15 = .ok (.iload_n 2, 1) := by decide +kernel
theorem dX11_gains_16 : decode cX11_gains 16 = .ok (.iconst 1, 1) := by decide +kernel
theorem dX11_gains_17 : decode cX11_gains 17 = .ok (.if_icmp .eq 6, 3) := by decide +kernel
theorem dX11_gains_20 : decode cX11_gains 20 = .ok (.ldc 185, 2) := by decide +kernel
theorem dX11_gains_22 : decode cX11_gains 22 = .ok (.ireturn, 1) := by decide +kernel
theorem dX11_gains_23 : decode cX11_gains 23 = .ok (.aload_n 0, 1) := by decide +kernel
theorem dX11_gains_24 : decode cX11_gains 24 = .ok (.getfield 30, 3) := by decide +kernel
theorem dX11_gains_27 : decode cX11_gains 27 = .ok (.iload_n 1, 1) := by decide +kernel
theorem dX11_gains_28 : decode cX11_gains 28 = .ok (.invokevirtual 198, 3) := by decide +kernel
theorem dX11_gains_31 : decode cX11_gains 31 = .ok (.iload_n 2, 1) := by decide +kernel
theorem dX11_gains_32 : decode cX11_gains 32 = .ok (.ifCond .ne 13, 3) := by decide +kernel
theorem dX11_gains_35 : decode cX11_gains 35 = .ok (.aload_n 0, 1) := by decide +kernel
theorem dX11_gains_36 : decode cX11_gains 36 = .ok (.getfield 30, 3) := by decide +kernel
theorem dX11_gains_39 : decode cX11_gains 39 = .ok (.getfield 201, 3) := by decide +kernel
theorem dX11_gains_42 : decode cX11_gains 42 = .ok (.goto 10, 3) := by decide +kernel
theorem dX11_gains_45 : decode cX11_gains 45 = .ok (.aload_n 0, 1) := by decide +kernel
theorem dX11_gains_46 : decode cX11_gains 46 = .ok (.getfield 30, 3) := by decide +kernel
theorem dX11_gains_49 : decode cX11_gains 49 = .ok (.getfield 204, 3) := by decide +kernel
theorem dX11_gains_52 : decode cX11_gains 52 = .ok (.ireturn, 1) := by decide +kernel
theorem dX11_best_0 : decode cX11_best 0 = .ok (.aload_n 0, 1) := by decide +kernel
theorem dX11_best_1 : decode cX11_best 1 = .ok (.getfield 12, 3) := by decide +kernel
theorem dX11_best_4 : decode cX11_best 4 = .ok (.iload_n 1, 1) := by decide +kernel
theorem dX11_best_5 : decode cX11_best 5 = .ok (.bipush 10, 2) := by decide +kernel
theorem dX11_best_7 : decode cX11_best 7 = .ok (.isub, 1) := by decide +kernel
theorem dX11_best_8 : decode cX11_best 8 = .ok (.invokevirtual 123, 3) := by decide +kernel
theorem dX11_best_11 : decode cX11_best 11 = .ok (.istore_n 2, 1) := by decide +kernel
theorem dX11_best_12 : decode cX11_best 12 = .ok (.iload_n 2, 1) := by decide +kernel
theorem dX11_best_13 : decode cX11_best 13 = .ok (.ifCond .ne 15, 3) := by decide +kernel
theorem dX11_best_16 : decode cX11_best 16 = .ok (.iload_n 1, 1) := by decide +kernel
theorem dX11_best_17 : decode cX11_best 17 = .ok (.iconst 0, 1) := by decide +kernel
theorem dX11_best_18 : decode cX11_best 18 = .ok (.iconst 2, 1) := by decide +kernel
theorem dX11_best_19 : decode cX11_best 19 = .ok (.invokestatic 97, 3) := by decide +kernel
theorem dX11_best_22 : decode cX11_best 22 = .ok (.ifCond .ne 6, 3) := by decide +kernel
theorem dX11_best_25 : decode cX11_best 25 = .ok (.ldc 185, 2) := by decide +kernel
theorem dX11_best_27 : decode cX11_best 27 = .ok (.ireturn, 1) := by decide +kernel
theorem dX11_best_28 : decode cX11_best 28 = .ok (.aload_n 0, 1) := by decide +kernel
theorem dX11_best_29 : decode cX11_best 29 = .ok (.getfield 37, 3) := by decide +kernel
theorem dX11_best_32 : decode cX11_best 32 = .ok (.invokevirtual 207, 3) := by decide +kernel
theorem dX11_best_35 : decode cX11_best 35 = .ok (.istore_n 3, 1) := by decide +kernel
theorem dX11_best_36 : decode cX11_best 36 = .ok (.iload_n 1, 1) := by decide +kernel
theorem dX11_best_37 : decode cX11_best 37 = .ok (.ifCond .ne 5, 3) := by decide +kernel
theorem dX11_best_40 : decode cX11_best 40 = .ok (.iload_n 3, 1) := by decide +kernel
theorem dX11_best_41 : decode cX11_best 41 = .ok (.ireturn, 1) := by decide +kernel
theorem dX11_best_42 : decode cX11_best 42 = .ok (.iload_n 1, 1) := by decide +kernel
theorem dX11_best_43 : decode cX11_best 43 = .ok (.iconst 1, 1) := by decide +kernel
theorem dX11_best_44 : decode cX11_best 44 = .ok (.if_icmp .ne 11, 3) := by decide +kernel
theorem dX11_best_47 : decode cX11_best 47 = .ok (.aload_n 0, 1) := by decide +kernel
theorem dX11_best_48 : decode cX11_best 48 = .ok (.getfield 37, 3) := by decide +kernel
theorem dX11_best_51 : decode cX11_best 51 = .ok (.invokevirtual 211, 3) := by decide +kernel
theorem dX11_best_54 : decode cX11_best 54 = .ok (.ireturn, 1) := by decide +kernel
theorem dX11_best_55 : decode cX11_best 55 = .ok (.iload_n 2, 1) := by decide +kernel
theorem dX11_best_56 : decode cX11_best 56 = .ok (.ifCond .eq 17, 3) := by decide +kernel
theorem dX11_best_59 : decode cX11_best 59 = .ok (.aload_n 0, 1) := by decide +kernel
theorem dX11_best_60 : decode cX11_best 60 = .ok (.getfield 37, 3) := by decide +kernel
theorem dX11_best_63 : decode cX11_best 63 = .ok (.iload_n 1, 1) := by decide +kernel
theorem dX11_best_64 : decode cX11_best 64 = .ok (.bipush 10, 2) := by decide +kernel
theorem dX11_best_66 : decode cX11_best 66 = .ok (.isub, 1) := by decide +kernel
theorem dX11_best_67 : decode cX11_best 67 = .ok (.invokevirtual 214, 3) := by decide +kernel
theorem dX11_best_70 : decode cX11_best 70 = .ok (.goto 10, 3) := by decide +kernel
theorem dX11_best_73 : decode cX11_best 73 = .ok (.aload_n 0, 1) := by decide +kernel
theorem dX11_best_74 : decode cX11_best 74 = .ok (.getfield 37, 3) := by decide +kernel
theorem dX11_best_77 : decode cX11_best 77 = .ok (.invokevirtual 217, 3) := by decide +kernel
theorem dX11_best_80 : decode cX11_best 80 = .ok (.ireturn, 1) := by decide +kernel
theorem dX11_trade_0 : decode cX11_trade 0 = .ok (.aload_n 0, 1) := by decide +kernel
theorem dX11_trade_1 : decode cX11_trade 1 = .ok (.getfield 21, 3) := by decide +kernel
theorem dX11_trade_4 : decode cX11_trade 4 = .ok (.invokevirtual 178, 3) := by decide +kernel
theorem dX11_trade_7 : decode cX11_trade 7 = .ok (.aload_n 0, 1) := by decide +kernel
theorem dX11_trade_8 : decode cX11_trade 8 = .ok (.getfield 44, 3) := by decide +kernel
theorem dX11_trade_11 : decode cX11_trade 11 = .ok (.aload_n 0, 1) := by decide +kernel
theorem dX11_trade_12 : decode cX11_trade 12 = .ok (.getfield 12, 3) := by decide +kernel
theorem dX11_trade_15 : decode cX11_trade 15 = .ok (.getfield 107, 3) := by decide +kernel
theorem dX11_trade_18 : decode cX11_trade 18 = .ok (.invokevirtual 220, 3) := by decide +kernel
theorem dX11_trade_21 : decode cX11_trade 21 = .ok (.ireturn, 1) := by decide +kernel
theorem dX11_stand_0 : decode cX11_stand 0 = .ok (.aload_n 0, 1) := by decide +kernel
theorem dX11_stand_1 : decode cX11_stand 1 = .ok (.getfield 44, 3) := by decide +kernel
theorem dX11_stand_4 : decode cX11_stand 4 = .ok (.invokevirtual 223, 3) := by decide +kernel
theorem dX11_stand_7 : decode cX11_stand 7 = .ok (.ireturn, 1) := by decide +kernel
theorem dX11_hope_0 : decode cX11_hope 0 = .ok (.aload_n 0, 1) := by decide +kernel
theorem dX11_hope_1 : decode cX11_hope 1 = .ok (.getfield 12, 3) := by decide +kernel
theorem dX11_hope_4 : decode cX11_hope 4 = .ok (.iload_n 1, 1) := by decide +kernel
theorem dX11_hope_5 : decode cX11_hope 5 = .ok (.invokevirtual 126, 3) := by decide +kernel
theorem dX11_hope_8 : decode cX11_hope 8 = .ok (.ifCond .eq 14, 3) := by decide +kernel
theorem dX11_hope_11 : decode cX11_hope 11 = .ok (.aload_n 0, 1) := by decide +kernel
theorem dX11_hope_12 : decode cX11_hope 12 = .ok (.getfield 12, 3) := by decide +kernel
theorem dX11_hope_15 : decode cX11_hope 15 = .ok (.iload_n 2, 1) := by decide +kernel
theorem dX11_hope_16 : decode cX11_hope 16 = .ok (.invokevirtual 93, 3) := by decide +kernel
theorem dX11_hope_19 : decode cX11_hope 19 = .ok (.ifCond .ne 6, 3) := by decide +kernel
theorem dX11_hope_22 : decode cX11_hope 22 = .ok (.bipush (-10), 2) := by decide +kernel
theorem dX11_hope_24 : decode cX11_hope 24 = .ok (.ireturn, 1) := by decide +kernel
theorem dX11_hope_25 : decode cX11_hope 25 = .ok (.iload_n 3, 1) := by decide +kernel
theorem dX11_hope_26 : decode cX11_hope 26 = .ok (.iconst 1, 1) := by decide +kernel
theorem dX11_hope_27 : decode cX11_hope 27 = .ok (.aload_n 0, 1) := by decide +kernel
theorem dX11_hope_28 : decode cX11_hope 28 = .ok (.getfield 12, 3) := by decide +kernel
theorem dX11_hope_31 : decode cX11_hope 31 = .ok (.getfield 113, 3) := by decide +kernel
theorem dX11_hope_34 : decode cX11_hope 34 = .ok (.invokestatic 97, 3) := by decide +kernel
theorem dX11_hope_37 : decode cX11_hope 37 = .ok (.ifCond .eq 25, 3) := by decide +kernel
theorem dX11_hope_40 : decode cX11_hope 40 = .ok (.iload 4, 2) := by decide +kernel
theorem dX11_hope_42 : decode cX11_hope 42 = .ok (.iconst 0, 1) := by decide +kernel
theorem dX11_hope_43 : decode cX11_hope 43 = .ok (.sipush 9999, 3) := by decide +kernel
theorem dX11_hope_46 : decode cX11_hope 46 = .ok (.invokestatic 97, 3) := by decide +kernel
theorem dX11_hope_49 : decode cX11_hope 49 = .ok (.ifCond .eq 13, 3) := by decide +kernel
theorem dX11_hope_52 : decode cX11_hope 52 = .ok (.iload 5, 2) := by decide +kernel
theorem dX11_hope_54 : decode cX11_hope 54 = .ok (.iconst 0, 1) := by decide +kernel
theorem dX11_hope_55 : decode cX11_hope 55 = .ok (.iconst 1, 1) := by decide +kernel
theorem dX11_hope_56 : decode cX11_hope 56 = .ok (.invokestatic 97, 3) := by decide +kernel
theorem dX11_hope_59 : decode cX11_hope 59 = .ok (.ifCond .ne 6, 3) := by decide +kernel
theorem dX11_hope_62 : decode cX11_hope 62 = .ok (.bipush (-10), 2) := by decide +kernel
theorem dX11_hope_64 : decode cX11_hope 64 = .ok (.ireturn, 1) := by decide +kernel
theorem dX11_hope_65 : decode cX11_hope 65 = .ok (.aload_n 0, 1) := by decide +kernel
theorem dX11_hope_66 : decode cX11_hope 66 = .ok (.getfield 51, 3) := by decide +kernel
theorem dX11_hope_69 : decode cX11_hope 69 = .ok (.iload_n 1, 1) := by decide +kernel
theorem dX11_hope_70 : decode cX11_hope 70 = .ok (.iload_n 2, 1) := by decide +kernel
theorem dX11_hope_71 : decode cX11_hope 71 = .ok (.iload_n 3, 1) := by decide +kernel
theorem dX11_hope_72 : decode cX11_hope 72 = .ok (.iload 4, 2) := by decide +kernel
theorem dX11_hope_74 : decode cX11_hope 74 = .ok (.invokevirtual 226, 3) := by decide +kernel
theorem dX11_hope_77 : decode cX11_hope 77 = .ok (.iload 5, 2) := by decide +kernel
theorem dX11_hope_79 : decode cX11_hope 79 = .ok (.ifCond .ne 13, 3) := by decide +kernel
theorem dX11_hope_82 : decode cX11_hope 82 = .ok (.aload_n 0, 1) := by decide +kernel
theorem dX11_hope_83 : decode cX11_hope 83 = .ok (.getfield 51, 3) := by decide +kernel
theorem dX11_hope_86 : decode cX11_hope 86 = .ok (.getfield 230, 3) := by decide +kernel
theorem dX11_hope_89 : decode cX11_hope 89 = .ok (.goto 10, 3) := by decide +kernel
theorem dX11_hope_92 : decode cX11_hope 92 = .ok (.aload_n 0, 1) := by decide +kernel
theorem dX11_hope_93 : decode cX11_hope 93 = .ok (.getfield 51, 3) := by decide +kernel
theorem dX11_hope_96 : decode cX11_hope 96 = .ok (.getfield 233, 3) := by decide +kernel
theorem dX11_hope_99 : decode cX11_hope 99 = .ok (.ireturn, 1) := by decide +kernel
theorem dX11_homes_0 : decode cX11_homes 0 = .ok (.aload_n 0, 1) := by decide +kernel
theorem dX11_homes_1 : decode cX11_homes 1 = .ok (.getfield 12, 3) := by decide +kernel
theorem dX11_homes_4 : decode cX11_homes 4 = .ok (.iload_n 1, 1) := by decide +kernel
theorem dX11_homes_5 : decode cX11_homes 5 = .ok (.bipush 10, 2) := by decide +kernel
theorem dX11_homes_7 : decode cX11_homes 7 = .ok (.isub, 1) := by decide +kernel
theorem dX11_homes_8 : decode cX11_homes 8 = .ok (.invokevirtual 123, 3) := by decide +kernel
theorem dX11_homes_11 : decode cX11_homes 11 = .ok (.istore_n 2, 1) := by decide +kernel
theorem dX11_homes_12 : decode cX11_homes 12 = .ok (.iload_n 2, 1) := by decide +kernel
theorem dX11_homes_13 : decode cX11_homes 13 = .ok (.ifCond .ne 10, 3) := by decide +kernel
theorem dX11_homes_16 : decode cX11_homes 16 = .ok (.iload_n 1, 1) := by decide +kernel
theorem dX11_homes_17 : decode cX11_homes 17 = .ok (.ifCond .eq 6, 3) := by decide +kernel
theorem dX11_homes_20 : decode cX11_homes 20 = .ok (.ldc 185, 2) := by decide +kernel
theorem dX11_homes_22 : decode cX11_homes 22 = .ok (.ireturn, 1) := by decide +kernel
theorem dX11_homes_23 : decode cX11_homes 23 = .ok (.aload_n 0, 1) := by decide +kernel
theorem dX11_homes_24 : decode cX11_homes 24 = .ok (.getfield 58, 3) := by decide +kernel
theorem dX11_homes_27 : decode cX11_homes 27 = .ok (.invokevirtual 236, 3) := by decide +kernel
theorem dX11_homes_30 : decode cX11_homes 30 = .ok (.iload_n 2, 1) := by decide +kernel
theorem dX11_homes_31 : decode cX11_homes 31 = .ok (.ifCond .eq 18, 3) := by decide +kernel
theorem dX11_homes_34 : decode cX11_homes 34 = .ok (.aload_n 0, 1) := by decide +kernel
theorem dX11_homes_35 : decode cX11_homes 35 = .ok (.getfield 58, 3) := by decide +kernel
theorem dX11_homes_38 : decode cX11_homes 38 = .ok (.getfield 239, 3) := by decide +kernel
theorem dX11_homes_41 : decode cX11_homes 41 = .ok (.iload_n 1, 1) := by decide +kernel
theorem dX11_homes_42 : decode cX11_homes 42 = .ok (.bipush 10, 2) := by decide +kernel
theorem dX11_homes_44 : decode cX11_homes 44 = .ok (.isub, 1) := by decide +kernel
theorem dX11_homes_45 : decode cX11_homes 45 = .ok (.iaload, 1) := by decide +kernel
theorem dX11_homes_46 : decode cX11_homes 46 = .ok (.goto 10, 3) := by decide +kernel
theorem dX11_homes_49 : decode cX11_homes 49 = .ok (.aload_n 0, 1) := by decide +kernel
theorem dX11_homes_50 : decode cX11_homes 50 = .ok (.getfield 58, 3) := by decide +kernel
theorem dX11_homes_53 : decode cX11_homes 53 = .ok (.invokevirtual 242, 3) := by decide +kernel
theorem dX11_homes_56 : decode cX11_homes 56 = .ok (.ireturn, 1) := by decide +kernel
theorem dX11_swap_0 : decode cX11_swap 0 = .ok (.aload_n 0, 1) := by decide +kernel
theorem dX11_swap_1 : decode cX11_swap 1 = .ok (.getfield 58, 3) := by decide +kernel
theorem dX11_swap_4 : decode cX11_swap 4 = .ok (.invokevirtual 245, 3) := by decide +kernel
theorem dX11_swap_7 : decode cX11_swap 7 = .ok (.ireturn, 1) := by decide +kernel
theorem dX11_deed_0 : decode cX11_deed 0 = .ok (.aload_n 0, 1) := by decide +kernel
theorem dX11_deed_1 : decode cX11_deed 1 = .ok (.getfield 12, 3) := by decide +kernel
theorem dX11_deed_4 : decode cX11_deed 4 = .ok (.iload_n 1, 1) := by decide +kernel
theorem dX11_deed_5 : decode cX11_deed 5 = .ok (.invokevirtual 123, 3) := by decide +kernel
theorem dX11_deed_8 : decode cX11_deed 8 = .ok (.ifCond .eq 30, 3) := by decide +kernel
theorem dX11_deed_11 : decode cX11_deed 11 = .ok (.aload_n 0, 1) := by decide +kernel
theorem dX11_deed_12 : decode cX11_deed 12 = .ok (.getfield 12, 3) := by decide +kernel
theorem dX11_deed_15 : decode cX11_deed 15 = .ok (.iload_n 2, 1) := by decide +kernel
theorem dX11_deed_16 : decode cX11_deed 16 = .ok (.invokevirtual 93, 3) := by decide +kernel
theorem dX11_deed_19 : decode cX11_deed 19 = .ok (.ifCond .eq 19, 3) := by decide +kernel
theorem dX11_deed_22 : decode cX11_deed 22 = .ok (.aload_n 0, 1) := by decide +kernel
theorem dX11_deed_23 : decode cX11_deed 23 = .ok (.getfield 12, 3) := by decide +kernel
theorem dX11_deed_26 : decode cX11_deed 26 = .ok (.iload_n 3, 1) := by decide +kernel
theorem dX11_deed_27 : decode cX11_deed 27 = .ok (.invokevirtual 93, 3) := by decide +kernel
theorem dX11_deed_30 : decode cX11_deed 30 = .ok (.ifCond .eq 8, 3) := by decide +kernel
theorem dX11_deed_33 : decode cX11_deed 33 = .ok (.iload_n 2, 1) := by decide +kernel
theorem dX11_deed_34 : decode cX11_deed 34 = .ok (.iload_n 3, 1) := by decide +kernel
theorem dX11_deed_35 : decode cX11_deed 35 = .ok (.if_icmp .ne 5, 3) := by decide +kernel
theorem dX11_deed_38 : decode cX11_deed 38 = .ok (.iconst 0, 1) := by decide +kernel
theorem dX11_deed_39 : decode cX11_deed 39 = .ok (.ireturn, 1) := by decide +kernel
theorem dX11_deed_40 : decode cX11_deed 40 = .ok (.aload_n 0, 1) := by decide +kernel
theorem dX11_deed_41 : decode cX11_deed 41 = .ok (.getfield 12, 3) := by decide +kernel
theorem dX11_deed_44 : decode cX11_deed 44 = .ok (.getfield 248, 3) := by decide +kernel
theorem dX11_deed_47 : decode cX11_deed 47 = .ok (.iload_n 1, 1) := by decide +kernel
theorem dX11_deed_48 : decode cX11_deed 48 = .ok (.iload_n 2, 1) := by decide +kernel
theorem dX11_deed_49 : decode cX11_deed 49 = .ok (.iload_n 3, 1) := by decide +kernel
theorem dX11_deed_50 : decode cX11_deed 50 = .ok (.invokevirtual 252, 3) := by decide +kernel
theorem dX11_deed_53 : decode cX11_deed 53 = .ok (.ireturn, 1) := by decide +kernel
theorem dX11_must_0 : decode cX11_must 0 = .ok (.aload_n 0, 1) := by decide +kernel
theorem dX11_must_1 : decode cX11_must 1 = .ok (.getfield 12, 3) := by decide +kernel
theorem dX11_must_4 : decode cX11_must 4 = .ok (.iload_n 1, 1) := by decide +kernel
theorem dX11_must_5 : decode cX11_must 5 = .ok (.invokevirtual 123, 3) := by decide +kernel
theorem dX11_must_8 : decode cX11_must 8 = .ok (.ifCond .eq 25, 3) := by decide +kernel
theorem dX11_must_11 : decode cX11_must 11 = .ok (.aload_n 0, 1) := by decide +kernel
theorem dX11_must_12 : decode cX11_must 12 = .ok (.getfield 12, 3) := by decide +kernel
theorem dX11_must_15 : decode cX11_must 15 = .ok (.iload_n 2, 1) := by decide +kernel
theorem dX11_must_16 : decode cX11_must 16 = .ok (.invokevirtual 93, 3) := by decide +kernel
theorem dX11_must_19 : decode cX11_must 19 = .ok (.ifCond .eq 14, 3) := by decide +kernel
theorem dX11_must_22 : decode cX11_must 22 = .ok (.aload_n 0, 1) := by decide +kernel
theorem dX11_must_23 : decode cX11_must 23 = .ok (.getfield 12, 3) := by decide +kernel
theorem dX11_must_26 : decode cX11_must 26 = .ok (.iload_n 3, 1) := by decide +kernel
theorem dX11_must_27 : decode cX11_must 27 = .ok (.invokevirtual 93, 3) := by decide +kernel
theorem dX11_must_30 : decode cX11_must 30 = .ok (.ifCond .ne 5, 3) := by decide +kernel
theorem dX11_must_33 : decode cX11_must 33 = .ok (.iconst (-1), 1) := by decide +kernel
theorem dX11_must_34 : decode cX11_must 34 = .ok (.ireturn, 1) := by decide +kernel
theorem dX11_must_35 : decode cX11_must 35 = .ok (.aload_n 0, 1) := by decide +kernel
theorem dX11_must_36 : decode cX11_must 36 = .ok (.getfield 12, 3) := by decide +kernel
theorem dX11_must_39 : decode cX11_must 39 = .ok (.getfield 248, 3) := by decide +kernel
theorem dX11_must_42 : decode cX11_must 42 = .ok (.iload_n 1, 1) := by decide +kernel
theorem dX11_must_43 : decode cX11_must 43 = .ok (.invokevirtual 257, 3) := by decide +kernel
theorem dX11_must_46 : decode cX11_must 46 = .ok (.iload_n 2, 1) := by decide +kernel
theorem dX11_must_47 : decode cX11_must 47 = .ok (.iload_n 3, 1) := by decide +kernel
theorem dX11_must_48 : decode cX11_must 48 = .ok (.if_icmp .ne 16, 3) := by decide +kernel
theorem dX11_must_51 : decode cX11_must 51 = .ok (.aload_n 0, 1) := by decide +kernel
theorem dX11_must_52 : decode cX11_must 52 = .ok (.getfield 12, 3) := by decide +kernel
theorem dX11_must_55 : decode cX11_must 55 = .ok (.getfield 248, 3) := by decide +kernel
theorem dX11_must_58 : decode cX11_must 58 = .ok (.invokevirtual 260, 3) := by decide +kernel
theorem dX11_must_61 : decode cX11_must 61 = .ok (.goto 15, 3) := by decide +kernel
theorem dX11_must_64 : decode cX11_must 64 = .ok (.aload_n 0, 1) := by decide +kernel
theorem dX11_must_65 : decode cX11_must 65 = .ok (.getfield 12, 3) := by decide +kernel
theorem dX11_must_68 : decode cX11_must 68 = .ok (.getfield 248, 3) := by decide +kernel
theorem dX11_must_71 : decode cX11_must 71 = .ok (.iload_n 2, 1) := by decide +kernel
theorem dX11_must_72 : decode cX11_must 72 = .ok (.iload_n 3, 1) := by decide +kernel
theorem dX11_must_73 : decode cX11_must 73 = .ok (.invokevirtual 264, 3) := by decide +kernel
theorem dX11_must_76 : decode cX11_must 76 = .ok (.istore 4, 2) := by decide +kernel
theorem dX11_must_78 : decode cX11_must 78 = .ok (.iload 4, 2) := by decide +kernel
theorem dX11_must_80 : decode cX11_must 80 = .ok (.ifCond .eq 7, 3) := by decide +kernel
theorem dX11_must_83 : decode cX11_must 83 = .ok (.iconst 1, 1) := by decide +kernel
theorem dX11_must_84 : decode cX11_must 84 = .ok (.goto 4, 3) := by decide +kernel
theorem dX11_must_87 : decode cX11_must 87 = .ok (.iconst 0, 1) := by decide +kernel
theorem dX11_must_88 : decode cX11_must 88 = .ok (.ireturn, 1) := by decide +kernel
theorem dX11_looks_0 : decode cX11_looks 0 = .ok (.iload_n 1, 1) := by decide +kernel
theorem dX11_looks_1 : decode cX11_looks 1 = .ok (.invokestatic 268, 3) := by decide +kernel
theorem dX11_looks_4 : decode cX11_looks 4 = .ok (.ifCond .eq 13, 3) := by decide +kernel
theorem dX11_looks_7 : decode cX11_looks 7 = .ok (.iload_n 2, 1) := by decide +kernel
theorem dX11_looks_8 : decode cX11_looks 8 = .ok (.iconst 0, 1) := by decide +kernel
theorem dX11_looks_9 : decode cX11_looks 9 = .ok (.bipush 99, 2) := by decide +kernel
theorem dX11_looks_11 : decode cX11_looks 11 = .ok (.invokestatic 97, 3) := by decide +kernel
theorem dX11_looks_14 : decode cX11_looks 14 = .ok (.ifCond .ne 5, 3) := by decide +kernel
theorem dX11_looks_17 : decode cX11_looks 17 = .ok (.iconst 0, 1) := by decide +kernel
theorem dX11_looks_18 : decode cX11_looks 18 = .ok (.ireturn, 1) := by decide +kernel
theorem dX11_looks_19 : decode cX11_looks 19 = .ok (.aload_n 0, 1) := by decide +kernel
theorem dX11_looks_20 : decode cX11_looks 20 = .ok (.getfield 12, 3) := by decide +kernel
theorem dX11_looks_23 : decode cX11_looks 23 = .ok (.getfield 271, 3) := by decide +kernel
theorem dX11_looks_26 : decode cX11_looks 26 = .ok (.getfield 275, 3) := by decide +kernel
theorem dX11_looks_29 : decode cX11_looks 29 = .ok (.iload_n 1, 1) := by decide +kernel
theorem dX11_looks_30 : decode cX11_looks 30 = .ok (.iload_n 2, 1) := by decide +kernel
theorem dX11_looks_31 : decode cX11_looks 31 = .ok (.iastore, 1) := by decide +kernel
theorem dX11_looks_32 : decode cX11_looks 32 = .ok (.iconst 1, 1) := by decide +kernel
theorem dX11_looks_33 : decode cX11_looks 33 = .ok (.ireturn, 1) := by decide +kernel
theorem dX11_link_0 : decode cX11_link 0 = .ok (.iload_n 1, 1) := by decide +kernel
theorem dX11_link_1 : decode cX11_link 1 = .ok (.invokestatic 268, 3) := by decide +kernel
theorem dX11_link_4 : decode cX11_link 4 = .ok (.ifCond .eq 15, 3) := by decide +kernel
theorem dX11_link_7 : decode cX11_link 7 = .ok (.iload_n 2, 1) := by decide +kernel
theorem dX11_link_8 : decode cX11_link 8 = .ok (.invokestatic 268, 3) := by decide +kernel
theorem dX11_link_11 : decode cX11_link 11 = .ok (.ifCond .eq 8, 3) := by decide +kernel
theorem dX11_link_14 : decode cX11_link 14 = .ok (.iload_n 1, 1) := by decide +kernel
theorem dX11_link_15 : decode cX11_link 15 = .ok (.iload_n 2, 1) := by decide +kernel
theorem dX11_link_16 : decode cX11_link 16 = .ok (.if_icmp .ne 5, 3) := by decide +kernel
theorem dX11_link_19 : decode cX11_link 19 = .ok (.iconst 0, 1) := by decide +kernel
theorem dX11_link_20 : decode cX11_link 20 = .ok (.ireturn, 1) := by decide +kernel
theorem dX11_link_21 : decode cX11_link 21 = .ok (.aload_n 0, 1) := by decide +kernel
theorem dX11_link_22 : decode cX11_link 22 = .ok (.getfield 12, 3) := by decide +kernel
theorem dX11_link_25 : decode cX11_link 25 = .ok (.getfield 271, 3) := by decide +kernel
theorem dX11_link_28 : decode cX11_link 28 = .ok (.iload_n 1, 1) := by decide +kernel
theorem dX11_link_29 : decode cX11_link 29 = .ok (.iload_n 2, 1) := by decide +kernel
theorem dX11_link_30 : decode cX11_link 30 = .ok (.iload_n 3, 1) := by decide +kernel
theorem dX11_link_31 : decode cX11_link 31 = .ok (.ifCond .eq 7, 3) := by decide +kernel
theorem dX11_link_34 : decode cX11_link 34 = .ok (.iconst 1, 1) := by decide +kernel
theorem dX11_link_35 : decode cX11_link 35 = .ok (.goto 4, 3) := by decide +kernel
theorem dX11_link_38 : decode cX11_link 38 = .ok (.iconst 0, 1) := by decide +kernel
theorem dX11_link_39 : decode cX11_link 39 = .ok (.invokevirtual 280, 3) := by decide +kernel
theorem dX11_link_42 : decode cX11_link 42 = .ok (.iconst 1, 1) := by decide +kernel
theorem dX11_link_43 : decode cX11_link 43 = .ok (.ireturn, 1) := by decide +kernel
theorem dX11_way_0 : decode cX11_way 0 = .ok (.iload_n 1, 1) := by decide +kernel
theorem dX11_way_1 : decode cX11_way 1 = .ok (.invokestatic 268, 3) := by decide +kernel
theorem dX11_way_4 : decode cX11_way 4 = .ok (.ifCond .eq 20, 3) := by decide +kernel
theorem dX11_way_7 : decode cX11_way 7 = .ok (.iload_n 2, 1) := by decide +kernel
theorem dX11_way_8 : decode cX11_way 8 = .ok (.invokestatic 268, 3) := by decide +kernel
theorem dX11_way_11 : decode cX11_way 11 = .ok (.ifCond .eq 13, 3) := by decide +kernel
theorem dX11_way_14 : decode cX11_way 14 = .ok (.iload_n 3, 1) := by decide +kernel
theorem dX11_way_15 : decode cX11_way 15 = .ok (.iconst 1, 1) := by decide +kernel
theorem dX11_way_16 : decode cX11_way 16 = .ok (.bipush 9, 2) := by decide +kernel
theorem dX11_way_18 : decode cX11_way 18 = .ok (.invokestatic 97, 3) := by decide +kernel
theorem dX11_way_21 : decode cX11_way 21 = .ok (.ifCond .ne 5, 3) := by decide +kernel
theorem dX11_way_24 : decode cX11_way 24 = .ok (.iconst (-1), 1) := by decide +kernel
theorem dX11_way_25 : decode cX11_way 25 = .ok (.ireturn, 1) := by decide +kernel
theorem dX11_way_26 : decode cX11_way 26 = .ok (.aload_n 0, 1) := by decide +kernel
theorem dX11_way_27 : decode cX11_way 27 = .ok (.getfield 12, 3) := by decide +kernel
theorem dX11_way_30 : decode cX11_way 30 = .ok (.getfield 271, 3) := by decide +kernel
theorem dX11_way_33 : decode cX11_way 33 = .ok (.astore 5, 2) := by decide +kernel
theorem dX11_way_35 : decode cX11_way 35 = .ok (.aload 5, 2) := by decide +kernel
theorem dX11_way_37 : decode cX11_way 37 = .ok (.iload_n 1, 1) := by decide +kernel
theorem dX11_way_38 : decode cX11_way 38 = .ok (.iload_n 2, 1) := by decide +kernel
theorem dX11_way_39 : decode cX11_way 39 = .ok (.iload_n 3, 1) := by decide +kernel
theorem dX11_way_40 : decode cX11_way 40 = .ok (.invokevirtual 284, 3) := by decide +kernel
theorem dX11_way_43 : decode cX11_way 43 = .ok (.ifCond .ne 5, 3) := by decide +kernel
theorem dX11_way_46 : decode cX11_way 46 = .ok (.iconst (-1), 1) := by decide +kernel
theorem dX11_way_47 : decode cX11_way 47 = .ok (.ireturn, 1) := by decide +kernel
theorem dX11_way_48 : decode cX11_way 48 = .ok (.iload 4, 2) := by decide +kernel
theorem dX11_way_50 : decode cX11_way 50 = .ok (.ifCond .ne 9, 3) := by decide +kernel
theorem dX11_way_53 : decode cX11_way 53 = .ok (.aload 5, 2) := by decide +kernel
theorem dX11_way_55 : decode cX11_way 55 = .ok (.getfield 287, 3) := by decide +kernel
theorem dX11_way_58 : decode cX11_way 58 = .ok (.ireturn, 1) := by decide +kernel
theorem dX11_way_59 : decode cX11_way 59 = .ok (.iload 4, 2) := by decide +kernel
theorem dX11_way_61 : decode cX11_way 61 = .ok (.iconst 1, 1) := by decide +kernel
theorem dX11_way_62 : decode cX11_way 62 = .ok (.if_icmp .ne 9, 3) := by decide +kernel
theorem dX11_way_65 : decode cX11_way 65 = .ok (.aload 5, 2) := by decide +kernel
theorem dX11_way_67 : decode cX11_way 67 = .ok (.getfield 290, 3) := by decide +kernel
theorem dX11_way_70 : decode cX11_way 70 = .ok (.ireturn, 1) := by decide +kernel
theorem dX11_way_71 : decode cX11_way 71 = .ok (.iload 4, 2) := by decide +kernel
theorem dX11_way_73 : decode cX11_way 73 = .ok (.bipush 10, 2) := by decide +kernel
theorem dX11_way_75 : decode cX11_way 75 = .ok (.bipush 10, 2) := by decide +kernel
theorem dX11_way_77 : decode cX11_way 77 = .ok (.aload 5, 2) := by decide +kernel
theorem dX11_way_79 : decode cX11_way 79 = .ok (.getfield 290, 3) := by decide +kernel
theorem dX11_way_82 : decode cX11_way 82 = .ok (.iadd, 1) := by decide +kernel
theorem dX11_way_83 : decode cX11_way 83 = .ok (.iconst 1, 1) := by decide +kernel
theorem dX11_way_84 : decode cX11_way 84 = .ok (.isub, 1) := by decide +kernel
theorem dX11_way_85 : decode cX11_way 85 = .ok (.invokestatic 97, 3) := by decide +kernel
theorem dX11_way_88 : decode cX11_way 88 = .ok (.ifCond .eq 17, 3) := by decide +kernel
theorem dX11_way_91 : decode cX11_way 91 = .ok (.aload 5, 2) := by decide +kernel
theorem dX11_way_93 : decode cX11_way 93 = .ok (.getfield 293, 3) := by decide +kernel
theorem dX11_way_96 : decode cX11_way 96 = .ok (.iload 4, 2) := by decide +kernel
theorem dX11_way_98 : decode cX11_way 98 = .ok (.bipush 10, 2) := by decide +kernel
theorem dX11_way_100 : decode cX11_way 100 = .ok (.isub, 1) := by decide +kernel
theorem dX11_way_101 : decode cX11_way 101 = .ok (.iaload, 1) := by decide +kernel
theorem dX11_way_102 : decode cX11_way 102 = .ok (.goto 4, 3) := by decide +kernel
theorem dX11_way_105 : decode cX11_way 105 = .ok (.iconst (-1), 1) := by decide +kernel
theorem dX11_way_106 : decode cX11_way 106 = .ok (.ireturn, 1) := by decide +kernel
theorem dX11_years_0 : decode cX11_years 0 = .ok (.iload_n 1, 1) := by decide +kernel
theorem dX11_years_1 : decode cX11_years 1 = .ok (.iconst 1, 1) := by decide +kernel
theorem dX11_years_2 : decode cX11_years 2 = .ok (.bipush 60, 2) := by decide +kernel
theorem dX11_years_4 : decode cX11_years 4 = .ok (.invokestatic 97, 3) := by decide +kernel
theorem dX11_years_7 : decode cX11_years 7 = .ok (.ifCond .eq 18, 3) := by decide +kernel
theorem dX11_years_10 : decode cX11_years 10 = .ok (.aload_n 0, 1) := by decide +kernel
theorem dX11_years_11 : decode cX11_years 11 = .ok (.getfield 12, 3) := by decide +kernel
theorem dX11_years_14 : decode cX11_years 14 = .ok (.getfield 138, 3) := by decide +kernel
theorem dX11_years_17 : decode cX11_years 17 = .ok (.iload_n 1, 1) := by decide +kernel
theorem dX11_years_18 : decode cX11_years 18 = .ok (.iadd, 1) := by decide +kernel
theorem dX11_years_19 : decode cX11_years 19 = .ok (.sipush 999, 3) := by decide +kernel
theorem dX11_years_22 : decode cX11_years 22 = .ok (.if_icmp .le 5, 3) := by decide +kernel
theorem dX11_years_25 : decode cX11_years 25 = .ok (.iconst (-1), 1) := by decide +kernel
theorem dX11_years_26 : decode cX11_years 26 = .ok (.ireturn, 1) := by decide +kernel
theorem dX11_years_27 : decode cX11_years 27 = .ok (.iconst 0, 1) := by decide +kernel
theorem dX11_years_28 : decode cX11_years 28 = .ok (.istore_n 2, 1) := by decide +kernel
theorem dX11_years_29 : decode cX11_years 29 = .ok (.iload_n 2, 1) := by decide +kernel
theorem dX11_years_30 : decode cX11_years 30 = .ok (.iload_n 1, 1) := by decide +kernel
theorem dX11_years_31 : decode cX11_years 31 = .ok (.if_icmp .ge 13, 3) := by decide +kernel
theorem dX11_years_34 : decode cX11_years 34 = .ok (.aload_n 0, 1) := by decide +kernel
theorem dX11_years_35 : decode cX11_years 35 = .ok (.invokevirtual 296, 3) := by decide +kernel
theorem dX11_years_38 : decode cX11_years 38 = .ok (.iinc 2 1, 3) := by decide +kernel
theorem dX11_years_41 : decode cX11_years 41 = .ok (.goto (-12), 3) := by decide +kernel
theorem dX11_years_44 : decode cX11_years 44 = .ok (.aload_n 0, 1) := by decide +kernel
theorem dX11_years_45 : decode cX11_years 45 = .ok (.getfield 12, 3) := by decide +kernel
theorem dX11_years_48 : decode cX11_years 48 = .ok (.getfield 138, 3) := by decide +kernel
theorem dX11_years_51 : decode cX11_years 51 = .ok (.ireturn, 1) := by decide +kernel
theorem dX11_image_0 : decode cX11_image 0 = .ok (.iload_n 1, 1) := by decide +kernel
theorem dX11_image_1 : decode cX11_image 1 = .ok (.ifCond .eq 34, 3) := by decide +kernel
theorem dX11_image_4 : decode cX11_image 4 = .ok (.aload_n 0, 1) := by decide +kernel
theorem dX11_image_5 : decode cX11_image 5 = .ok (.getfield 83, 3) := by decide +kernel
theorem dX11_image_8 : decode cX11_image 8 = .ok (.ifnonnull 14, 3) := by decide +kernel
theorem dX11_image_11 : decode cX11_image 11 = .ok (.aload_n 0, 1) := by decide +kernel
theorem dX11_image_12 : decode cX11_image 12 = .ok (.new 9, 3) := by decide +kernel
theorem dX11_image_15 : decode cX11_image 15 = .ok (.dup, 1) := by decide +kernel
theorem dX11_image_16 : decode cX11_image 16 = .ok (.invokespecial 11, 3) := by decide +kernel
theorem dX11_image_19 : decode cX11_image 19 = .ok (.putfield 83, 3) := by decide +kernel
theorem dX11_image_22 : decode cX11_image 22 = .ok (.aload_n 0, 1) := by decide +kernel
theorem dX11_image_23 : decode cX11_image 23 = .ok (.getfield 83, 3) := by decide +kernel
theorem dX11_image_26 : decode cX11_image 26 = .ok (.aload_n 0, 1) := by decide +kernel
theorem dX11_image_27 : decode cX11_image 27 = .ok (.getfield 12, 3) := by decide +kernel
theorem dX11_image_30 : decode cX11_image 30 = .ok (.invokevirtual 299, 3) := by decide +kernel
theorem dX11_image_33 : decode cX11_image 33 = .ok (.iconst 1, 1) := by decide +kernel
theorem dX11_image_34 : decode cX11_image 34 = .ok (.ireturn, 1) := by decide +kernel
theorem dX11_image_35 : decode cX11_image 35 = .ok (.aload_n 0, 1) := by decide +kernel
theorem dX11_image_36 : decode cX11_image 36 = .ok (.getfield 83, 3) := by decide +kernel
theorem dX11_image_39 : decode cX11_image 39 = .ok (.ifnonnull 5, 3) := by decide +kernel
theorem dX11_image_42 : decode cX11_image 42 = .ok (.iconst 0, 1) := by decide +kernel
theorem dX11_image_43 : decode cX11_image 43 = .ok (.ireturn, 1) := by decide +kernel
theorem dX11_image_44 : decode cX11_image 44 = .ok (.aload_n 0, 1) := by decide +kernel
theorem dX11_image_45 : decode cX11_image 45 = .ok (.getfield 12, 3) := by decide +kernel
theorem dX11_image_48 : decode cX11_image 48 = .ok (.aload_n 0, 1) := by decide +kernel
theorem dX11_image_49 : decode cX11_image 49 = .ok (.getfield 83, 3) := by decide +kernel
theorem dX11_image_52 : decode cX11_image 52 = .ok (.invokevirtual 299, 3) := by decide +kernel
theorem dX11_image_55 : decode cX11_image 55 = .ok (.iconst 1, 1) := by decide +kernel
theorem dX11_image_56 : decode cX11_image 56 = .ok (.ireturn, 1) := by decide +kernel
theorem dX11_look_0 : decode cX11_look 0 = .ok (.iload_n 1, 1) := by decide +kernel
theorem dX11_look_1 : decode cX11_look 1 = .ok (.tableswitch 117 0 7 #[47, 55, 63, 71, 79, 90, 98, 106], 47) := by decide +kernel
theorem dX11_look_48 : decode cX11_look 48 = .ok (.aload_n 0, 1) := by decide +kernel
theorem dX11_look_49 : decode cX11_look 49 = .ok (.getfield 12, 3) := by decide +kernel
theorem dX11_look_52 : decode cX11_look 52 = .ok (.getfield 301, 3) := by decide +kernel
theorem dX11_look_55 : decode cX11_look 55 = .ok (.ireturn, 1) := by decide +kernel
theorem dX11_look_56 : decode cX11_look 56 = .ok (.aload_n 0, 1) := by decide +kernel
theorem dX11_look_57 : decode cX11_look 57 = .ok (.getfield 12, 3) := by decide +kernel
