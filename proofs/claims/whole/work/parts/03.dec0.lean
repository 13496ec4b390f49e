theorem dX0_init_0 : decode cX0_init 0 = .ok (.aload_n 0, 1) := by decide +kernel
theorem dX0_init_1 : decode cX0_init 1 = .ok (.invokespecial 3, 3) := by decide +kernel
theorem dX0_init_4 : decode cX0_init 4 = .ok (.aload_n 0, 1) := by decide +kernel
theorem dX0_init_5 : decode cX0_init 5 = .ok (.bipush 7, 2) := by decide +kernel
theorem dX0_init_7 : decode cX0_init 7 = .ok (.newarray .int, 2) := by decide +kernel
theorem dX0_init_9 : decode cX0_init 9 = .ok (.putfield 9, 3) := by decide +kernel
theorem dX0_init_12 : decode cX0_init 12 = .ok (.aload_n 0, 1) := by decide +kernel
theorem dX0_init_13 : decode cX0_init 13 = .ok (.bipush 28, 2) := by decide +kernel
theorem dX0_init_15 : decode cX0_init 15 = .ok (.newarray .int, 2) := by decide +kernel
theorem dX0_init_17 : decode cX0_init 17 = .ok (.putfield 15, 3) := by decide +kernel
theorem dX0_init_20 : decode cX0_init 20 = .ok (.aload_n 0, 1) := by decide +kernel
theorem dX0_init_21 : decode cX0_init 21 = .ok (.bipush 49, 2) := by decide +kernel
theorem dX0_init_23 : decode cX0_init 23 = .ok (.newarray .int, 2) := by decide +kernel
theorem dX0_init_25 : decode cX0_init 25 = .ok (.putfield 18, 3) := by decide +kernel
theorem dX0_init_28 : decode cX0_init 28 = .ok (.aload_n 0, 1) := by decide +kernel
theorem dX0_init_29 : decode cX0_init 29 = .ok (.bipush 7, 2) := by decide +kernel
theorem dX0_init_31 : decode cX0_init 31 = .ok (.newarray .int, 2) := by decide +kernel
theorem dX0_init_33 : decode cX0_init 33 = .ok (.putfield 21, 3) := by decide +kernel
theorem dX0_init_36 : decode cX0_init 36 = .ok (.aload_n 0, 1) := by decide +kernel
theorem dX0_init_37 : decode cX0_init 37 = .ok (.bipush 7, 2) := by decide +kernel
theorem dX0_init_39 : decode cX0_init 39 = .ok (.newarray .int, 2) := by decide +kernel
theorem dX0_init_41 : decode cX0_init 41 = .ok (.putfield 24, 3) := by decide +kernel
theorem dX0_init_44 : decode cX0_init 44 = .ok (.aload_n 0, 1) := by decide +kernel
theorem dX0_init_45 : decode cX0_init 45 = .ok (.iconst 0, 1) := by decide +kernel
theorem dX0_init_46 : decode cX0_init 46 = .ok (.putfield 27, 3) := by decide +kernel
theorem dX0_init_49 : decode cX0_init 49 = .ok (.aload_n 0, 1) := by decide +kernel
theorem dX0_init_50 : decode cX0_init 50 = .ok (.aload_n 1, 1) := by decide +kernel
theorem dX0_init_51 : decode cX0_init 51 = .ok (.putfield 31, 3) := by decide +kernel
theorem dX0_init_54 : decode cX0_init 54 = .ok (.aload_n 0, 1) := by decide +kernel
theorem dX0_init_55 : decode cX0_init 55 = .ok (.aload_n 2, 1) := by decide +kernel
theorem dX0_init_56 : decode cX0_init 56 = .ok (.putfield 35, 3) := by decide +kernel
theorem dX0_init_59 : decode cX0_init 59 = .ok (.return_, 1) := by decide +kernel
theorem dX0_choose_0 : decode cX0_choose 0 = .ok (.aload_n 0, 1) := by decide +kernel
theorem dX0_choose_1 : decode cX0_choose 1 = .ok (.getfield 35, 3) := by decide +kernel
theorem dX0_choose_4 : decode cX0_choose 4 = .ok (.invokevirtual 39, 3) := by decide +kernel
theorem dX0_choose_7 : decode cX0_choose 7 = .ok (.aload_n 0, 1) := by decide +kernel
theorem dX0_choose_8 : decode cX0_choose 8 = .ok (.iconst (-1), 1) := by decide +kernel
theorem dX0_choose_9 : decode cX0_choose 9 = .ok (.invokevirtual 44, 3) := by decide +kernel
theorem dX0_choose_12 : decode cX0_choose 12 = .ok (.istore_n 1, 1) := by decide +kernel
theorem dX0_choose_13 : decode cX0_choose 13 = .ok (.aload_n 0, 1) := by decide +kernel
theorem dX0_choose_14 : decode cX0_choose 14 = .ok (.getfield 24, 3) := by decide +kernel
theorem dX0_choose_17 : decode cX0_choose 17 = .ok (.iconst 0, 1) := by decide +kernel
theorem dX0_choose_18 : decode cX0_choose 18 = .ok (.aload_n 0, 1) := by decide +kernel
theorem dX0_choose_19 : decode cX0_choose 19 = .ok (.getfield 9, 3) := by decide +kernel
theorem dX0_choose_22 : decode cX0_choose 22 = .ok (.iconst 0, 1) := by decide +kernel
theorem dX0_choose_23 : decode cX0_choose 23 = .ok (.aload_n 0, 1) := by decide +kernel
theorem dX0_choose_24 : decode cX0_choose 24 = .ok (.getfield 9, 3) := by decide +kernel
theorem dX0_choose_27 : decode cX0_choose 27 = .ok (.arraylength, 1) := by decide +kernel
theorem dX0_choose_28 : decode cX0_choose 28 = .ok (.invokestatic 48, 3) := by decide +kernel
theorem dX0_choose_31 : decode cX0_choose 31 = .ok (.iload_n 1, 1) := by decide +kernel
theorem dX0_choose_32 : decode cX0_choose 32 = .ok (.ireturn, 1) := by decide +kernel
theorem dX0_potsOfChosen_0 : decode cX0_potsOfChosen 0 = .ok (.iconst 0, 1) := by decide +kernel
theorem dX0_potsOfChosen_1 : decode cX0_potsOfChosen 1 = .ok (.istore_n 1, 1) := by decide +kernel
theorem dX0_potsOfChosen_2 : decode cX0_potsOfChosen 2 = .ok (.iconst 0, 1) := by decide +kernel
theorem dX0_potsOfChosen_3 : decode cX0_potsOfChosen 3 = .ok (.istore_n 2, 1) := by decide +kernel
theorem dX0_potsOfChosen_4 : decode cX0_potsOfChosen 4 = .ok (.iconst 0, 1) := by decide +kernel
theorem dX0_potsOfChosen_5 : decode cX0_potsOfChosen 5 = .ok (.istore_n 3, 1) := by decide +kernel
theorem dX0_potsOfChosen_6 : decode cX0_potsOfChosen 6 = .ok (.iload_n 3, 1) := by decide +kernel
theorem dX0_potsOfChosen_7 : decode cX0_potsOfChosen 7 = .ok (.aload_n 0, 1) := by decide +kernel
theorem dX0_potsOfChosen_8 : decode cX0_potsOfChosen 8 = .ok (.getfield 31, 3) := by decide +kernel
theorem dX0_potsOfChosen_11 : decode cX0_potsOfChosen 11 = .ok (.getfield 54, 3) := by decide +kernel
theorem dX0_potsOfChosen_14 : decode cX0_potsOfChosen 14 = .ok (.if_icmp .ge 50, 3) := by decide +kernel
theorem dX0_potsOfChosen_17 : decode cX0_potsOfChosen 17 = .ok (.aload_n 0, 1) := by decide +kernel
theorem dX0_potsOfChosen_18 : decode cX0_potsOfChosen 18 = .ok (.getfield 9, 3) := by decide +kernel
theorem dX0_potsOfChosen_21 : decode cX0_potsOfChosen 21 = .ok (.iload_n 3, 1) := by decide +kernel
theorem dX0_potsOfChosen_22 : decode cX0_potsOfChosen 22 = .ok (.iaload, 1) := by decide +kernel
theorem dX0_potsOfChosen_23 : decode cX0_potsOfChosen 23 = .ok (.istore 4, 2) := by decide +kernel
theorem dX0_potsOfChosen_25 : decode cX0_potsOfChosen 25 = .ok (.iload_n 1, 1) := by decide +kernel
theorem dX0_potsOfChosen_26 : decode cX0_potsOfChosen 26 = .ok (.iload_n 2, 1) := by decide +kernel
theorem dX0_potsOfChosen_27 : decode cX0_potsOfChosen 27 = .ok (.iload 4, 2) := by decide +kernel
theorem dX0_potsOfChosen_29 : decode cX0_potsOfChosen 29 = .ok (.ishr, 1) := by decide +kernel
theorem dX0_potsOfChosen_30 : decode cX0_potsOfChosen 30 = .ok (.iconst 1, 1) := by decide +kernel
theorem dX0_potsOfChosen_31 : decode cX0_potsOfChosen 31 = .ok (.iand, 1) := by decide +kernel
theorem dX0_potsOfChosen_32 : decode cX0_potsOfChosen 32 = .ok (.ifCond .ne 16, 3) := by decide +kernel
theorem dX0_potsOfChosen_35 : decode cX0_potsOfChosen 35 = .ok (.aload_n 0, 1) := by decide +kernel
theorem dX0_potsOfChosen_36 : decode cX0_potsOfChosen 36 = .ok (.getfield 31, 3) := by decide +kernel
theorem dX0_potsOfChosen_39 : decode cX0_potsOfChosen 39 = .ok (.getfield 59, 3) := by decide +kernel
theorem dX0_potsOfChosen_42 : decode cX0_potsOfChosen 42 = .ok (.iload 4, 2) := by decide +kernel
theorem dX0_potsOfChosen_44 : decode cX0_potsOfChosen 44 = .ok (.iaload, 1) := by decide +kernel
theorem dX0_potsOfChosen_45 : decode cX0_potsOfChosen 45 = .ok (.goto 4, 3) := by decide +kernel
theorem dX0_potsOfChosen_48 : decode cX0_potsOfChosen 48 = .ok (.iconst 0, 1) := by decide +kernel
theorem dX0_potsOfChosen_49 : decode cX0_potsOfChosen 49 = .ok (.iadd, 1) := by decide +kernel
theorem dX0_potsOfChosen_50 : decode cX0_potsOfChosen 50 = .ok (.istore_n 1, 1) := by decide +kernel
theorem dX0_potsOfChosen_51 : decode cX0_potsOfChosen 51 = .ok (.iload_n 2, 1) := by decide +kernel
theorem dX0_potsOfChosen_52 : decode cX0_potsOfChosen 52 = .ok (.iconst 1, 1) := by decide +kernel
theorem dX0_potsOfChosen_53 : decode cX0_potsOfChosen 53 = .ok (.iload 4, 2) := by decide +kernel
theorem dX0_potsOfChosen_55 : decode cX0_potsOfChosen 55 = .ok (.ishl, 1) := by decide +kernel
theorem dX0_potsOfChosen_56 : decode cX0_potsOfChosen 56 = .ok (.ior, 1) := by decide +kernel
theorem dX0_potsOfChosen_57 : decode cX0_potsOfChosen 57 = .ok (.istore_n 2, 1) := by decide +kernel
theorem dX0_potsOfChosen_58 : decode cX0_potsOfChosen 58 = .ok (.iinc 3 1, 3) := by decide +kernel
theorem dX0_potsOfChosen_61 : decode cX0_potsOfChosen 61 = .ok (.goto (-55), 3) := by decide +kernel
theorem dX0_potsOfChosen_64 : decode cX0_potsOfChosen 64 = .ok (.iload_n 1, 1) := by decide +kernel
theorem dX0_potsOfChosen_65 : decode cX0_potsOfChosen 65 = .ok (.ireturn, 1) := by decide +kernel
theorem dX0_dueOf_0 : decode cX0_dueOf 0 = .ok (.aload_n 0, 1) := by decide +kernel
theorem dX0_dueOf_1 : decode cX0_dueOf 1 = .ok (.iload_n 1, 1) := by decide +kernel
theorem dX0_dueOf_2 : decode cX0_dueOf 2 = .ok (.invokevirtual 44, 3) := by decide +kernel
theorem dX0_dueOf_5 : decode cX0_dueOf 5 = .ok (.aload_n 0, 1) := by decide +kernel
theorem dX0_dueOf_6 : decode cX0_dueOf 6 = .ok (.iload_n 1, 1) := by decide +kernel
theorem dX0_dueOf_7 : decode cX0_dueOf 7 = .ok (.invokevirtual 62, 3) := by decide +kernel
theorem dX0_dueOf_10 : decode cX0_dueOf 10 = .ok (.aload_n 0, 1) := by decide +kernel
theorem dX0_dueOf_11 : decode cX0_dueOf 11 = .ok (.invokevirtual 65, 3) := by decide +kernel
theorem dX0_dueOf_14 : decode cX0_dueOf 14 = .ok (.isub, 1) := by decide +kernel
theorem dX0_dueOf_15 : decode cX0_dueOf 15 = .ok (.isub, 1) := by decide +kernel
theorem dX0_dueOf_16 : decode cX0_dueOf 16 = .ok (.ireturn, 1) := by decide +kernel
theorem dX0_lackOfChosen_0 : decode cX0_lackOfChosen 0 = .ok (.aload_n 0, 1) := by decide +kernel
theorem dX0_lackOfChosen_1 : decode cX0_lackOfChosen 1 = .ok (.invokevirtual 65, 3) := by decide +kernel
theorem dX0_lackOfChosen_4 : decode cX0_lackOfChosen 4 = .ok (.istore_n 1, 1) := by decide +kernel
theorem dX0_lackOfChosen_5 : decode cX0_lackOfChosen 5 = .ok (.iconst 0, 1) := by decide +kernel
theorem dX0_lackOfChosen_6 : decode cX0_lackOfChosen 6 = .ok (.istore_n 2, 1) := by decide +kernel
theorem dX0_lackOfChosen_7 : decode cX0_lackOfChosen 7 = .ok (.iload_n 2, 1) := by decide +kernel
theorem dX0_lackOfChosen_8 : decode cX0_lackOfChosen 8 = .ok (.aload_n 0, 1) := by decide +kernel
theorem dX0_lackOfChosen_9 : decode cX0_lackOfChosen 9 = .ok (.getfield 31, 3) := by decide +kernel
theorem dX0_lackOfChosen_12 : decode cX0_lackOfChosen 12 = .ok (.getfield 69, 3) := by decide +kernel
theorem dX0_lackOfChosen_15 : decode cX0_lackOfChosen 15 = .ok (.if_icmp .ge 17, 3) := by decide +kernel
theorem dX0_lackOfChosen_18 : decode cX0_lackOfChosen 18 = .ok (.iload_n 1, 1) := by decide +kernel
theorem dX0_lackOfChosen_19 : decode cX0_lackOfChosen 19 = .ok (.aload_n 0, 1) := by decide +kernel
theorem dX0_lackOfChosen_20 : decode cX0_lackOfChosen 20 = .ok (.iload_n 2, 1) := by decide +kernel
theorem dX0_lackOfChosen_21 : decode cX0_lackOfChosen 21 = .ok (.invokevirtual 72, 3) := by decide +kernel
theorem dX0_lackOfChosen_24 : decode cX0_lackOfChosen 24 = .ok (.isub, 1) := by decide +kernel
theorem dX0_lackOfChosen_25 : decode cX0_lackOfChosen 25 = .ok (.istore_n 1, 1) := by decide +kernel
theorem dX0_lackOfChosen_26 : decode cX0_lackOfChosen 26 = .ok (.iinc 2 1, 3) := by decide +kernel
theorem dX0_lackOfChosen_29 : decode cX0_lackOfChosen 29 = .ok (.goto (-22), 3) := by decide +kernel
theorem dX0_lackOfChosen_32 : decode cX0_lackOfChosen 32 = .ok (.iload_n 1, 1) := by decide +kernel
theorem dX0_lackOfChosen_33 : decode cX0_lackOfChosen 33 = .ok (.ireturn, 1) := by decide +kernel
theorem dX0_worthsOfChosenWithout_0 : decode cX0_worthsOfChosenWithout 0 = .ok (.iconst 0, 1) := by decide +kernel
theorem dX0_worthsOfChosenWithout_1 : decode cX0_worthsOfChosenWithout 1 = .ok (.istore_n 2, 1) := by decide +kernel
theorem dX0_worthsOfChosenWithout_2 : decode cX0_worthsOfChosenWithout 2 = .ok (.iconst 0, 1) := by decide +kernel
theorem dX0_worthsOfChosenWithout_3 : decode cX0_worthsOfChosenWithout 3 = .ok (.istore_n 3, 1) := by decide +kernel
theorem dX0_worthsOfChosenWithout_4 : decode cX0_worthsOfChosenWithout 4 = .ok (.iload_n 3, 1) := by decide +kernel
theorem dX0_worthsOfChosenWithout_5 : decode cX0_worthsOfChosenWithout 5 = .ok (.aload_n 0, 1) := by decide +kernel
theorem dX0_worthsOfChosenWithout_6 : decode cX0_worthsOfChosenWithout 6 = .ok (.getfield 31, 3) := by decide +kernel
theorem dX0_worthsOfChosenWithout_9 : decode cX0_worthsOfChosenWithout 9 = .ok (.getfield 69, 3) := by decide +kernel
theorem dX0_worthsOfChosenWithout_12 : decode cX0_worthsOfChosenWithout 12 = .ok (.if_icmp .ge 33, 3) := by decide +kernel
theorem dX0_worthsOfChosenWithout_15 : decode cX0_worthsOfChosenWithout 15 = .ok (.iload_n 2, 1) := by decide +kernel
theorem dX0_worthsOfChosenWithout_16 : decode cX0_worthsOfChosenWithout 16 = .ok (.iload_n 3, 1) := by decide +kernel
theorem dX0_worthsOfChosenWithout_17 : decode cX0_worthsOfChosenWithout 17 = .ok (.iload_n 1, 1) := by decide +kernel
theorem dX0_worthsOfChosenWithout_18 : decode cX0_worthsOfChosenWithout 18 = .ok (.if_icmp .ne 7, 3) := by decide +kernel
theorem dX0_worthsOfChosenWithout_21 : decode cX0_worthsOfChosenWithout 21 = .ok (.iconst 0, 1) := by decide +kernel
theorem dX0_worthsOfChosenWithout_22 : decode cX0_worthsOfChosenWithout 22 = .ok (.goto 15, 3) := by decide +kernel
theorem dX0_worthsOfChosenWithout_25 : decode cX0_worthsOfChosenWithout 25 = .ok (.aload_n 0, 1) := by decide +kernel
theorem dX0_worthsOfChosenWithout_26 : decode cX0_worthsOfChosenWithout 26 = .ok (.getfield 35, 3) := by decide +kernel
theorem dX0_worthsOfChosenWithout_29 : decode cX0_worthsOfChosenWithout 29 = .ok (.iload_n 3, 1) := by decide +kernel
theorem dX0_worthsOfChosenWithout_30 : decode cX0_worthsOfChosenWithout 30 = .ok (.aload_n 0, 1) := by decide +kernel
theorem dX0_worthsOfChosenWithout_31 : decode cX0_worthsOfChosenWithout 31 = .ok (.getfield 9, 3) := by decide +kernel
theorem dX0_worthsOfChosenWithout_34 : decode cX0_worthsOfChosenWithout 34 = .ok (.invokevirtual 75, 3) := by decide +kernel
theorem dX0_worthsOfChosenWithout_37 : decode cX0_worthsOfChosenWithout 37 = .ok (.iadd, 1) := by decide +kernel
theorem dX0_worthsOfChosenWithout_38 : decode cX0_worthsOfChosenWithout 38 = .ok (.istore_n 2, 1) := by decide +kernel
theorem dX0_worthsOfChosenWithout_39 : decode cX0_worthsOfChosenWithout 39 = .ok (.iinc 3 1, 3) := by decide +kernel
theorem dX0_worthsOfChosenWithout_42 : decode cX0_worthsOfChosenWithout 42 = .ok (.goto (-38), 3) := by decide +kernel
theorem dX0_worthsOfChosenWithout_45 : decode cX0_worthsOfChosenWithout 45 = .ok (.iload_n 2, 1) := by decide +kernel
theorem dX0_worthsOfChosenWithout_46 : decode cX0_worthsOfChosenWithout 46 = .ok (.ireturn, 1) := by decide +kernel
theorem dX0_greatestWithout_0 : decode cX0_greatestWithout 0 = .ok (.aload_n 0, 1) := by decide +kernel
theorem dX0_greatestWithout_1 : decode cX0_greatestWithout 1 = .ok (.iload_n 1, 1) := by decide +kernel
theorem dX0_greatestWithout_2 : decode cX0_greatestWithout 2 = .ok (.invokevirtual 79, 3) := by decide +kernel
theorem dX0_greatestWithout_5 : decode cX0_greatestWithout 5 = .ok (.aload_n 0, 1) := by decide +kernel
theorem dX0_greatestWithout_6 : decode cX0_greatestWithout 6 = .ok (.ldc 83, 2) := by decide +kernel
theorem dX0_greatestWithout_8 : decode cX0_greatestWithout 8 = .ok (.putfield 27, 3) := by decide +kernel
theorem dX0_greatestWithout_11 : decode cX0_greatestWithout 11 = .ok (.aload_n 0, 1) := by decide +kernel
theorem dX0_greatestWithout_12 : decode cX0_greatestWithout 12 = .ok (.iconst 0, 1) := by decide +kernel
theorem dX0_greatestWithout_13 : decode cX0_greatestWithout 13 = .ok (.iconst 0, 1) := by decide +kernel
theorem dX0_greatestWithout_14 : decode cX0_greatestWithout 14 = .ok (.iconst 0, 1) := by decide +kernel
theorem dX0_greatestWithout_15 : decode cX0_greatestWithout 15 = .ok (.invokevirtual 84, 3) := by decide +kernel
theorem dX0_greatestWithout_18 : decode cX0_greatestWithout 18 = .ok (.aload_n 0, 1) := by decide +kernel
theorem dX0_greatestWithout_19 : decode cX0_greatestWithout 19 = .ok (.getfield 27, 3) := by decide +kernel
theorem dX0_greatestWithout_22 : decode cX0_greatestWithout 22 = .ok (.ireturn, 1) := by decide +kernel
theorem dX0_addUp_0 : decode cX0_addUp 0 = .ok (.aload_n 0, 1) := by decide +kernel
theorem dX0_addUp_1 : decode cX0_addUp 1 = .ok (.getfield 15, 3) := by decide +kernel
theorem dX0_addUp_4 : decode cX0_addUp 4 = .ok (.iconst 0, 1) := by decide +kernel
theorem dX0_addUp_5 : decode cX0_addUp 5 = .ok (.invokestatic 88, 3) := by decide +kernel
theorem dX0_addUp_8 : decode cX0_addUp 8 = .ok (.aload_n 0, 1) := by decide +kernel
theorem dX0_addUp_9 : decode cX0_addUp 9 = .ok (.getfield 18, 3) := by decide +kernel
theorem dX0_addUp_12 : decode cX0_addUp 12 = .ok (.iconst 0, 1) := by decide +kernel
theorem dX0_addUp_13 : decode cX0_addUp 13 = .ok (.invokestatic 88, 3) := by decide +kernel
theorem dX0_addUp_16 : decode cX0_addUp 16 = .ok (.iconst 0, 1) := by decide +kernel
theorem dX0_addUp_17 : decode cX0_addUp 17 = .ok (.istore_n 2, 1) := by decide +kernel
theorem dX0_addUp_18 : decode cX0_addUp 18 = .ok (.iload_n 2, 1) := by decide +kernel
theorem dX0_addUp_19 : decode cX0_addUp 19 = .ok (.aload_n 0, 1) := by decide +kernel
theorem dX0_addUp_20 : decode cX0_addUp 20 = .ok (.getfield 31, 3) := by decide +kernel
theorem dX0_addUp_23 : decode cX0_addUp 23 = .ok (.getfield 69, 3) := by decide +kernel
theorem dX0_addUp_26 : decode cX0_addUp 26 = .ok (.if_icmp .ge 19, 3) := by decide +kernel
theorem dX0_addUp_29 : decode cX0_addUp 29 = .ok (.iload_n 2, 1) := by decide +kernel
theorem dX0_addUp_30 : decode cX0_addUp 30 = .ok (.iload_n 1, 1) := by decide +kernel
theorem dX0_addUp_31 : decode cX0_addUp 31 = .ok (.if_icmp .eq 8, 3) := by decide +kernel
theorem dX0_addUp_34 : decode cX0_addUp 34 = .ok (.aload_n 0, 1) := by decide +kernel
theorem dX0_addUp_35 : decode cX0_addUp 35 = .ok (.iload_n 2, 1) := by decide +kernel
theorem dX0_addUp_36 : decode cX0_addUp 36 = .ok (.invokevirtual 94, 3) := by decide +kernel
theorem dX0_addUp_39 : decode cX0_addUp 39 = .ok (.iinc 2 1, 3) := by decide +kernel
theorem dX0_addUp_42 : decode cX0_addUp 42 = .ok (.goto (-24), 3) := by decide +kernel
theorem dX0_addUp_45 : decode cX0_addUp 45 = .ok (.return_, 1) := by decide +kernel
theorem dX0_addOne_0 : decode cX0_addOne 0 = .ok (.iconst 0, 1) := by decide +kernel
theorem dX0_addOne_1 : decode cX0_addOne 1 = .ok (.istore_n 2, 1) := by decide +kernel
theorem dX0_addOne_2 : decode cX0_addOne 2 = .ok (.iload_n 2, 1) := by decide +kernel
theorem dX0_addOne_3 : decode cX0_addOne 3 = .ok (.aload_n 0, 1) := by decide +kernel
theorem dX0_addOne_4 : decode cX0_addOne 4 = .ok (.getfield 31, 3) := by decide +kernel
theorem dX0_addOne_7 : decode cX0_addOne 7 = .ok (.getfield 54, 3) := by decide +kernel
theorem dX0_addOne_10 : decode cX0_addOne 10 = .ok (.if_icmp .ge 110, 3) := by decide +kernel
theorem dX0_addOne_13 : decode cX0_addOne 13 = .ok (.iconst 0, 1) := by decide +kernel
theorem dX0_addOne_14 : decode cX0_addOne 14 = .ok (.istore_n 3, 1) := by decide +kernel
theorem dX0_addOne_15 : decode cX0_addOne 15 = .ok (.iload_n 3, 1) := by decide +kernel
theorem dX0_addOne_16 : decode cX0_addOne 16 = .ok (.aload_n 0, 1) := by decide +kernel
theorem dX0_addOne_17 : decode cX0_addOne 17 = .ok (.getfield 31, 3) := by decide +kernel
theorem dX0_addOne_20 : decode cX0_addOne 20 = .ok (.getfield 97, 3) := by decide +kernel
theorem dX0_addOne_23 : decode cX0_addOne 23 = .ok (.if_icmp .ge 45, 3) := by decide +kernel
theorem dX0_addOne_26 : decode cX0_addOne 26 = .ok (.aload_n 0, 1) := by decide +kernel
theorem dX0_addOne_27 : decode cX0_addOne 27 = .ok (.getfield 15, 3) := by decide +kernel
theorem dX0_addOne_30 : decode cX0_addOne 30 = .ok (.iload_n 2, 1) := by decide +kernel
theorem dX0_addOne_31 : decode cX0_addOne 31 = .ok (.iconst 4, 1) := by decide +kernel
theorem dX0_addOne_32 : decode cX0_addOne 32 = .ok (.imul, 1) := by decide +kernel
theorem dX0_addOne_33 : decode cX0_addOne 33 = .ok (.iload_n 3, 1) := by decide +kernel
theorem dX0_addOne_34 : decode cX0_addOne 34 = .ok (.iadd, 1) := by decide +kernel
theorem dX0_addOne_35 : decode cX0_addOne 35 = .ok (.dup2, 1) := by decide +kernel
theorem dX0_addOne_36 : decode cX0_addOne 36 = .ok (.iaload, 1) := by decide +kernel
theorem dX0_addOne_37 : decode cX0_addOne 37 = .ok (.aload_n 0, 1) := by decide +kernel
theorem dX0_addOne_38 : decode cX0_addOne 38 = .ok (.getfield 35, 3) := by decide +kernel
theorem dX0_addOne_41 : decode cX0_addOne 41 = .ok (.iload_n 1, 1) := by decide +kernel
theorem dX0_addOne_42 : decode cX0_addOne 42 = .ok (.iload_n 2, 1) := by decide +kernel
theorem dX0_addOne_43 : decode cX0_addOne 43 = .ok (.invokevirtual 100, 3) := by decide +kernel
theorem dX0_addOne_46 : decode cX0_addOne 46 = .ok (.aload_n 0, 1) := by decide +kernel
theorem dX0_addOne_47 : decode cX0_addOne 47 = .ok (.getfield 31, 3) := by decide +kernel
theorem dX0_addOne_50 : decode cX0_addOne 50 = .ok (.getfield 104, 3) := by decide +kernel
theorem dX0_addOne_53 : decode cX0_addOne 53 = .ok (.iload_n 1, 1) := by decide +kernel
theorem dX0_addOne_54 : decode cX0_addOne 54 = .ok (.iconst 4, 1) := by decide +kernel
theorem dX0_addOne_55 : decode cX0_addOne 55 = .ok (.imul, 1) := by decide +kernel
theorem dX0_addOne_56 : decode cX0_addOne 56 = .ok (.iload_n 3, 1) := by decide +kernel
theorem dX0_addOne_57 : decode cX0_addOne 57 = .ok (.iadd, 1) := by decide +kernel
theorem dX0_addOne_58 : decode cX0_addOne 58 = .ok (.iaload, 1) := by decide +kernel
theorem dX0_addOne_59 : decode cX0_addOne 59 = .ok (.imul, 1) := by decide +kernel
theorem dX0_addOne_60 : decode cX0_addOne 60 = .ok (.iadd, 1) := by decide +kernel
theorem dX0_addOne_61 : decode cX0_addOne 61 = .ok (.iastore, 1) := by decide +kernel
theorem dX0_addOne_62 : decode cX0_addOne 62 = .ok (.iinc 3 1, 3) := by decide +kernel
theorem dX0_addOne_65 : decode cX0_addOne 65 = .ok (.goto (-50), 3) := by decide +kernel
theorem dX0_addOne_68 : decode cX0_addOne 68 = .ok (.iconst 0, 1) := by decide +kernel
theorem dX0_addOne_69 : decode cX0_addOne 69 = .ok (.istore_n 3, 1) := by decide +kernel
theorem dX0_addOne_70 : decode cX0_addOne 70 = .ok (.iload_n 3, 1) := by decide +kernel
theorem dX0_addOne_71 : decode cX0_addOne 71 = .ok (.iload_n 2, 1) := by decide +kernel
theorem dX0_addOne_72 : decode cX0_addOne 72 = .ok (.if_icmp .ge 42, 3) := by decide +kernel
theorem dX0_addOne_75 : decode cX0_addOne 75 = .ok (.aload_n 0, 1) := by decide +kernel
theorem dX0_addOne_76 : decode cX0_addOne 76 = .ok (.getfield 18, 3) := by decide +kernel
theorem dX0_addOne_79 : decode cX0_addOne 79 = .ok (.iload_n 2, 1) := by decide +kernel
theorem dX0_addOne_80 : decode cX0_addOne 80 = .ok (.bipush 7, 2) := by decide +kernel
theorem dX0_addOne_82 : decode cX0_addOne 82 = .ok (.imul, 1) := by decide +kernel
theorem dX0_addOne_83 : decode cX0_addOne 83 = .ok (.iload_n 3, 1) := by decide +kernel
theorem dX0_addOne_84 : decode cX0_addOne 84 = .ok (.iadd, 1) := by decide +kernel
theorem dX0_addOne_85 : decode cX0_addOne 85 = .ok (.dup2, 1) := by decide +kernel
theorem dX0_addOne_86 : decode cX0_addOne 86 = .ok (.iaload, 1) := by decide +kernel
theorem dX0_addOne_87 : decode cX0_addOne 87 = .ok (.aload_n 0, 1) := by decide +kernel
theorem dX0_addOne_88 : decode cX0_addOne 88 = .ok (.getfield 35, 3) := by decide +kernel
theorem dX0_addOne_91 : decode cX0_addOne 91 = .ok (.iload_n 1, 1) := by decide +kernel
theorem dX0_addOne_92 : decode cX0_addOne 92 = .ok (.aload_n 0, 1) := by decide +kernel
theorem dX0_addOne_93 : decode cX0_addOne 93 = .ok (.getfield 31, 3) := by decide +kernel
theorem dX0_addOne_96 : decode cX0_addOne 96 = .ok (.getfield 107, 3) := by decide +kernel
theorem dX0_addOne_99 : decode cX0_addOne 99 = .ok (.iload_n 1, 1) := by decide +kernel
theorem dX0_addOne_100 : decode cX0_addOne 100 = .ok (.iaload, 1) := by decide +kernel
theorem dX0_addOne_101 : decode cX0_addOne 101 = .ok (.iload_n 2, 1) := by decide +kernel
theorem dX0_addOne_102 : decode cX0_addOne 102 = .ok (.iload_n 3, 1) := by decide +kernel
theorem dX0_addOne_103 : decode cX0_addOne 103 = .ok (.invokevirtual 110, 3) := by decide +kernel
theorem dX0_addOne_106 : decode cX0_addOne 106 = .ok (.iadd, 1) := by decide +kernel
theorem dX0_addOne_107 : decode cX0_addOne 107 = .ok (.iastore, 1) := by decide +kernel
theorem dX0_addOne_108 : decode cX0_addOne 108 = .ok (.iinc 3 1, 3) := by decide +kernel
theorem dX0_addOne_111 : decode cX0_addOne 111 = .ok (.goto (-41), 3) := by decide +kernel
theorem dX0_addOne_114 : decode cX0_addOne 114 = .ok (.iinc 2 1, 3) := by decide +kernel
theorem dX0_addOne_117 : decode cX0_addOne 117 = .ok (.goto (-115), 3) := by decide +kernel
theorem dX0_addOne_120 : decode cX0_addOne 120 = .ok (.return_, 1) := by decide +kernel
theorem dX0_tryFrom_0 : decode cX0_tryFrom 0 = .ok (.iload_n 1, 1) := by decide +kernel
theorem dX0_tryFrom_1 : decode cX0_tryFrom 1 = .ok (.aload_n 0, 1) := by decide +kernel
theorem dX0_tryFrom_2 : decode cX0_tryFrom 2 = .ok (.getfield 31, 3) := by decide +kernel
theorem dX0_tryFrom_5 : decode cX0_tryFrom 5 = .ok (.getfield 54, 3) := by decide +kernel
theorem dX0_tryFrom_8 : decode cX0_tryFrom 8 = .ok (.if_icmp .ge 12, 3) := by decide +kernel
theorem dX0_tryFrom_11 : decode cX0_tryFrom 11 = .ok (.iload_n 1, 1) := by decide +kernel
theorem dX0_tryFrom_12 : decode cX0_tryFrom 12 = .ok (.aload_n 0, 1) := by decide +kernel
theorem dX0_tryFrom_13 : decode cX0_tryFrom 13 = .ok (.getfield 21, 3) := by decide +kernel
theorem dX0_tryFrom_16 : decode cX0_tryFrom 16 = .ok (.arraylength, 1) := by decide +kernel
theorem dX0_tryFrom_17 : decode cX0_tryFrom 17 = .ok (.if_icmp .lt 35, 3) := by decide +kernel
theorem dX0_tryFrom_20 : decode cX0_tryFrom 20 = .ok (.iload_n 2, 1) := by decide +kernel
theorem dX0_tryFrom_21 : decode cX0_tryFrom 21 = .ok (.aload_n 0, 1) := by decide +kernel
theorem dX0_tryFrom_22 : decode cX0_tryFrom 22 = .ok (.getfield 27, 3) := by decide +kernel
theorem dX0_tryFrom_25 : decode cX0_tryFrom 25 = .ok (.if_icmp .le 26, 3) := by decide +kernel
theorem dX0_tryFrom_28 : decode cX0_tryFrom 28 = .ok (.aload_n 0, 1) := by decide +kernel
theorem dX0_tryFrom_29 : decode cX0_tryFrom 29 = .ok (.iload_n 2, 1) := by decide +kernel
theorem dX0_tryFrom_30 : decode cX0_tryFrom 30 = .ok (.putfield 27, 3) := by decide +kernel
theorem dX0_tryFrom_33 : decode cX0_tryFrom 33 = .ok (.aload_n 0, 1) := by decide +kernel
theorem dX0_tryFrom_34 : decode cX0_tryFrom 34 = .ok (.getfield 21, 3) := by decide +kernel
theorem dX0_tryFrom_37 : decode cX0_tryFrom 37 = .ok (.iconst 0, 1) := by decide +kernel
theorem dX0_tryFrom_38 : decode cX0_tryFrom 38 = .ok (.aload_n 0, 1) := by decide +kernel
theorem dX0_tryFrom_39 : decode cX0_tryFrom 39 = .ok (.getfield 24, 3) := by decide +kernel
theorem dX0_tryFrom_42 : decode cX0_tryFrom 42 = .ok (.iconst 0, 1) := by decide +kernel
theorem dX0_tryFrom_43 : decode cX0_tryFrom 43 = .ok (.aload_n 0, 1) := by decide +kernel
theorem dX0_tryFrom_44 : decode cX0_tryFrom 44 = .ok (.getfield 24, 3) := by decide +kernel
theorem dX0_tryFrom_47 : decode cX0_tryFrom 47 = .ok (.arraylength, 1) := by decide +kernel
theorem dX0_tryFrom_48 : decode cX0_tryFrom 48 = .ok (.invokestatic 48, 3) := by decide +kernel
theorem dX0_tryFrom_51 : decode cX0_tryFrom 51 = .ok (.return_, 1) := by decide +kernel
theorem dX0_tryFrom_52 : decode cX0_tryFrom 52 = .ok (.iconst 0, 1) := by decide +kernel
theorem dX0_tryFrom_53 : decode cX0_tryFrom 53 = .ok (.istore 4, 2) := by decide +kernel
theorem dX0_tryFrom_55 : decode cX0_tryFrom 55 = .ok (.iload 4, 2) := by decide +kernel
theorem dX0_tryFrom_57 : decode cX0_tryFrom 57 = .ok (.aload_n 0, 1) := by decide +kernel
theorem dX0_tryFrom_58 : decode cX0_tryFrom 58 = .ok (.getfield 31, 3) := by decide +kernel
theorem dX0_tryFrom_61 : decode cX0_tryFrom 61 = .ok (.getfield 97, 3) := by decide +kernel
theorem dX0_tryFrom_64 : decode cX0_tryFrom 64 = .ok (.if_icmp .ge 67, 3) := by decide +kernel
theorem dX0_tryFrom_67 : decode cX0_tryFrom 67 = .ok (.iload_n 3, 1) := by decide +kernel
theorem dX0_tryFrom_68 : decode cX0_tryFrom 68 = .ok (.iload 4, 2) := by decide +kernel
theorem dX0_tryFrom_70 : decode cX0_tryFrom 70 = .ok (.ishr, 1) := by decide +kernel
theorem dX0_tryFrom_71 : decode cX0_tryFrom 71 = .ok (.iconst 1, 1) := by decide +kernel
theorem dX0_tryFrom_72 : decode cX0_tryFrom 72 = .ok (.iand, 1) := by decide +kernel
theorem dX0_tryFrom_73 : decode cX0_tryFrom 73 = .ok (.ifCond .ne 16, 3) := by decide +kernel
theorem dX0_tryFrom_76 : decode cX0_tryFrom 76 = .ok (.aload_n 0, 1) := by decide +kernel
theorem dX0_tryFrom_77 : decode cX0_tryFrom 77 = .ok (.getfield 31, 3) := by decide +kernel
theorem dX0_tryFrom_80 : decode cX0_tryFrom 80 = .ok (.getfield 59, 3) := by decide +kernel
theorem dX0_tryFrom_83 : decode cX0_tryFrom 83 = .ok (.iload 4, 2) := by decide +kernel
theorem dX0_tryFrom_85 : decode cX0_tryFrom 85 = .ok (.iaload, 1) := by decide +kernel
theorem dX0_tryFrom_86 : decode cX0_tryFrom 86 = .ok (.goto 4, 3) := by decide +kernel
theorem dX0_tryFrom_89 : decode cX0_tryFrom 89 = .ok (.iconst 0, 1) := by decide +kernel
theorem dX0_tryFrom_90 : decode cX0_tryFrom 90 = .ok (.istore 5, 2) := by decide +kernel
theorem dX0_tryFrom_92 : decode cX0_tryFrom 92 = .ok (.aload_n 0, 1) := by decide +kernel
theorem dX0_tryFrom_93 : decode cX0_tryFrom 93 = .ok (.getfield 21, 3) := by decide +kernel
theorem dX0_tryFrom_96 : decode cX0_tryFrom 96 = .ok (.iload_n 1, 1) := by decide +kernel
theorem dX0_tryFrom_97 : decode cX0_tryFrom 97 = .ok (.iload 4, 2) := by decide +kernel
theorem dX0_tryFrom_99 : decode cX0_tryFrom 99 = .ok (.iastore, 1) := by decide +kernel
theorem dX0_tryFrom_100 : decode cX0_tryFrom 100 = .ok (.aload_n 0, 1) := by decide +kernel
theorem dX0_tryFrom_101 : decode cX0_tryFrom 101 = .ok (.iload_n 1, 1) := by decide +kernel
theorem dX0_tryFrom_102 : decode cX0_tryFrom 102 = .ok (.iconst 1, 1) := by decide +kernel
theorem dX0_tryFrom_103 : decode cX0_tryFrom 103 = .ok (.iadd, 1) := by decide +kernel
theorem dX0_tryFrom_104 : decode cX0_tryFrom 104 = .ok (.iload_n 2, 1) := by decide +kernel
theorem dX0_tryFrom_105 : decode cX0_tryFrom 105 = .ok (.aload_n 0, 1) := by decide +kernel
theorem dX0_tryFrom_106 : decode cX0_tryFrom 106 = .ok (.iload_n 1, 1) := by decide +kernel
theorem dX0_tryFrom_107 : decode cX0_tryFrom 107 = .ok (.iload 4, 2) := by decide +kernel
theorem dX0_tryFrom_109 : decode cX0_tryFrom 109 = .ok (.invokevirtual 114, 3) := by decide +kernel
theorem dX0_tryFrom_112 : decode cX0_tryFrom 112 = .ok (.iadd, 1) := by decide +kernel
theorem dX0_tryFrom_113 : decode cX0_tryFrom 113 = .ok (.iload 5, 2) := by decide +kernel
theorem dX0_tryFrom_115 : decode cX0_tryFrom 115 = .ok (.isub, 1) := by decide +kernel
theorem dX0_tryFrom_116 : decode cX0_tryFrom 116 = .ok (.iload_n 3, 1) := by decide +kernel
theorem dX0_tryFrom_117 : decode cX0_tryFrom 117 = .ok (.iconst 1, 1) := by decide +kernel
theorem dX0_tryFrom_118 : decode cX0_tryFrom 118 = .ok (.iload 4, 2) := by decide +kernel
theorem dX0_tryFrom_120 : decode cX0_tryFrom 120 = .ok (.ishl, 1) := by decide +kernel
theorem dX0_tryFrom_121 : decode cX0_tryFrom 121 = .ok (.ior, 1) := by decide +kernel
theorem dX0_tryFrom_122 : decode cX0_tryFrom 122 = .ok (.invokevirtual 84, 3) := by decide +kernel
theorem dX0_tryFrom_125 : decode cX0_tryFrom 125 = .ok (.iinc 4 1, 3) := by decide +kernel
theorem dX0_tryFrom_128 : decode cX0_tryFrom 128 = .ok (.goto (-73), 3) := by decide +kernel
theorem dX0_tryFrom_131 : decode cX0_tryFrom 131 = .ok (.return_, 1) := by decide +kernel
theorem dX0_worthOfNext_0 : decode cX0_worthOfNext 0 = .ok (.aload_n 0, 1) := by decide +kernel
theorem dX0_worthOfNext_1 : decode cX0_worthOfNext 1 = .ok (.getfield 15, 3) := by decide +kernel
theorem dX0_worthOfNext_4 : decode cX0_worthOfNext 4 = .ok (.iload_n 1, 1) := by decide +kernel
theorem dX0_worthOfNext_5 : decode cX0_worthOfNext 5 = .ok (.iconst 4, 1) := by decide +kernel
theorem dX0_worthOfNext_6 : decode cX0_worthOfNext 6 = .ok (.imul, 1) := by decide +kernel
theorem dX0_worthOfNext_7 : decode cX0_worthOfNext 7 = .ok (.iload_n 2, 1) := by decide +kernel
theorem dX0_worthOfNext_8 : decode cX0_worthOfNext 8 = .ok (.iadd, 1) := by decide +kernel
theorem dX0_worthOfNext_9 : decode cX0_worthOfNext 9 = .ok (.iaload, 1) := by decide +kernel
theorem dX0_worthOfNext_10 : decode cX0_worthOfNext 10 = .ok (.istore_n 3, 1) := by decide +kernel
theorem dX0_worthOfNext_11 : decode cX0_worthOfNext 11 = .ok (.iconst 0, 1) := by decide +kernel
theorem dX0_worthOfNext_12 : decode cX0_worthOfNext 12 = .ok (.istore 4, 2) := by decide +kernel
theorem dX0_worthOfNext_14 : decode cX0_worthOfNext 14 = .ok (.iload 4, 2) := by decide +kernel
theorem dX0_worthOfNext_16 : decode cX0_worthOfNext 16 = .ok (.iload_n 1, 1) := by decide +kernel
theorem dX0_worthOfNext_17 : decode cX0_worthOfNext 17 = .ok (.if_icmp .ge 35, 3) := by decide +kernel
theorem dX0_worthOfNext_20 : decode cX0_worthOfNext 20 = .ok (.aload_n 0, 1) := by decide +kernel
theorem dX0_worthOfNext_21 : decode cX0_worthOfNext 21 = .ok (.getfield 21, 3) := by decide +kernel
theorem dX0_worthOfNext_24 : decode cX0_worthOfNext 24 = .ok (.iload 4, 2) := by decide +kernel
theorem dX0_worthOfNext_26 : decode cX0_worthOfNext 26 = .ok (.iaload, 1) := by decide +kernel
theorem dX0_worthOfNext_27 : decode cX0_worthOfNext 27 = .ok (.iload_n 2, 1) := by decide +kernel
theorem dX0_worthOfNext_28 : decode cX0_worthOfNext 28 = .ok (.if_icmp .ne 18, 3) := by decide +kernel
theorem dX0_worthOfNext_31 : decode cX0_worthOfNext 31 = .ok (.iload_n 3, 1) := by decide +kernel
theorem dX0_worthOfNext_32 : decode cX0_worthOfNext 32 = .ok (.aload_n 0, 1) := by decide +kernel
theorem dX0_worthOfNext_33 : decode cX0_worthOfNext 33 = .ok (.getfield 18, 3) := by decide +kernel
theorem dX0_worthOfNext_36 : decode cX0_worthOfNext 36 = .ok (.iload_n 1, 1) := by decide +kernel
theorem dX0_worthOfNext_37 : decode cX0_worthOfNext 37 = .ok (.bipush 7, 2) := by decide +kernel
theorem dX0_worthOfNext_39 : decode cX0_worthOfNext 39 = .ok (.imul, 1) := by decide +kernel
theorem dX0_worthOfNext_40 : decode cX0_worthOfNext 40 = .ok (.iload 4, 2) := by decide +kernel
theorem dX0_worthOfNext_42 : decode cX0_worthOfNext 42 = .ok (.iadd, 1) := by decide +kernel
theorem dX0_worthOfNext_43 : decode cX0_worthOfNext 43 = .ok (.iaload, 1) := by decide +kernel
theorem dX0_worthOfNext_44 : decode cX0_worthOfNext 44 = .ok (.iadd, 1) := by decide +kernel
theorem dX0_worthOfNext_45 : decode cX0_worthOfNext 45 = .ok (.istore_n 3, 1) := by decide +kernel
theorem dX0_worthOfNext_46 : decode cX0_worthOfNext 46 = .ok (.iinc 4 1, 3) := by decide +kernel
theorem dX0_worthOfNext_49 : decode cX0_worthOfNext 49 = .ok (.goto (-35), 3) := by decide +kernel
theorem dX0_worthOfNext_52 : decode cX0_worthOfNext 52 = .ok (.iload_n 3, 1) := by decide +kernel
theorem dX0_worthOfNext_53 : decode cX0_worthOfNext 53 = .ok (.ireturn, 1) := by decide +kernel
theorem dX1_init_0 : decode cX1_init 0 = .ok (.aload_n 0, 1) := by decide +kernel
theorem dX1_init_1 : decode cX1_init 1 = .ok (.invokespecial 3, 3) := by decide +kernel
theorem dX1_init_4 : decode cX1_init 4 = .ok (.aload_n 0, 1) := by decide +kernel
theorem dX1_init_5 : decode cX1_init 5 = .ok (.iconst 0, 1) := by decide +kernel
theorem dX1_init_6 : decode cX1_init 6 = .ok (.putfield 9, 3) := by decide +kernel
theorem dX1_init_9 : decode cX1_init 9 = .ok (.aload_n 0, 1) := by decide +kernel
theorem dX1_init_10 : decode cX1_init 10 = .ok (.bipush 112, 2) := by decide +kernel
theorem dX1_init_12 : decode cX1_init 12 = .ok (.newarray .int, 2) := by decide +kernel
theorem dX1_init_14 : decode cX1_init 14 = .ok (.putfield 15, 3) := by decide +kernel
theorem dX1_init_17 : decode cX1_init 17 = .ok (.aload_n 0, 1) := by decide +kernel
theorem dX1_init_18 : decode cX1_init 18 = .ok (.bipush 16, 2) := by decide +kernel
theorem dX1_init_20 : decode cX1_init 20 = .ok (.newarray .int, 2) := by decide +kernel
theorem dX1_init_22 : decode cX1_init 22 = .ok (.putfield 19, 3) := by decide +kernel
theorem dX1_init_25 : decode cX1_init 25 = .ok (.return_, 1) := by decide +kernel
theorem dX1_clear_0 : decode cX1_clear 0 = .ok (.aload_n 0, 1) := by decide +kernel
theorem dX1_clear_1 : decode cX1_clear 1 = .ok (.iconst 0, 1) := by decide +kernel
theorem dX1_clear_2 : decode cX1_clear 2 = .ok (.putfield 9, 3) := by decide +kernel
theorem dX1_clear_5 : decode cX1_clear 5 = .ok (.aload_n 0, 1) := by decide +kernel
theorem dX1_clear_6 : decode cX1_clear 6 = .ok (.getfield 15, 3) := by decide +kernel
theorem dX1_clear_9 : decode cX1_clear 9 = .ok (.iconst 0, 1) := by decide +kernel
theorem dX1_clear_10 : decode cX1_clear 10 = .ok (.invokestatic 22, 3) := by decide +kernel
theorem dX1_clear_13 : decode cX1_clear 13 = .ok (.return_, 1) := by decide +kernel
theorem dX1_copyFrom_0 : decode cX1_copyFrom 0 = .ok (.aload_n 0, 1) := by decide +kernel
theorem dX1_copyFrom_1 : decode cX1_copyFrom 1 = .ok (.aload_n 1, 1) := by decide +kernel
theorem dX1_copyFrom_2 : decode cX1_copyFrom 2 = .ok (.getfield 9, 3) := by decide +kernel
theorem dX1_copyFrom_5 : decode cX1_copyFrom 5 = .ok (.putfield 9, 3) := by decide +kernel
theorem dX1_copyFrom_8 : decode cX1_copyFrom 8 = .ok (.aload_n 1, 1) := by decide +kernel
theorem dX1_copyFrom_9 : decode cX1_copyFrom 9 = .ok (.getfield 15, 3) := by decide +kernel
theorem dX1_copyFrom_12 : decode cX1_copyFrom 12 = .ok (.iconst 0, 1) := by decide +kernel
theorem dX1_copyFrom_13 : decode cX1_copyFrom 13 = .ok (.aload_n 0, 1) := by decide +kernel
theorem dX1_copyFrom_14 : decode cX1_copyFrom 14 = .ok (.getfield 15, 3) := by decide +kernel
theorem dX1_copyFrom_17 : decode cX1_copyFrom 17 = .ok (.iconst 0, 1) := by decide +kernel
theorem dX1_copyFrom_18 : decode cX1_copyFrom 18 = .ok (.aload_n 0, 1) := by decide +kernel
theorem dX1_copyFrom_19 : decode cX1_copyFrom 19 = .ok (.getfield 15, 3) := by decide +kernel
theorem dX1_copyFrom_22 : decode cX1_copyFrom 22 = .ok (.arraylength, 1) := by decide +kernel
theorem dX1_copyFrom_23 : decode cX1_copyFrom 23 = .ok (.invokestatic 28, 3) := by decide +kernel
theorem dX1_copyFrom_26 : decode cX1_copyFrom 26 = .ok (.return_, 1) := by decide +kernel
theorem dX1_add_0 : decode cX1_add 0 = .ok (.aload_n 0, 1) := by decide +kernel
theorem dX1_add_1 : decode cX1_add 1 = .ok (.getfield 9, 3) := by decide +kernel
theorem dX1_add_4 : decode cX1_add 4 = .ok (.bipush 40, 2) := by decide +kernel
theorem dX1_add_6 : decode cX1_add 6 = .ok (.if_icmp .lt 5, 3) := by decide +kernel
theorem dX1_add_9 : decode cX1_add 9 = .ok (.iconst 0, 1) := by decide +kernel
theorem dX1_add_10 : decode cX1_add 10 = .ok (.ireturn, 1) := by decide +kernel
theorem dX1_add_11 : decode cX1_add 11 = .ok (.aload_n 0, 1) := by decide +kernel
theorem dX1_add_12 : decode cX1_add 12 = .ok (.getfield 15, 3) := by decide +kernel
theorem dX1_add_15 : decode cX1_add 15 = .ok (.iload_n 1, 1) := by decide +kernel
theorem dX1_add_16 : decode cX1_add 16 = .ok (.iconst 4, 1) := by decide +kernel
theorem dX1_add_17 : decode cX1_add 17 = .ok (.imul, 1) := by decide +kernel
theorem dX1_add_18 : decode cX1_add 18 = .ok (.iload_n 2, 1) := by decide +kernel
theorem dX1_add_19 : decode cX1_add 19 = .ok (.iadd, 1) := by decide +kernel
theorem dX1_add_20 : decode cX1_add 20 = .ok (.iconst 4, 1) := by decide +kernel
theorem dX1_add_21 : decode cX1_add 21 = .ok (.imul, 1) := by decide +kernel
theorem dX1_add_22 : decode cX1_add 22 = .ok (.iload_n 3, 1) := by decide +kernel
theorem dX1_add_23 : decode cX1_add 23 = .ok (.iadd, 1) := by decide +kernel
theorem dX1_add_24 : decode cX1_add 24 = .ok (.iconst 1, 1) := by decide +kernel
theorem dX1_add_25 : decode cX1_add 25 = .ok (.iastore, 1) := by decide +kernel
theorem dX1_add_26 : decode cX1_add 26 = .ok (.aload_n 0, 1) := by decide +kernel
theorem dX1_add_27 : decode cX1_add 27 = .ok (.dup, 1) := by decide +kernel
theorem dX1_add_28 : decode cX1_add 28 = .ok (.getfield 9, 3) := by decide +kernel
theorem dX1_add_31 : decode cX1_add 31 = .ok (.iconst 1, 1) := by decide +kernel
theorem dX1_add_32 : decode cX1_add 32 = .ok (.iadd, 1) := by decide +kernel
theorem dX1_add_33 : decode cX1_add 33 = .ok (.putfield 9, 3) := by decide +kernel
theorem dX1_add_36 : decode cX1_add 36 = .ok (.iconst 1, 1) := by decide +kernel
theorem dX1_add_37 : decode cX1_add 37 = .ok (.ireturn, 1) := by decide +kernel
theorem dX1_follow_0 : decode cX1_follow 0 = .ok (.aload_n 0, 1) := by decide +kernel
theorem dX1_follow_1 : decode cX1_follow 1 = .ok (.getfield 15, 3) := by decide +kernel
theorem dX1_follow_4 : decode cX1_follow 4 = .ok (.iload_n 1, 1) := by decide +kernel
theorem dX1_follow_5 : decode cX1_follow 5 = .ok (.aload_n 0, 1) := by decide +kernel
theorem dX1_follow_6 : decode cX1_follow 6 = .ok (.getfield 19, 3) := by decide +kernel
theorem dX1_follow_9 : decode cX1_follow 9 = .ok (.arraylength, 1) := by decide +kernel
theorem dX1_follow_10 : decode cX1_follow 10 = .ok (.imul, 1) := by decide +kernel
theorem dX1_follow_11 : decode cX1_follow 11 = .ok (.aload_n 0, 1) := by decide +kernel
theorem dX1_follow_12 : decode cX1_follow 12 = .ok (.getfield 19, 3) := by decide +kernel
theorem dX1_follow_15 : decode cX1_follow 15 = .ok (.iconst 0, 1) := by decide +kernel
theorem dX1_follow_16 : decode cX1_follow 16 = .ok (.aload_n 0, 1) := by decide +kernel
theorem dX1_follow_17 : decode cX1_follow 17 = .ok (.getfield 19, 3) := by decide +kernel
theorem dX1_follow_20 : decode cX1_follow 20 = .ok (.arraylength, 1) := by decide +kernel
theorem dX1_follow_21 : decode cX1_follow 21 = .ok (.invokestatic 28, 3) := by decide +kernel
theorem dX1_follow_24 : decode cX1_follow 24 = .ok (.iconst 0, 1) := by decide +kernel
theorem dX1_follow_25 : decode cX1_follow 25 = .ok (.istore_n 2, 1) := by decide +kernel
theorem dX1_follow_26 : decode cX1_follow 26 = .ok (.iload_n 2, 1) := by decide +kernel
theorem dX1_follow_27 : decode cX1_follow 27 = .ok (.iconst 4, 1) := by decide +kernel
theorem dX1_follow_28 : decode cX1_follow 28 = .ok (.if_icmp .ge 68, 3) := by decide +kernel
theorem dX1_follow_31 : decode cX1_follow 31 = .ok (.iconst 0, 1) := by decide +kernel
theorem dX1_follow_32 : decode cX1_follow 32 = .ok (.istore_n 3, 1) := by decide +kernel
theorem dX1_follow_33 : decode cX1_follow 33 = .ok (.iload_n 3, 1) := by decide +kernel
theorem dX1_follow_34 : decode cX1_follow 34 = .ok (.iconst 4, 1) := by decide +kernel
theorem dX1_follow_35 : decode cX1_follow 35 = .ok (.if_icmp .ge 55, 3) := by decide +kernel
theorem dX1_follow_38 : decode cX1_follow 38 = .ok (.iconst 0, 1) := by decide +kernel
theorem dX1_follow_39 : decode cX1_follow 39 = .ok (.istore 4, 2) := by decide +kernel
theorem dX1_follow_41 : decode cX1_follow 41 = .ok (.iload 4, 2) := by decide +kernel
theorem dX1_follow_43 : decode cX1_follow 43 = .ok (.iconst 4, 1) := by decide +kernel
theorem dX1_follow_44 : decode cX1_follow 44 = .ok (.if_icmp .ge 40, 3) := by decide +kernel
theorem dX1_follow_47 : decode cX1_follow 47 = .ok (.aload_n 0, 1) := by decide +kernel
theorem dX1_follow_48 : decode cX1_follow 48 = .ok (.iload_n 3, 1) := by decide +kernel
theorem dX1_follow_49 : decode cX1_follow 49 = .ok (.iload_n 2, 1) := by decide +kernel
theorem dX1_follow_50 : decode cX1_follow 50 = .ok (.invokevirtual 34, 3) := by decide +kernel
theorem dX1_follow_53 : decode cX1_follow 53 = .ok (.ifCond .eq 25, 3) := by decide +kernel
theorem dX1_follow_56 : decode cX1_follow 56 = .ok (.aload_n 0, 1) := by decide +kernel
theorem dX1_follow_57 : decode cX1_follow 57 = .ok (.iload_n 2, 1) := by decide +kernel
theorem dX1_follow_58 : decode cX1_follow 58 = .ok (.iload 4, 2) := by decide +kernel
theorem dX1_follow_60 : decode cX1_follow 60 = .ok (.invokevirtual 34, 3) := by decide +kernel
theorem dX1_follow_63 : decode cX1_follow 63 = .ok (.ifCond .eq 15, 3) := by decide +kernel
theorem dX1_follow_66 : decode cX1_follow 66 = .ok (.aload_n 0, 1) := by decide +kernel
theorem dX1_follow_67 : decode cX1_follow 67 = .ok (.getfield 19, 3) := by decide +kernel
theorem dX1_follow_70 : decode cX1_follow 70 = .ok (.iload_n 3, 1) := by decide +kernel
theorem dX1_follow_71 : decode cX1_follow 71 = .ok (.iconst 4, 1) := by decide +kernel
theorem dX1_follow_72 : decode cX1_follow 72 = .ok (.imul, 1) := by decide +kernel
theorem dX1_follow_73 : decode cX1_follow 73 = .ok (.iload 4, 2) := by decide +kernel
theorem dX1_follow_75 : decode cX1_follow 75 = .ok (.iadd, 1) := by decide +kernel
theorem dX1_follow_76 : decode cX1_follow 76 = .ok (.iconst 1, 1) := by decide +kernel
theorem dX1_follow_77 : decode cX1_follow 77 = .ok (.iastore, 1) := by decide +kernel
theorem dX1_follow_78 : decode cX1_follow 78 = .ok (.iinc 4 1, 3) := by decide +kernel
theorem dX1_follow_81 : decode cX1_follow 81 = .ok (.goto (-40), 3) := by decide +kernel
theorem dX1_follow_84 : decode cX1_follow 84 = .ok (.iinc 3 1, 3) := by decide +kernel
theorem dX1_follow_87 : decode cX1_follow 87 = .ok (.goto (-54), 3) := by decide +kernel
theorem dX1_follow_90 : decode cX1_follow 90 = .ok (.iinc 2 1, 3) := by decide +kernel
theorem dX1_follow_93 : decode cX1_follow 93 = .ok (.goto (-67), 3) := by decide +kernel
theorem dX1_follow_96 : decode cX1_follow 96 = .ok (.return_, 1) := by decide +kernel
theorem dX1_isAbove_0 : decode cX1_isAbove 0 = .ok (.aload_n 0, 1) := by decide +kernel
theorem dX1_isAbove_1 : decode cX1_isAbove 1 = .ok (.getfield 19, 3) := by decide +kernel
theorem dX1_isAbove_4 : decode cX1_isAbove 4 = .ok (.iload_n 1, 1) := by decide +kernel
theorem dX1_isAbove_5 : decode cX1_isAbove 5 = .ok (.iconst 4, 1) := by decide +kernel
theorem dX1_isAbove_6 : decode cX1_isAbove 6 = .ok (.imul, 1) := by decide +kernel
theorem dX1_isAbove_7 : decode cX1_isAbove 7 = .ok (.iload_n 2, 1) := by decide +kernel
theorem dX1_isAbove_8 : decode cX1_isAbove 8 = .ok (.iadd, 1) := by decide +kernel
theorem dX1_isAbove_9 : decode cX1_isAbove 9 = .ok (.iaload, 1) := by decide +kernel
theorem dX1_isAbove_10 : decode cX1_isAbove 10 = .ok (.iconst 1, 1) := by decide +kernel
theorem dX1_isAbove_11 : decode cX1_isAbove 11 = .ok (.if_icmp .ne 7, 3) := by decide +kernel
theorem dX1_isAbove_14 : decode cX1_isAbove 14 = .ok (.iconst 1, 1) := by decide +kernel
theorem dX1_isAbove_15 : decode cX1_isAbove 15 = .ok (.goto 4, 3) := by decide +kernel
theorem dX1_isAbove_18 : decode cX1_isAbove 18 = .ok (.iconst 0, 1) := by decide +kernel
theorem dX1_isAbove_19 : decode cX1_isAbove 19 = .ok (.ireturn, 1) := by decide +kernel
theorem dX1_isTorn_0 : decode cX1_isTorn 0 = .ok (.iconst 0, 1) := by decide +kernel
theorem dX1_isTorn_1 : decode cX1_isTorn 1 = .ok (.istore_n 1, 1) := by decide +kernel
theorem dX1_isTorn_2 : decode cX1_isTorn 2 = .ok (.iload_n 1, 1) := by decide +kernel
theorem dX1_isTorn_3 : decode cX1_isTorn 3 = .ok (.iconst 4, 1) := by decide +kernel
theorem dX1_isTorn_4 : decode cX1_isTorn 4 = .ok (.if_icmp .ge 20, 3) := by decide +kernel
theorem dX1_isTorn_7 : decode cX1_isTorn 7 = .ok (.aload_n 0, 1) := by decide +kernel
theorem dX1_isTorn_8 : decode cX1_isTorn 8 = .ok (.iload_n 1, 1) := by decide +kernel
theorem dX1_isTorn_9 : decode cX1_isTorn 9 = .ok (.iload_n 1, 1) := by decide +kernel
theorem dX1_isTorn_10 : decode cX1_isTorn 10 = .ok (.invokevirtual 34, 3) := by decide +kernel
theorem dX1_isTorn_13 : decode cX1_isTorn 13 = .ok (.ifCond .eq 5, 3) := by decide +kernel
theorem dX1_isTorn_16 : decode cX1_isTorn 16 = .ok (.iconst 1, 1) := by decide +kernel
theorem dX1_isTorn_17 : decode cX1_isTorn 17 = .ok (.ireturn, 1) := by decide +kernel
theorem dX1_isTorn_18 : decode cX1_isTorn 18 = .ok (.iinc 1 1, 3) := by decide +kernel
theorem dX1_isTorn_21 : decode cX1_isTorn 21 = .ok (.goto (-19), 3) := by decide +kernel
theorem dX1_isTorn_24 : decode cX1_isTorn 24 = .ok (.iconst 0, 1) := by decide +kernel
theorem dX1_isTorn_25 : decode cX1_isTorn 25 = .ok (.ireturn, 1) := by decide +kernel
theorem dX2_init_0 : decode cX2_init 0 = .ok (.aload_n 0, 1) := by decide +kernel
theorem dX2_init_1 : decode cX2_init 1 = .ok (.invokespecial 3, 3) := by decide +kernel
theorem dX2_init_4 : decode cX2_init 4 = .ok (.aload_n 0, 1) := by decide +kernel
theorem dX2_init_5 : decode cX2_init 5 = .ok (.bipush 7, 2) := by decide +kernel
theorem dX2_init_7 : decode cX2_init 7 = .ok (.newarray .int, 2) := by decide +kernel
theorem dX2_init_9 : decode cX2_init 9 = .ok (.putfield 9, 3) := by decide +kernel
theorem dX2_init_12 : decode cX2_init 12 = .ok (.aload_n 0, 1) := by decide +kernel
theorem dX2_init_13 : decode cX2_init 13 = .ok (.iconst (-1), 1) := by decide +kernel
theorem dX2_init_14 : decode cX2_init 14 = .ok (.putfield 15, 3) := by decide +kernel
theorem dX2_init_17 : decode cX2_init 17 = .ok (.aload_n 0, 1) := by decide +kernel
theorem dX2_init_18 : decode cX2_init 18 = .ok (.iconst 0, 1) := by decide +kernel
theorem dX2_init_19 : decode cX2_init 19 = .ok (.putfield 19, 3) := by decide +kernel
theorem dX2_init_22 : decode cX2_init 22 = .ok (.aload_n 0, 1) := by decide +kernel
theorem dX2_init_23 : decode cX2_init 23 = .ok (.bipush 28, 2) := by decide +kernel
theorem dX2_init_25 : decode cX2_init 25 = .ok (.newarray .int, 2) := by decide +kernel
theorem dX2_init_27 : decode cX2_init 27 = .ok (.putfield 22, 3) := by decide +kernel
theorem dX2_init_30 : decode cX2_init 30 = .ok (.aload_n 0, 1) := by decide +kernel
theorem dX2_init_31 : decode cX2_init 31 = .ok (.bipush 6, 2) := by decide +kernel
theorem dX2_init_33 : decode cX2_init 33 = .ok (.newarray .int, 2) := by decide +kernel
theorem dX2_init_35 : decode cX2_init 35 = .ok (.putfield 25, 3) := by decide +kernel
theorem dX2_init_38 : decode cX2_init 38 = .ok (.aload_n 0, 1) := by decide +kernel
theorem dX2_init_39 : decode cX2_init 39 = .ok (.bipush 32, 2) := by decide +kernel
theorem dX2_init_41 : decode cX2_init 41 = .ok (.newarray .int, 2) := by decide +kernel
theorem dX2_init_43 : decode cX2_init 43 = .ok (.putfield 28, 3) := by decide +kernel
theorem dX2_init_46 : decode cX2_init 46 = .ok (.aload_n 0, 1) := by decide +kernel
theorem dX2_init_47 : decode cX2_init 47 = .ok (.aload_n 1, 1) := by decide +kernel
theorem dX2_init_48 : decode cX2_init 48 = .ok (.putfield 31, 3) := by decide +kernel
theorem dX2_init_51 : decode cX2_init 51 = .ok (.aload_n 0, 1) := by decide +kernel
theorem dX2_init_52 : decode cX2_init 52 = .ok (.aload_n 2, 1) := by decide +kernel
theorem dX2_init_53 : decode cX2_init 53 = .ok (.putfield 35, 3) := by decide +kernel
theorem dX2_init_56 : decode cX2_init 56 = .ok (.return_, 1) := by decide +kernel
theorem dX2_decide_0 : decode cX2_decide 0 = .ok (.aload_n 0, 1) := by decide +kernel
theorem dX2_decide_1 : decode cX2_decide 1 = .ok (.getfield 35, 3) := by decide +kernel
theorem dX2_decide_4 : decode cX2_decide 4 = .ok (.invokevirtual 39, 3) := by decide +kernel
theorem dX2_decide_7 : decode cX2_decide 7 = .ok (.iconst 0, 1) := by decide +kernel
theorem dX2_decide_8 : decode cX2_decide 8 = .ok (.istore_n 2, 1) := by decide +kernel
theorem dX2_decide_9 : decode cX2_decide 9 = .ok (.iload_n 2, 1) := by decide +kernel
theorem dX2_decide_10 : decode cX2_decide 10 = .ok (.aload_n 0, 1) := by decide +kernel
theorem dX2_decide_11 : decode cX2_decide 11 = .ok (.getfield 31, 3) := by decide +kernel
theorem dX2_decide_14 : decode cX2_decide 14 = .ok (.getfield 44, 3) := by decide +kernel
theorem dX2_decide_17 : decode cX2_decide 17 = .ok (.if_icmp .ge 21, 3) := by decide +kernel
theorem dX2_decide_20 : decode cX2_decide 20 = .ok (.aload_n 0, 1) := by decide +kernel
theorem dX2_decide_21 : decode cX2_decide 21 = .ok (.getfield 9, 3) := by decide +kernel
theorem dX2_decide_24 : decode cX2_decide 24 = .ok (.iload_n 2, 1) := by decide +kernel
theorem dX2_decide_25 : decode cX2_decide 25 = .ok (.aload_n 0, 1) := by decide +kernel
theorem dX2_decide_26 : decode cX2_decide 26 = .ok (.aload_n 1, 1) := by decide +kernel
theorem dX2_decide_27 : decode cX2_decide 27 = .ok (.iload_n 2, 1) := by decide +kernel
theorem dX2_decide_28 : decode cX2_decide 28 = .ok (.invokevirtual 49, 3) := by decide +kernel
theorem dX2_decide_31 : decode cX2_decide 31 = .ok (.iastore, 1) := by decide +kernel
theorem dX2_decide_32 : decode cX2_decide 32 = .ok (.iinc 2 1, 3) := by decide +kernel
theorem dX2_decide_35 : decode cX2_decide 35 = .ok (.goto (-26), 3) := by decide +kernel
theorem dX2_decide_38 : decode cX2_decide 38 = .ok (.return_, 1) := by decide +kernel
theorem dX2_weighSayings_0 : decode cX2_weighSayings 0 = .ok (.aload_n 0, 1) := by decide +kernel
theorem dX2_weighSayings_1 : decode cX2_weighSayings 1 = .ok (.aload_n 0, 1) := by decide +kernel
theorem dX2_weighSayings_2 : decode cX2_weighSayings 2 = .ok (.getfield 31, 3) := by decide +kernel
theorem dX2_weighSayings_5 : decode cX2_weighSayings 5 = .ok (.getfield 53, 3) := by decide +kernel
theorem dX2_weighSayings_8 : decode cX2_weighSayings 8 = .ok (.invokevirtual 56, 3) := by decide +kernel
theorem dX2_weighSayings_11 : decode cX2_weighSayings 11 = .ok (.aload_n 0, 1) := by decide +kernel
theorem dX2_weighSayings_12 : decode cX2_weighSayings 12 = .ok (.getfield 35, 3) := by decide +kernel
theorem dX2_weighSayings_15 : decode cX2_weighSayings 15 = .ok (.iload_n 1, 1) := by decide +kernel
theorem dX2_weighSayings_16 : decode cX2_weighSayings 16 = .ok (.aload_n 0, 1) := by decide +kernel
theorem dX2_weighSayings_17 : decode cX2_weighSayings 17 = .ok (.getfield 9, 3) := by decide +kernel
theorem dX2_weighSayings_20 : decode cX2_weighSayings 20 = .ok (.invokevirtual 60, 3) := by decide +kernel
theorem dX2_weighSayings_23 : decode cX2_weighSayings 23 = .ok (.istore_n 2, 1) := by decide +kernel
theorem dX2_weighSayings_24 : decode cX2_weighSayings 24 = .ok (.aload_n 0, 1) := by decide +kernel
theorem dX2_weighSayings_25 : decode cX2_weighSayings 25 = .ok (.iconst (-1), 1) := by decide +kernel
theorem dX2_weighSayings_26 : decode cX2_weighSayings 26 = .ok (.putfield 15, 3) := by decide +kernel
theorem dX2_weighSayings_29 : decode cX2_weighSayings 29 = .ok (.aload_n 0, 1) := by decide +kernel
theorem dX2_weighSayings_30 : decode cX2_weighSayings 30 = .ok (.iconst 0, 1) := by decide +kernel
theorem dX2_weighSayings_31 : decode cX2_weighSayings 31 = .ok (.putfield 19, 3) := by decide +kernel
theorem dX2_weighSayings_34 : decode cX2_weighSayings 34 = .ok (.iconst 0, 1) := by decide +kernel
theorem dX2_weighSayings_35 : decode cX2_weighSayings 35 = .ok (.istore_n 3, 1) := by decide +kernel
theorem dX2_weighSayings_36 : decode cX2_weighSayings 36 = .ok (.iload_n 3, 1) := by decide +kernel
theorem dX2_weighSayings_37 : decode cX2_weighSayings 37 = .ok (.aload_n 0, 1) := by decide +kernel
theorem dX2_weighSayings_38 : decode cX2_weighSayings 38 = .ok (.getfield 31, 3) := by decide +kernel
theorem dX2_weighSayings_41 : decode cX2_weighSayings 41 = .ok (.getfield 64, 3) := by decide +kernel
theorem dX2_weighSayings_44 : decode cX2_weighSayings 44 = .ok (.if_icmp .ge 59, 3) := by decide +kernel
theorem dX2_weighSayings_47 : decode cX2_weighSayings 47 = .ok (.aload_n 0, 1) := by decide +kernel
theorem dX2_weighSayings_48 : decode cX2_weighSayings 48 = .ok (.iload_n 1, 1) := by decide +kernel
theorem dX2_weighSayings_49 : decode cX2_weighSayings 49 = .ok (.iload_n 3, 1) := by decide +kernel
theorem dX2_weighSayings_50 : decode cX2_weighSayings 50 = .ok (.invokevirtual 67, 3) := by decide +kernel
theorem dX2_weighSayings_53 : decode cX2_weighSayings 53 = .ok (.aload_n 0, 1) := by decide +kernel
theorem dX2_weighSayings_54 : decode cX2_weighSayings 54 = .ok (.aload_n 0, 1) := by decide +kernel
theorem dX2_weighSayings_55 : decode cX2_weighSayings 55 = .ok (.getfield 22, 3) := by decide +kernel
theorem dX2_weighSayings_58 : decode cX2_weighSayings 58 = .ok (.invokevirtual 56, 3) := by decide +kernel
theorem dX2_weighSayings_61 : decode cX2_weighSayings 61 = .ok (.aload_n 0, 1) := by decide +kernel
theorem dX2_weighSayings_62 : decode cX2_weighSayings 62 = .ok (.getfield 35, 3) := by decide +kernel
theorem dX2_weighSayings_65 : decode cX2_weighSayings 65 = .ok (.iload_n 1, 1) := by decide +kernel
theorem dX2_weighSayings_66 : decode cX2_weighSayings 66 = .ok (.aload_n 0, 1) := by decide +kernel
theorem dX2_weighSayings_67 : decode cX2_weighSayings 67 = .ok (.getfield 9, 3) := by decide +kernel
theorem dX2_weighSayings_70 : decode cX2_weighSayings 70 = .ok (.invokevirtual 60, 3) := by decide +kernel
theorem dX2_weighSayings_73 : decode cX2_weighSayings 73 = .ok (.iload_n 2, 1) := by decide +kernel
theorem dX2_weighSayings_74 : decode cX2_weighSayings 74 = .ok (.isub, 1) := by decide +kernel
theorem dX2_weighSayings_75 : decode cX2_weighSayings 75 = .ok (.istore 4, 2) := by decide +kernel
theorem dX2_weighSayings_77 : decode cX2_weighSayings 77 = .ok (.iload 4, 2) := by decide +kernel
theorem dX2_weighSayings_79 : decode cX2_weighSayings 79 = .ok (.aload_n 0, 1) := by decide +kernel
theorem dX2_weighSayings_80 : decode cX2_weighSayings 80 = .ok (.getfield 19, 3) := by decide +kernel
theorem dX2_weighSayings_83 : decode cX2_weighSayings 83 = .ok (.if_icmp .le 14, 3) := by decide +kernel
theorem dX2_weighSayings_86 : decode cX2_weighSayings 86 = .ok (.aload_n 0, 1) := by decide +kernel
theorem dX2_weighSayings_87 : decode cX2_weighSayings 87 = .ok (.iload 4, 2) := by decide +kernel
theorem dX2_weighSayings_89 : decode cX2_weighSayings 89 = .ok (.putfield 19, 3) := by decide +kernel
theorem dX2_weighSayings_92 : decode cX2_weighSayings 92 = .ok (.aload_n 0, 1) := by decide +kernel
theorem dX2_weighSayings_93 : decode cX2_weighSayings 93 = .ok (.iload_n 3, 1) := by decide +kernel
theorem dX2_weighSayings_94 : decode cX2_weighSayings 94 = .ok (.putfield 15, 3) := by decide +kernel
theorem dX2_weighSayings_97 : decode cX2_weighSayings 97 = .ok (.iinc 3 1, 3) := by decide +kernel
theorem dX2_weighSayings_100 : decode cX2_weighSayings 100 = .ok (.goto (-64), 3) := by decide +kernel
theorem dX2_weighSayings_103 : decode cX2_weighSayings 103 = .ok (.return_, 1) := by decide +kernel
theorem dX2_sayAlone_0 : decode cX2_sayAlone 0 = .ok (.aload_n 0, 1) := by decide +kernel
theorem dX2_sayAlone_1 : decode cX2_sayAlone 1 = .ok (.getfield 31, 3) := by decide +kernel
theorem dX2_sayAlone_4 : decode cX2_sayAlone 4 = .ok (.getfield 53, 3) := by decide +kernel
theorem dX2_sayAlone_7 : decode cX2_sayAlone 7 = .ok (.iconst 0, 1) := by decide +kernel
theorem dX2_sayAlone_8 : decode cX2_sayAlone 8 = .ok (.aload_n 0, 1) := by decide +kernel
theorem dX2_sayAlone_9 : decode cX2_sayAlone 9 = .ok (.getfield 22, 3) := by decide +kernel
theorem dX2_sayAlone_12 : decode cX2_sayAlone 12 = .ok (.iconst 0, 1) := by decide +kernel
theorem dX2_sayAlone_13 : decode cX2_sayAlone 13 = .ok (.aload_n 0, 1) := by decide +kernel
theorem dX2_sayAlone_14 : decode cX2_sayAlone 14 = .ok (.getfield 22, 3) := by decide +kernel
theorem dX2_sayAlone_17 : decode cX2_sayAlone 17 = .ok (.arraylength, 1) := by decide +kernel
theorem dX2_sayAlone_18 : decode cX2_sayAlone 18 = .ok (.invokestatic 71, 3) := by decide +kernel
theorem dX2_sayAlone_21 : decode cX2_sayAlone 21 = .ok (.iconst 0, 1) := by decide +kernel
theorem dX2_sayAlone_22 : decode cX2_sayAlone 22 = .ok (.istore_n 3, 1) := by decide +kernel
theorem dX2_sayAlone_23 : decode cX2_sayAlone 23 = .ok (.iload_n 3, 1) := by decide +kernel
theorem dX2_sayAlone_24 : decode cX2_sayAlone 24 = .ok (.iconst 4, 1) := by decide +kernel
theorem dX2_sayAlone_25 : decode cX2_sayAlone 25 = .ok (.if_icmp .ge 31, 3) := by decide +kernel
theorem dX2_sayAlone_28 : decode cX2_sayAlone 28 = .ok (.aload_n 0, 1) := by decide +kernel
theorem dX2_sayAlone_29 : decode cX2_sayAlone 29 = .ok (.getfield 22, 3) := by decide +kernel
theorem dX2_sayAlone_32 : decode cX2_sayAlone 32 = .ok (.iload_n 1, 1) := by decide +kernel
theorem dX2_sayAlone_33 : decode cX2_sayAlone 33 = .ok (.iconst 4, 1) := by decide +kernel
theorem dX2_sayAlone_34 : decode cX2_sayAlone 34 = .ok (.imul, 1) := by decide +kernel
theorem dX2_sayAlone_35 : decode cX2_sayAlone 35 = .ok (.iload_n 3, 1) := by decide +kernel
theorem dX2_sayAlone_36 : decode cX2_sayAlone 36 = .ok (.iadd, 1) := by decide +kernel
theorem dX2_sayAlone_37 : decode cX2_sayAlone 37 = .ok (.iload_n 3, 1) := by decide +kernel
theorem dX2_sayAlone_38 : decode cX2_sayAlone 38 = .ok (.iload_n 2, 1) := by decide +kernel
theorem dX2_sayAlone_39 : decode cX2_sayAlone 39 = .ok (.if_icmp .ne 8, 3) := by decide +kernel
theorem dX2_sayAlone_42 : decode cX2_sayAlone 42 = .ok (.bipush 9, 2) := by decide +kernel
theorem dX2_sayAlone_44 : decode cX2_sayAlone 44 = .ok (.goto 5, 3) := by decide +kernel
theorem dX2_sayAlone_47 : decode cX2_sayAlone 47 = .ok (.bipush (-9), 2) := by decide +kernel
theorem dX2_sayAlone_49 : decode cX2_sayAlone 49 = .ok (.iastore, 1) := by decide +kernel
theorem dX2_sayAlone_50 : decode cX2_sayAlone 50 = .ok (.iinc 3 1, 3) := by decide +kernel
theorem dX2_sayAlone_53 : decode cX2_sayAlone 53 = .ok (.goto (-30), 3) := by decide +kernel
theorem dX2_sayAlone_56 : decode cX2_sayAlone 56 = .ok (.return_, 1) := by decide +kernel
theorem dX2_decideWall_0 : decode cX2_decideWall 0 = .ok (.aload_n 0, 1) := by decide +kernel
theorem dX2_decideWall_1 : decode cX2_decideWall 1 = .ok (.iload_n 2, 1) := by decide +kernel
theorem dX2_decideWall_2 : decode cX2_decideWall 2 = .ok (.invokevirtual 77, 3) := by decide +kernel
theorem dX2_decideWall_5 : decode cX2_decideWall 5 = .ok (.aload_n 0, 1) := by decide +kernel
theorem dX2_decideWall_6 : decode cX2_decideWall 6 = .ok (.getfield 25, 3) := by decide +kernel
theorem dX2_decideWall_9 : decode cX2_decideWall 9 = .ok (.iconst 1, 1) := by decide +kernel
theorem dX2_decideWall_10 : decode cX2_decideWall 10 = .ok (.iaload, 1) := by decide +kernel
theorem dX2_decideWall_11 : decode cX2_decideWall 11 = .ok (.ifCond .ne 13, 3) := by decide +kernel
theorem dX2_decideWall_14 : decode cX2_decideWall 14 = .ok (.aload_n 0, 1) := by decide +kernel
theorem dX2_decideWall_15 : decode cX2_decideWall 15 = .ok (.getfield 31, 3) := by decide +kernel
theorem dX2_decideWall_18 : decode cX2_decideWall 18 = .ok (.getfield 81, 3) := by decide +kernel
theorem dX2_decideWall_21 : decode cX2_decideWall 21 = .ok (.iload_n 2, 1) := by decide +kernel
theorem dX2_decideWall_22 : decode cX2_decideWall 22 = .ok (.iaload, 1) := by decide +kernel
theorem dX2_decideWall_23 : decode cX2_decideWall 23 = .ok (.ireturn, 1) := by decide +kernel
theorem dX2_decideWall_24 : decode cX2_decideWall 24 = .ok (.aload_n 0, 1) := by decide +kernel
theorem dX2_decideWall_25 : decode cX2_decideWall 25 = .ok (.invokevirtual 84, 3) := by decide +kernel
theorem dX2_decideWall_28 : decode cX2_decideWall 28 = .ok (.istore_n 3, 1) := by decide +kernel
theorem dX2_decideWall_29 : decode cX2_decideWall 29 = .ok (.iload_n 3, 1) := by decide +kernel
theorem dX2_decideWall_30 : decode cX2_decideWall 30 = .ok (.tableswitch 63 261 265 #[34, 48, 48, 48, 56], 34) := by decide +kernel
theorem dX2_decideWall_64 : decode cX2_decideWall 64 = .ok (.aload_n 0, 1) := by decide +kernel
theorem dX2_decideWall_65 : decode cX2_decideWall 65 = .ok (.getfield 31, 3) := by decide +kernel
theorem dX2_decideWall_68 : decode cX2_decideWall 68 = .ok (.aload_n 1, 1) := by decide +kernel
theorem dX2_decideWall_69 : decode cX2_decideWall 69 = .ok (.aload_n 0, 1) := by decide +kernel
theorem dX2_decideWall_70 : decode cX2_decideWall 70 = .ok (.iload_n 2, 1) := by decide +kernel
theorem dX2_decideWall_71 : decode cX2_decideWall 71 = .ok (.invokevirtual 88, 3) := by decide +kernel
theorem dX2_decideWall_74 : decode cX2_decideWall 74 = .ok (.invokevirtual 92, 3) := by decide +kernel
theorem dX2_decideWall_77 : decode cX2_decideWall 77 = .ok (.ireturn, 1) := by decide +kernel
theorem dX2_decideWall_78 : decode cX2_decideWall 78 = .ok (.aload_n 0, 1) := by decide +kernel
theorem dX2_decideWall_79 : decode cX2_decideWall 79 = .ok (.aload_n 1, 1) := by decide +kernel
theorem dX2_decideWall_80 : decode cX2_decideWall 80 = .ok (.iload_n 2, 1) := by decide +kernel
theorem dX2_decideWall_81 : decode cX2_decideWall 81 = .ok (.iload_n 3, 1) := by decide +kernel
theorem dX2_decideWall_82 : decode cX2_decideWall 82 = .ok (.invokevirtual 95, 3) := by decide +kernel
theorem dX2_decideWall_85 : decode cX2_decideWall 85 = .ok (.ireturn, 1) := by decide +kernel
theorem dX2_decideWall_86 : decode cX2_decideWall 86 = .ok (.aload_n 0, 1) := by decide +kernel
theorem dX2_decideWall_87 : decode cX2_decideWall 87 = .ok (.aload_n 1, 1) := by decide +kernel
theorem dX2_decideWall_88 : decode cX2_decideWall 88 = .ok (.iload_n 2, 1) := by decide +kernel
theorem dX2_decideWall_89 : decode cX2_decideWall 89 = .ok (.invokevirtual 99, 3) := by decide +kernel
theorem dX2_decideWall_92 : decode cX2_decideWall 92 = .ok (.ireturn, 1) := by decide +kernel
theorem dX2_decideWall_93 : decode cX2_decideWall 93 = .ok (.aload_n 0, 1) := by decide +kernel
theorem dX2_decideWall_94 : decode cX2_decideWall 94 = .ok (.getfield 31, 3) := by decide +kernel
theorem dX2_decideWall_97 : decode cX2_decideWall 97 = .ok (.getfield 81, 3) := by decide +kernel
theorem dX2_decideWall_100 : decode cX2_decideWall 100 = .ok (.iload_n 2, 1) := by decide +kernel
theorem dX2_decideWall_101 : decode cX2_decideWall 101 = .ok (.iaload, 1) := by decide +kernel
theorem dX2_decideWall_102 : decode cX2_decideWall 102 = .ok (.ireturn, 1) := by decide +kernel
theorem dX2_gatherFacts_0 : decode cX2_gatherFacts 0 = .ok (.iconst 0, 1) := by decide +kernel
theorem dX2_gatherFacts_1 : decode cX2_gatherFacts 1 = .ok (.istore_n 2, 1) := by decide +kernel
theorem dX2_gatherFacts_2 : decode cX2_gatherFacts 2 = .ok (.iconst 0, 1) := by decide +kernel
theorem dX2_gatherFacts_3 : decode cX2_gatherFacts 3 = .ok (.istore_n 3, 1) := by decide +kernel
theorem dX2_gatherFacts_4 : decode cX2_gatherFacts 4 = .ok (.iconst 0, 1) := by decide +kernel
theorem dX2_gatherFacts_5 : decode cX2_gatherFacts 5 = .ok (.istore 4, 2) := by decide +kernel
theorem dX2_gatherFacts_7 : decode cX2_gatherFacts 7 = .ok (.iconst 0, 1) := by decide +kernel
theorem dX2_gatherFacts_8 : decode cX2_gatherFacts 8 = .ok (.istore 5, 2) := by decide +kernel
theorem dX2_gatherFacts_10 : decode cX2_gatherFacts 10 = .ok (.iload 5, 2) := by decide +kernel
theorem dX2_gatherFacts_12 : decode cX2_gatherFacts 12 = .ok (.aload_n 0, 1) := by decide +kernel
theorem dX2_gatherFacts_13 : decode cX2_gatherFacts 13 = .ok (.getfield 31, 3) := by decide +kernel
theorem dX2_gatherFacts_16 : decode cX2_gatherFacts 16 = .ok (.getfield 102, 3) := by decide +kernel
theorem dX2_gatherFacts_19 : decode cX2_gatherFacts 19 = .ok (.if_icmp .ge 43, 3) := by decide +kernel
theorem dX2_gatherFacts_22 : decode cX2_gatherFacts 22 = .ok (.aload_n 0, 1) := by decide +kernel
theorem dX2_gatherFacts_23 : decode cX2_gatherFacts 23 = .ok (.getfield 35, 3) := by decide +kernel
theorem dX2_gatherFacts_26 : decode cX2_gatherFacts 26 = .ok (.iload 5, 2) := by decide +kernel
theorem dX2_gatherFacts_28 : decode cX2_gatherFacts 28 = .ok (.iload_n 1, 1) := by decide +kernel
theorem dX2_gatherFacts_29 : decode cX2_gatherFacts 29 = .ok (.invokevirtual 105, 3) := by decide +kernel
theorem dX2_gatherFacts_32 : decode cX2_gatherFacts 32 = .ok (.istore 6, 2) := by decide +kernel
theorem dX2_gatherFacts_34 : decode cX2_gatherFacts 34 = .ok (.iload 6, 2) := by decide +kernel
theorem dX2_gatherFacts_36 : decode cX2_gatherFacts 36 = .ok (.ifCond .le 20, 3) := by decide +kernel
theorem dX2_gatherFacts_39 : decode cX2_gatherFacts 39 = .ok (.iinc 2 1, 3) := by decide +kernel
theorem dX2_gatherFacts_42 : decode cX2_gatherFacts 42 = .ok (.iload_n 3, 1) := by decide +kernel
theorem dX2_gatherFacts_43 : decode cX2_gatherFacts 43 = .ok (.iload 6, 2) := by decide +kernel
theorem dX2_gatherFacts_45 : decode cX2_gatherFacts 45 = .ok (.iadd, 1) := by decide +kernel
theorem dX2_gatherFacts_46 : decode cX2_gatherFacts 46 = .ok (.istore_n 3, 1) := by decide +kernel
theorem dX2_gatherFacts_47 : decode cX2_gatherFacts 47 = .ok (.iload 4, 2) := by decide +kernel
theorem dX2_gatherFacts_49 : decode cX2_gatherFacts 49 = .ok (.iload 6, 2) := by decide +kernel
theorem dX2_gatherFacts_51 : decode cX2_gatherFacts 51 = .ok (.invokestatic 109, 3) := by decide +kernel
theorem dX2_gatherFacts_54 : decode cX2_gatherFacts 54 = .ok (.istore 4, 2) := by decide +kernel
theorem dX2_gatherFacts_56 : decode cX2_gatherFacts 56 = .ok (.iinc 5 1, 3) := by decide +kernel
theorem dX2_gatherFacts_59 : decode cX2_gatherFacts 59 = .ok (.goto (-49), 3) := by decide +kernel
theorem dX2_gatherFacts_62 : decode cX2_gatherFacts 62 = .ok (.aload_n 0, 1) := by decide +kernel
theorem dX2_gatherFacts_63 : decode cX2_gatherFacts 63 = .ok (.getfield 25, 3) := by decide +kernel
theorem dX2_gatherFacts_66 : decode cX2_gatherFacts 66 = .ok (.iconst 0, 1) := by decide +kernel
theorem dX2_gatherFacts_67 : decode cX2_gatherFacts 67 = .ok (.iload_n 1, 1) := by decide +kernel
theorem dX2_gatherFacts_68 : decode cX2_gatherFacts 68 = .ok (.iastore, 1) := by decide +kernel
theorem dX2_gatherFacts_69 : decode cX2_gatherFacts 69 = .ok (.aload_n 0, 1) := by decide +kernel
theorem dX2_gatherFacts_70 : decode cX2_gatherFacts 70 = .ok (.getfield 25, 3) := by decide +kernel
theorem dX2_gatherFacts_73 : decode cX2_gatherFacts 73 = .ok (.iconst 1, 1) := by decide +kernel
theorem dX2_gatherFacts_74 : decode cX2_gatherFacts 74 = .ok (.iload_n 2, 1) := by decide +kernel
theorem dX2_gatherFacts_75 : decode cX2_gatherFacts 75 = .ok (.iastore, 1) := by decide +kernel
theorem dX2_gatherFacts_76 : decode cX2_gatherFacts 76 = .ok (.aload_n 0, 1) := by decide +kernel
theorem dX2_gatherFacts_77 : decode cX2_gatherFacts 77 = .ok (.getfield 25, 3) := by decide +kernel
theorem dX2_gatherFacts_80 : decode cX2_gatherFacts 80 = .ok (.iconst 2, 1) := by decide +kernel
theorem dX2_gatherFacts_81 : decode cX2_gatherFacts 81 = .ok (.iload_n 3, 1) := by decide +kernel
theorem dX2_gatherFacts_82 : decode cX2_gatherFacts 82 = .ok (.iastore, 1) := by decide +kernel
theorem dX2_gatherFacts_83 : decode cX2_gatherFacts 83 = .ok (.aload_n 0, 1) := by decide +kernel
theorem dX2_gatherFacts_84 : decode cX2_gatherFacts 84 = .ok (.getfield 25, 3) := by decide +kernel
theorem dX2_gatherFacts_87 : decode cX2_gatherFacts 87 = .ok (.iconst 3, 1) := by decide +kernel
theorem dX2_gatherFacts_88 : decode cX2_gatherFacts 88 = .ok (.iload 4, 2) := by decide +kernel
theorem dX2_gatherFacts_90 : decode cX2_gatherFacts 90 = .ok (.iastore, 1) := by decide +kernel
theorem dX2_gatherFacts_91 : decode cX2_gatherFacts 91 = .ok (.aload_n 0, 1) := by decide +kernel
theorem dX2_gatherFacts_92 : decode cX2_gatherFacts 92 = .ok (.getfield 25, 3) := by decide +kernel
theorem dX2_gatherFacts_95 : decode cX2_gatherFacts 95 = .ok (.iconst 4, 1) := by decide +kernel
theorem dX2_gatherFacts_96 : decode cX2_gatherFacts 96 = .ok (.aload_n 0, 1) := by decide +kernel
theorem dX2_gatherFacts_97 : decode cX2_gatherFacts 97 = .ok (.getfield 31, 3) := by decide +kernel
theorem dX2_gatherFacts_100 : decode cX2_gatherFacts 100 = .ok (.getfield 81, 3) := by decide +kernel
theorem dX2_gatherFacts_103 : decode cX2_gatherFacts 103 = .ok (.iload_n 1, 1) := by decide +kernel
theorem dX2_gatherFacts_104 : decode cX2_gatherFacts 104 = .ok (.iaload, 1) := by decide +kernel
theorem dX2_gatherFacts_105 : decode cX2_gatherFacts 105 = .ok (.iastore, 1) := by decide +kernel
theorem dX2_gatherFacts_106 : decode cX2_gatherFacts 106 = .ok (.aload_n 0, 1) := by decide +kernel
theorem dX2_gatherFacts_107 : decode cX2_gatherFacts 107 = .ok (.getfield 25, 3) := by decide +kernel
theorem dX2_gatherFacts_110 : decode cX2_gatherFacts 110 = .ok (.iconst 5, 1) := by decide +kernel
theorem dX2_gatherFacts_111 : decode cX2_gatherFacts 111 = .ok (.aload_n 0, 1) := by decide +kernel
theorem dX2_gatherFacts_112 : decode cX2_gatherFacts 112 = .ok (.getfield 31, 3) := by decide +kernel
theorem dX2_gatherFacts_115 : decode cX2_gatherFacts 115 = .ok (.getfield 114, 3) := by decide +kernel
theorem dX2_gatherFacts_118 : decode cX2_gatherFacts 118 = .ok (.iastore, 1) := by decide +kernel
theorem dX2_gatherFacts_119 : decode cX2_gatherFacts 119 = .ok (.return_, 1) := by decide +kernel
theorem dX2_chosenMethod_0 : decode cX2_chosenMethod 0 = .ok (.aload_n 0, 1) := by decide +kernel
theorem dX2_chosenMethod_1 : decode cX2_chosenMethod 1 = .ok (.getfield 31, 3) := by decide +kernel
theorem dX2_chosenMethod_4 : decode cX2_chosenMethod 4 = .ok (.getfield 117, 3) := by decide +kernel
theorem dX2_chosenMethod_7 : decode cX2_chosenMethod 7 = .ok (.astore_n 1, 1) := by decide +kernel
theorem dX2_chosenMethod_8 : decode cX2_chosenMethod 8 = .ok (.iconst 0, 1) := by decide +kernel
theorem dX2_chosenMethod_9 : decode cX2_chosenMethod 9 = .ok (.istore_n 2, 1) := by decide +kernel
theorem dX2_chosenMethod_10 : decode cX2_chosenMethod 10 = .ok (.iload_n 2, 1) := by decide +kernel
theorem dX2_chosenMethod_11 : decode cX2_chosenMethod 11 = .ok (.aload_n 1, 1) := by decide +kernel
theorem dX2_chosenMethod_12 : decode cX2_chosenMethod 12 = .ok (.getfield 121, 3) := by decide +kernel
theorem dX2_chosenMethod_15 : decode cX2_chosenMethod 15 = .ok (.if_icmp .ge 52, 3) := by decide +kernel
theorem dX2_chosenMethod_18 : decode cX2_chosenMethod 18 = .ok (.iload_n 2, 1) := by decide +kernel
theorem dX2_chosenMethod_19 : decode cX2_chosenMethod 19 = .ok (.bipush 16, 2) := by decide +kernel
theorem dX2_chosenMethod_21 : decode cX2_chosenMethod 21 = .ok (.if_icmp .ge 46, 3) := by decide +kernel
theorem dX2_chosenMethod_24 : decode cX2_chosenMethod 24 = .ok (.aload_n 1, 1) := by decide +kernel
theorem dX2_chosenMethod_25 : decode cX2_chosenMethod 25 = .ok (.iload_n 2, 1) := by decide +kernel
theorem dX2_chosenMethod_26 : decode cX2_chosenMethod 26 = .ok (.invokevirtual 126, 3) := by decide +kernel
theorem dX2_chosenMethod_29 : decode cX2_chosenMethod 29 = .ok (.istore_n 3, 1) := by decide +kernel
theorem dX2_chosenMethod_30 : decode cX2_chosenMethod 30 = .ok (.aload_n 1, 1) := by decide +kernel
theorem dX2_chosenMethod_31 : decode cX2_chosenMethod 31 = .ok (.getfield 129, 3) := by decide +kernel
theorem dX2_chosenMethod_34 : decode cX2_chosenMethod 34 = .ok (.iload_n 2, 1) := by decide +kernel
theorem dX2_chosenMethod_35 : decode cX2_chosenMethod 35 = .ok (.iaload, 1) := by decide +kernel
theorem dX2_chosenMethod_36 : decode cX2_chosenMethod 36 = .ok (.istore 4, 2) := by decide +kernel
theorem dX2_chosenMethod_38 : decode cX2_chosenMethod 38 = .ok (.iload_n 3, 1) := by decide +kernel
theorem dX2_chosenMethod_39 : decode cX2_chosenMethod 39 = .ok (.iload 4, 2) := by decide +kernel
theorem dX2_chosenMethod_41 : decode cX2_chosenMethod 41 = .ok (.if_icmp .eq 13, 3) := by decide +kernel
theorem dX2_chosenMethod_44 : decode cX2_chosenMethod 44 = .ok (.aload_n 0, 1) := by decide +kernel
theorem dX2_chosenMethod_45 : decode cX2_chosenMethod 45 = .ok (.iload_n 3, 1) := by decide +kernel
theorem dX2_chosenMethod_46 : decode cX2_chosenMethod 46 = .ok (.iload 4, 2) := by decide +kernel
theorem dX2_chosenMethod_48 : decode cX2_chosenMethod 48 = .ok (.invokevirtual 132, 3) := by decide +kernel
theorem dX2_chosenMethod_51 : decode cX2_chosenMethod 51 = .ok (.ifCond .eq 10, 3) := by decide +kernel
theorem dX2_chosenMethod_54 : decode cX2_chosenMethod 54 = .ok (.aload_n 1, 1) := by decide +kernel
theorem dX2_chosenMethod_55 : decode cX2_chosenMethod 55 = .ok (.getfield 136, 3) := by decide +kernel
theorem dX2_chosenMethod_58 : decode cX2_chosenMethod 58 = .ok (.iload_n 2, 1) := by decide +kernel
theorem dX2_chosenMethod_59 : decode cX2_chosenMethod 59 = .ok (.iaload, 1) := by decide +kernel
theorem dX2_chosenMethod_60 : decode cX2_chosenMethod 60 = .ok (.ireturn, 1) := by decide +kernel
theorem dX2_chosenMethod_61 : decode cX2_chosenMethod 61 = .ok (.iinc 2 1, 3) := by decide +kernel
theorem dX2_chosenMethod_64 : decode cX2_chosenMethod 64 = .ok (.goto (-54), 3) := by decide +kernel
theorem dX2_chosenMethod_67 : decode cX2_chosenMethod 67 = .ok (.sipush 266, 3) := by decide +kernel
theorem dX2_chosenMethod_70 : decode cX2_chosenMethod 70 = .ok (.ireturn, 1) := by decide +kernel
theorem dX2_holds_0 : decode cX2_holds 0 = .ok (.aload_n 0, 1) := by decide +kernel
theorem dX2_holds_1 : decode cX2_holds 1 = .ok (.getfield 31, 3) := by decide +kernel
theorem dX2_holds_4 : decode cX2_holds 4 = .ok (.getfield 117, 3) := by decide +kernel
theorem dX2_holds_7 : decode cX2_holds 7 = .ok (.getfield 139, 3) := by decide +kernel
theorem dX2_holds_10 : decode cX2_holds 10 = .ok (.astore_n 3, 1) := by decide +kernel
theorem dX2_holds_11 : decode cX2_holds 11 = .ok (.iconst 0, 1) := by decide +kernel
theorem dX2_holds_12 : decode cX2_holds 12 = .ok (.istore 4, 2) := by decide +kernel
theorem dX2_holds_14 : decode cX2_holds 14 = .ok (.iload_n 1, 1) := by decide +kernel
theorem dX2_holds_15 : decode cX2_holds 15 = .ok (.istore 5, 2) := by decide +kernel
theorem dX2_holds_17 : decode cX2_holds 17 = .ok (.iload 5, 2) := by decide +kernel
theorem dX2_holds_19 : decode cX2_holds 19 = .ok (.iload_n 2, 1) := by decide +kernel
theorem dX2_holds_20 : decode cX2_holds 20 = .ok (.if_icmp .ge 192, 3) := by decide +kernel
theorem dX2_holds_23 : decode cX2_holds 23 = .ok (.iload 5, 2) := by decide +kernel
theorem dX2_holds_25 : decode cX2_holds 25 = .ok (.aload_n 3, 1) := by decide +kernel
theorem dX2_holds_26 : decode cX2_holds 26 = .ok (.arraylength, 1) := by decide +kernel
theorem dX2_holds_27 : decode cX2_holds 27 = .ok (.if_icmp .ge 185, 3) := by decide +kernel
theorem dX2_holds_30 : decode cX2_holds 30 = .ok (.aload_n 3, 1) := by decide +kernel
theorem dX2_holds_31 : decode cX2_holds 31 = .ok (.iload 5, 2) := by decide +kernel
theorem dX2_holds_33 : decode cX2_holds 33 = .ok (.iaload, 1) := by decide +kernel
theorem dX2_holds_34 : decode cX2_holds 34 = .ok (.bipush 15, 2) := by decide +kernel
theorem dX2_holds_36 : decode cX2_holds 36 = .ok (.iand, 1) := by decide +kernel
theorem dX2_holds_37 : decode cX2_holds 37 = .ok (.istore 6, 2) := by decide +kernel
theorem dX2_holds_39 : decode cX2_holds 39 = .ok (.aload_n 3, 1) := by decide +kernel
theorem dX2_holds_40 : decode cX2_holds 40 = .ok (.iload 5, 2) := by decide +kernel
theorem dX2_holds_42 : decode cX2_holds 42 = .ok (.iaload, 1) := by decide +kernel
theorem dX2_holds_43 : decode cX2_holds 43 = .ok (.iconst 4, 1) := by decide +kernel
theorem dX2_holds_44 : decode cX2_holds 44 = .ok (.ishr, 1) := by decide +kernel
theorem dX2_holds_45 : decode cX2_holds 45 = .ok (.istore 7, 2) := by decide +kernel
theorem dX2_holds_47 : decode cX2_holds 47 = .ok (.iload 6, 2) := by decide +kernel
theorem dX2_holds_49 : decode cX2_holds 49 = .ok (.ifCond .eq 9, 3) := by decide +kernel
theorem dX2_holds_52 : decode cX2_holds 52 = .ok (.iload 6, 2) := by decide +kernel
theorem dX2_holds_54 : decode cX2_holds 54 = .ok (.iconst 1, 1) := by decide +kernel
theorem dX2_holds_55 : decode cX2_holds 55 = .ok (.if_icmp .ne 44, 3) := by decide +kernel
theorem dX2_holds_58 : decode cX2_holds 58 = .ok (.iload 4, 2) := by decide +kernel
theorem dX2_holds_60 : decode cX2_holds 60 = .ok (.aload_n 0, 1) := by decide +kernel
theorem dX2_holds_61 : decode cX2_holds 61 = .ok (.getfield 28, 3) := by decide +kernel
theorem dX2_holds_64 : decode cX2_holds 64 = .ok (.arraylength, 1) := by decide +kernel
theorem dX2_holds_65 : decode cX2_holds 65 = .ok (.if_icmp .lt 5, 3) := by decide +kernel
theorem dX2_holds_68 : decode cX2_holds 68 = .ok (.iconst 0, 1) := by decide +kernel
theorem dX2_holds_69 : decode cX2_holds 69 = .ok (.ireturn, 1) := by decide +kernel
theorem dX2_holds_70 : decode cX2_holds 70 = .ok (.aload_n 0, 1) := by decide +kernel
theorem dX2_holds_71 : decode cX2_holds 71 = .ok (.getfield 28, 3) := by decide +kernel
theorem dX2_holds_74 : decode cX2_holds 74 = .ok (.iload 4, 2) := by decide +kernel
theorem dX2_holds_76 : decode cX2_holds 76 = .ok (.iload 6, 2) := by decide +kernel
theorem dX2_holds_78 : decode cX2_holds 78 = .ok (.ifCond .ne 8, 3) := by decide +kernel
theorem dX2_holds_81 : decode cX2_holds 81 = .ok (.iload 7, 2) := by decide +kernel
theorem dX2_holds_83 : decode cX2_holds 83 = .ok (.goto 9, 3) := by decide +kernel
theorem dX2_holds_86 : decode cX2_holds 86 = .ok (.aload_n 0, 1) := by decide +kernel
theorem dX2_holds_87 : decode cX2_holds 87 = .ok (.iload 7, 2) := by decide +kernel
theorem dX2_holds_89 : decode cX2_holds 89 = .ok (.invokevirtual 142, 3) := by decide +kernel
theorem dX2_holds_92 : decode cX2_holds 92 = .ok (.iastore, 1) := by decide +kernel
theorem dX2_holds_93 : decode cX2_holds 93 = .ok (.iinc 4 1, 3) := by decide +kernel
theorem dX2_holds_96 : decode cX2_holds 96 = .ok (.goto 110, 3) := by decide +kernel
theorem dX2_holds_99 : decode cX2_holds 99 = .ok (.iload 6, 2) := by decide +kernel
theorem dX2_holds_101 : decode cX2_holds 101 = .ok (.iconst 3, 1) := by decide +kernel
theorem dX2_holds_102 : decode cX2_holds 102 = .ok (.if_icmp .eq 9, 3) := by decide +kernel
theorem dX2_holds_105 : decode cX2_holds 105 = .ok (.iload 6, 2) := by decide +kernel
theorem dX2_holds_107 : decode cX2_holds 107 = .ok (.iconst 2, 1) := by decide +kernel
theorem dX2_holds_108 : decode cX2_holds 108 = .ok (.if_icmp .ne 57, 3) := by decide +kernel
theorem dX2_holds_111 : decode cX2_holds 111 = .ok (.iload 4, 2) := by decide +kernel
theorem dX2_holds_113 : decode cX2_holds 113 = .ok (.iconst 1, 1) := by decide +kernel
theorem dX2_holds_114 : decode cX2_holds 114 = .ok (.if_icmp .ge 5, 3) := by decide +kernel
theorem dX2_holds_117 : decode cX2_holds 117 = .ok (.iconst 0, 1) := by decide +kernel
theorem dX2_holds_118 : decode cX2_holds 118 = .ok (.ireturn, 1) := by decide +kernel
theorem dX2_holds_119 : decode cX2_holds 119 = .ok (.aload_n 0, 1) := by decide +kernel
theorem dX2_holds_120 : decode cX2_holds 120 = .ok (.getfield 28, 3) := by decide +kernel
theorem dX2_holds_123 : decode cX2_holds 123 = .ok (.iload 4, 2) := by decide +kernel
theorem dX2_holds_125 : decode cX2_holds 125 = .ok (.iconst 1, 1) := by decide +kernel
theorem dX2_holds_126 : decode cX2_holds 126 = .ok (.isub, 1) := by decide +kernel
theorem dX2_holds_127 : decode cX2_holds 127 = .ok (.iload 6, 2) := by decide +kernel
theorem dX2_holds_129 : decode cX2_holds 129 = .ok (.iconst 3, 1) := by decide +kernel
theorem dX2_holds_130 : decode cX2_holds 130 = .ok (.if_icmp .ne 17, 3) := by decide +kernel
theorem dX2_holds_133 : decode cX2_holds 133 = .ok (.iconst 1, 1) := by decide +kernel
theorem dX2_holds_134 : decode cX2_holds 134 = .ok (.aload_n 0, 1) := by decide +kernel
theorem dX2_holds_135 : decode cX2_holds 135 = .ok (.getfield 28, 3) := by decide +kernel
theorem dX2_holds_138 : decode cX2_holds 138 = .ok (.iload 4, 2) := by decide +kernel
theorem dX2_holds_140 : decode cX2_holds 140 = .ok (.iconst 1, 1) := by decide +kernel
theorem dX2_holds_141 : decode cX2_holds 141 = .ok (.isub, 1) := by decide +kernel
theorem dX2_holds_142 : decode cX2_holds 142 = .ok (.iaload, 1) := by decide +kernel
theorem dX2_holds_143 : decode cX2_holds 143 = .ok (.isub, 1) := by decide +kernel
theorem dX2_holds_144 : decode cX2_holds 144 = .ok (.goto 17, 3) := by decide +kernel
theorem dX2_holds_147 : decode cX2_holds 147 = .ok (.aload_n 0, 1) := by decide +kernel
theorem dX2_holds_148 : decode cX2_holds 148 = .ok (.getfield 28, 3) := by decide +kernel
theorem dX2_holds_151 : decode cX2_holds 151 = .ok (.iload 4, 2) := by decide +kernel
theorem dX2_holds_153 : decode cX2_holds 153 = .ok (.iconst 1, 1) := by decide +kernel
theorem dX2_holds_154 : decode cX2_holds 154 = .ok (.isub, 1) := by decide +kernel
theorem dX2_holds_155 : decode cX2_holds 155 = .ok (.iaload, 1) := by decide +kernel
theorem dX2_holds_156 : decode cX2_holds 156 = .ok (.iload 7, 2) := by decide +kernel
theorem dX2_holds_158 : decode cX2_holds 158 = .ok (.invokestatic 145, 3) := by decide +kernel
theorem dX2_holds_161 : decode cX2_holds 161 = .ok (.iastore, 1) := by decide +kernel
theorem dX2_holds_162 : decode cX2_holds 162 = .ok (.goto 44, 3) := by decide +kernel
theorem dX2_holds_165 : decode cX2_holds 165 = .ok (.iload 4, 2) := by decide +kernel
theorem dX2_holds_167 : decode cX2_holds 167 = .ok (.iconst 2, 1) := by decide +kernel
theorem dX2_holds_168 : decode cX2_holds 168 = .ok (.if_icmp .ge 5, 3) := by decide +kernel
theorem dX2_holds_171 : decode cX2_holds 171 = .ok (.iconst 0, 1) := by decide +kernel
theorem dX2_holds_172 : decode cX2_holds 172 = .ok (.ireturn, 1) := by decide +kernel
theorem dX2_holds_173 : decode cX2_holds 173 = .ok (.iinc 4 (-1), 3) := by decide +kernel
theorem dX2_holds_176 : decode cX2_holds 176 = .ok (.aload_n 0, 1) := by decide +kernel
theorem dX2_holds_177 : decode cX2_holds 177 = .ok (.getfield 28, 3) := by decide +kernel
theorem dX2_holds_180 : decode cX2_holds 180 = .ok (.iload 4, 2) := by decide +kernel
theorem dX2_holds_182 : decode cX2_holds 182 = .ok (.iconst 1, 1) := by decide +kernel
theorem dX2_holds_183 : decode cX2_holds 183 = .ok (.isub, 1) := by decide +kernel
theorem dX2_holds_184 : decode cX2_holds 184 = .ok (.iload 6, 2) := by decide +kernel
theorem dX2_holds_186 : decode cX2_holds 186 = .ok (.aload_n 0, 1) := by decide +kernel
theorem dX2_holds_187 : decode cX2_holds 187 = .ok (.getfield 28, 3) := by decide +kernel
theorem dX2_holds_190 : decode cX2_holds 190 = .ok (.iload 4, 2) := by decide +kernel
theorem dX2_holds_192 : decode cX2_holds 192 = .ok (.iconst 1, 1) := by decide +kernel
theorem dX2_holds_193 : decode cX2_holds 193 = .ok (.isub, 1) := by decide +kernel
theorem dX2_holds_194 : decode cX2_holds 194 = .ok (.iaload, 1) := by decide +kernel
theorem dX2_holds_195 : decode cX2_holds 195 = .ok (.aload_n 0, 1) := by decide +kernel
theorem dX2_holds_196 : decode cX2_holds 196 = .ok (.getfield 28, 3) := by decide +kernel
theorem dX2_holds_199 : decode cX2_holds 199 = .ok (.iload 4, 2) := by decide +kernel
theorem dX2_holds_201 : decode cX2_holds 201 = .ok (.iaload, 1) := by decide +kernel
theorem dX2_holds_202 : decode cX2_holds 202 = .ok (.invokestatic 148, 3) := by decide +kernel
theorem dX2_holds_205 : decode cX2_holds 205 = .ok (.iastore, 1) := by decide +kernel
theorem dX2_holds_206 : decode cX2_holds 206 = .ok (.iinc 5 1, 3) := by decide +kernel
theorem dX2_holds_209 : decode cX2_holds 209 = .ok (.goto (-192), 3) := by decide +kernel
theorem dX2_holds_212 : decode cX2_holds 212 = .ok (.iload 4, 2) := by decide +kernel
theorem dX2_holds_214 : decode cX2_holds 214 = .ok (.ifCond .le 16, 3) := by decide +kernel
theorem dX2_holds_217 : decode cX2_holds 217 = .ok (.aload_n 0, 1) := by decide +kernel
theorem dX2_holds_218 : decode cX2_holds 218 = .ok (.getfield 28, 3) := by decide +kernel
theorem dX2_holds_221 : decode cX2_holds 221 = .ok (.iconst 0, 1) := by decide +kernel
theorem dX2_holds_222 : decode cX2_holds 222 = .ok (.iaload, 1) := by decide +kernel
theorem dX2_holds_223 : decode cX2_holds 223 = .ok (.ifCond .eq 7, 3) := by decide +kernel
theorem dX2_holds_226 : decode cX2_holds 226 = .ok (.iconst 1, 1) := by decide +kernel
theorem dX2_holds_227 : decode cX2_holds 227 = .ok (.goto 4, 3) := by decide +kernel
theorem dX2_holds_230 : decode cX2_holds 230 = .ok (.iconst 0, 1) := by decide +kernel
theorem dX2_holds_231 : decode cX2_holds 231 = .ok (.ireturn, 1) := by decide +kernel
theorem dX2_factAt_0 : decode cX2_factAt 0 = .ok (.iload_n 1, 1) := by decide +kernel
theorem dX2_factAt_1 : decode cX2_factAt 1 = .ok (.ifCond .lt 21, 3) := by decide +kernel
theorem dX2_factAt_4 : decode cX2_factAt 4 = .ok (.iload_n 1, 1) := by decide +kernel
theorem dX2_factAt_5 : decode cX2_factAt 5 = .ok (.aload_n 0, 1) := by decide +kernel
theorem dX2_factAt_6 : decode cX2_factAt 6 = .ok (.getfield 25, 3) := by decide +kernel
theorem dX2_factAt_9 : decode cX2_factAt 9 = .ok (.arraylength, 1) := by decide +kernel
theorem dX2_factAt_10 : decode cX2_factAt 10 = .ok (.if_icmp .ge 12, 3) := by decide +kernel
theorem dX2_factAt_13 : decode cX2_factAt 13 = .ok (.aload_n 0, 1) := by decide +kernel
theorem dX2_factAt_14 : decode cX2_factAt 14 = .ok (.getfield 25, 3) := by decide +kernel
theorem dX2_factAt_17 : decode cX2_factAt 17 = .ok (.iload_n 1, 1) := by decide +kernel
theorem dX2_factAt_18 : decode cX2_factAt 18 = .ok (.iaload, 1) := by decide +kernel
theorem dX2_factAt_19 : decode cX2_factAt 19 = .ok (.goto 4, 3) := by decide +kernel
theorem dX2_factAt_22 : decode cX2_factAt 22 = .ok (.iconst 0, 1) := by decide +kernel
theorem dX2_factAt_23 : decode cX2_factAt 23 = .ok (.ireturn, 1) := by decide +kernel
theorem dX2_part_0 : decode cX2_part 0 = .ok (.iload_n 1, 1) := by decide +kernel
theorem dX2_part_1 : decode cX2_part 1 = .ok (.ifCond .eq 9, 3) := by decide +kernel
theorem dX2_part_4 : decode cX2_part 4 = .ok (.iload_n 0, 1) := by decide +kernel
theorem dX2_part_5 : decode cX2_part 5 = .ok (.iload_n 1, 1) := by decide +kernel
theorem dX2_part_6 : decode cX2_part 6 = .ok (.idiv, 1) := by decide +kernel
theorem dX2_part_7 : decode cX2_part 7 = .ok (.goto 4, 3) := by decide +kernel
theorem dX2_part_10 : decode cX2_part 10 = .ok (.iconst 0, 1) := by decide +kernel
theorem dX2_part_11 : decode cX2_part 11 = .ok (.ireturn, 1) := by decide +kernel
theorem dX2_joined_0 : decode cX2_joined 0 = .ok (.iload_n 0, 1) := by decide +kernel
theorem dX2_joined_1 : decode cX2_joined 1 = .ok (.tableswitch 92 4 10 #[43, 47, 51, 55, 66, 77, 88], 43) := by decide +kernel
theorem dX2_joined_44 : decode cX2_joined 44 = .ok (.iload_n 1, 1) := by decide +kernel
theorem dX2_joined_45 : decode cX2_joined 45 = .ok (.iload_n 2, 1) := by decide +kernel
theorem dX2_joined_46 : decode cX2_joined 46 = .ok (.iadd, 1) := by decide +kernel
theorem dX2_joined_47 : decode cX2_joined 47 = .ok (.ireturn, 1) := by decide +kernel
theorem dX2_joined_48 : decode cX2_joined 48 = .ok (.iload_n 1, 1) := by decide +kernel
theorem dX2_joined_49 : decode cX2_joined 49 = .ok (.iload_n 2, 1) := by decide +kernel
theorem dX2_joined_50 : decode cX2_joined 50 = .ok (.isub, 1) := by decide +kernel
theorem dX2_joined_51 : decode cX2_joined 51 = .ok (.ireturn, 1) := by decide +kernel
theorem dX2_joined_52 : decode cX2_joined 52 = .ok (.iload_n 1, 1) := by decide +kernel
theorem dX2_joined_53 : decode cX2_joined 53 = .ok (.iload_n 2, 1) := by decide +kernel
theorem dX2_joined_54 : decode cX2_joined 54 = .ok (.imul, 1) := by decide +kernel
theorem dX2_joined_55 : decode cX2_joined 55 = .ok (.ireturn, 1) := by decide +kernel
theorem dX2_joined_56 : decode cX2_joined 56 = .ok (.iload_n 1, 1) := by decide +kernel
theorem dX2_joined_57 : decode cX2_joined 57 = .ok (.iload_n 2, 1) := by decide +kernel
theorem dX2_joined_58 : decode cX2_joined 58 = .ok (.if_icmp .ge 7, 3) := by decide +kernel
theorem dX2_joined_61 : decode cX2_joined 61 = .ok (.iconst 1, 1) := by decide +kernel
theorem dX2_joined_62 : decode cX2_joined 62 = .ok (.goto 4, 3) := by decide +kernel
theorem dX2_joined_65 : decode cX2_joined 65 = .ok (.iconst 0, 1) := by decide +kernel
theorem dX2_joined_66 : decode cX2_joined 66 = .ok (.ireturn, 1) := by decide +kernel
theorem dX2_joined_67 : decode cX2_joined 67 = .ok (.iload_n 1, 1) := by decide +kernel
theorem dX2_joined_68 : decode cX2_joined 68 = .ok (.iload_n 2, 1) := by decide +kernel
theorem dX2_joined_69 : decode cX2_joined 69 = .ok (.if_icmp .ne 7, 3) := by decide +kernel
theorem dX2_joined_72 : decode cX2_joined 72 = .ok (.iconst 1, 1) := by decide +kernel
theorem dX2_joined_73 : decode cX2_joined 73 = .ok (.goto 4, 3) := by decide +kernel
theorem dX2_joined_76 : decode cX2_joined 76 = .ok (.iconst 0, 1) := by decide +kernel
theorem dX2_joined_77 : decode cX2_joined 77 = .ok (.ireturn, 1) := by decide +kernel
theorem dX2_joined_78 : decode cX2_joined 78 = .ok (.iload_n 1, 1) := by decide +kernel
theorem dX2_joined_79 : decode cX2_joined 79 = .ok (.iload_n 2, 1) := by decide +kernel
theorem dX2_joined_80 : decode cX2_joined 80 = .ok (.if_icmp .le 7, 3) := by decide +kernel
theorem dX2_joined_83 : decode cX2_joined 83 = .ok (.iconst 1, 1) := by decide +kernel
theorem dX2_joined_84 : decode cX2_joined 84 = .ok (.goto 4, 3) := by decide +kernel
theorem dX2_joined_87 : decode cX2_joined 87 = .ok (.iconst 0, 1) := by decide +kernel
theorem dX2_joined_88 : decode cX2_joined 88 = .ok (.ireturn, 1) := by decide +kernel
theorem dX2_joined_89 : decode cX2_joined 89 = .ok (.iload_n 1, 1) := by decide +kernel
theorem dX2_joined_90 : decode cX2_joined 90 = .ok (.iload_n 2, 1) := by decide +kernel
theorem dX2_joined_91 : decode cX2_joined 91 = .ok (.iand, 1) := by decide +kernel
theorem dX2_joined_92 : decode cX2_joined 92 = .ok (.ireturn, 1) := by decide +kernel
theorem dX2_joined_93 : decode cX2_joined 93 = .ok (.iload_n 1, 1) := by decide +kernel
theorem dX2_joined_94 : decode cX2_joined 94 = .ok (.iload_n 2, 1) := by decide +kernel
theorem dX2_joined_95 : decode cX2_joined 95 = .ok (.ior, 1) := by decide +kernel
theorem dX2_joined_96 : decode cX2_joined 96 = .ok (.ireturn, 1) := by decide +kernel
theorem dX2_seerOfMost_0 : decode cX2_seerOfMost 0 = .ok (.iconst 0, 1) := by decide +kernel
theorem dX2_seerOfMost_1 : decode cX2_seerOfMost 1 = .ok (.istore_n 2, 1) := by decide +kernel
theorem dX2_seerOfMost_2 : decode cX2_seerOfMost 2 = .ok (.iconst 1, 1) := by decide +kernel
theorem dX2_seerOfMost_3 : decode cX2_seerOfMost 3 = .ok (.istore_n 3, 1) := by decide +kernel
theorem dX2_seerOfMost_4 : decode cX2_seerOfMost 4 = .ok (.iload_n 3, 1) := by decide +kernel
theorem dX2_seerOfMost_5 : decode cX2_seerOfMost 5 = .ok (.aload_n 0, 1) := by decide +kernel
theorem dX2_seerOfMost_6 : decode cX2_seerOfMost 6 = .ok (.getfield 31, 3) := by decide +kernel
theorem dX2_seerOfMost_9 : decode cX2_seerOfMost 9 = .ok (.getfield 102, 3) := by decide +kernel
theorem dX2_seerOfMost_12 : decode cX2_seerOfMost 12 = .ok (.if_icmp .ge 32, 3) := by decide +kernel
theorem dX2_seerOfMost_15 : decode cX2_seerOfMost 15 = .ok (.aload_n 0, 1) := by decide +kernel
theorem dX2_seerOfMost_16 : decode cX2_seerOfMost 16 = .ok (.getfield 35, 3) := by decide +kernel
theorem dX2_seerOfMost_19 : decode cX2_seerOfMost 19 = .ok (.iload_n 3, 1) := by decide +kernel
theorem dX2_seerOfMost_20 : decode cX2_seerOfMost 20 = .ok (.iload_n 1, 1) := by decide +kernel
theorem dX2_seerOfMost_21 : decode cX2_seerOfMost 21 = .ok (.invokevirtual 105, 3) := by decide +kernel
theorem dX2_seerOfMost_24 : decode cX2_seerOfMost 24 = .ok (.aload_n 0, 1) := by decide +kernel
theorem dX2_seerOfMost_25 : decode cX2_seerOfMost 25 = .ok (.getfield 35, 3) := by decide +kernel
theorem dX2_seerOfMost_28 : decode cX2_seerOfMost 28 = .ok (.iload_n 2, 1) := by decide +kernel
theorem dX2_seerOfMost_29 : decode cX2_seerOfMost 29 = .ok (.iload_n 1, 1) := by decide +kernel
theorem dX2_seerOfMost_30 : decode cX2_seerOfMost 30 = .ok (.invokevirtual 105, 3) := by decide +kernel
theorem dX2_seerOfMost_33 : decode cX2_seerOfMost 33 = .ok (.if_icmp .le 5, 3) := by decide +kernel
theorem dX2_seerOfMost_36 : decode cX2_seerOfMost 36 = .ok (.iload_n 3, 1) := by decide +kernel
theorem dX2_seerOfMost_37 : decode cX2_seerOfMost 37 = .ok (.istore_n 2, 1) := by decide +kernel
theorem dX2_seerOfMost_38 : decode cX2_seerOfMost 38 = .ok (.iinc 3 1, 3) := by decide +kernel
theorem dX2_seerOfMost_41 : decode cX2_seerOfMost 41 = .ok (.goto (-37), 3) := by decide +kernel
theorem dX2_seerOfMost_44 : decode cX2_seerOfMost 44 = .ok (.iload_n 2, 1) := by decide +kernel
theorem dX2_seerOfMost_45 : decode cX2_seerOfMost 45 = .ok (.ireturn, 1) := by decide +kernel
theorem dX2_colourOfMost_0 : decode cX2_colourOfMost 0 = .ok (.iconst 0, 1) := by decide +kernel
theorem dX2_colourOfMost_1 : decode cX2_colourOfMost 1 = .ok (.istore 4, 2) := by decide +kernel
theorem dX2_colourOfMost_3 : decode cX2_colourOfMost 3 = .ok (.aload_n 0, 1) := by decide +kernel
theorem dX2_colourOfMost_4 : decode cX2_colourOfMost 4 = .ok (.aload_n 1, 1) := by decide +kernel
theorem dX2_colourOfMost_5 : decode cX2_colourOfMost 5 = .ok (.iload_n 2, 1) := by decide +kernel
theorem dX2_colourOfMost_6 : decode cX2_colourOfMost 6 = .ok (.iload_n 3, 1) := by decide +kernel
theorem dX2_colourOfMost_7 : decode cX2_colourOfMost 7 = .ok (.iconst 0, 1) := by decide +kernel
theorem dX2_colourOfMost_8 : decode cX2_colourOfMost 8 = .ok (.invokevirtual 152, 3) := by decide +kernel
theorem dX2_colourOfMost_11 : decode cX2_colourOfMost 11 = .ok (.istore 5, 2) := by decide +kernel
theorem dX2_colourOfMost_13 : decode cX2_colourOfMost 13 = .ok (.iconst 1, 1) := by decide +kernel
theorem dX2_colourOfMost_14 : decode cX2_colourOfMost 14 = .ok (.istore 6, 2) := by decide +kernel
theorem dX2_colourOfMost_16 : decode cX2_colourOfMost 16 = .ok (.iload 6, 2) := by decide +kernel
theorem dX2_colourOfMost_18 : decode cX2_colourOfMost 18 = .ok (.aload_n 0, 1) := by decide +kernel
theorem dX2_colourOfMost_19 : decode cX2_colourOfMost 19 = .ok (.getfield 31, 3) := by decide +kernel
theorem dX2_colourOfMost_22 : decode cX2_colourOfMost 22 = .ok (.getfield 64, 3) := by decide +kernel
theorem dX2_colourOfMost_25 : decode cX2_colourOfMost 25 = .ok (.if_icmp .ge 35, 3) := by decide +kernel
theorem dX2_colourOfMost_28 : decode cX2_colourOfMost 28 = .ok (.aload_n 0, 1) := by decide +kernel
theorem dX2_colourOfMost_29 : decode cX2_colourOfMost 29 = .ok (.aload_n 1, 1) := by decide +kernel
theorem dX2_colourOfMost_30 : decode cX2_colourOfMost 30 = .ok (.iload_n 2, 1) := by decide +kernel
theorem dX2_colourOfMost_31 : decode cX2_colourOfMost 31 = .ok (.iload_n 3, 1) := by decide +kernel
theorem dX2_colourOfMost_32 : decode cX2_colourOfMost 32 = .ok (.iload 6, 2) := by decide +kernel
theorem dX2_colourOfMost_34 : decode cX2_colourOfMost 34 = .ok (.invokevirtual 152, 3) := by decide +kernel
theorem dX2_colourOfMost_37 : decode cX2_colourOfMost 37 = .ok (.istore 7, 2) := by decide +kernel
theorem dX2_colourOfMost_39 : decode cX2_colourOfMost 39 = .ok (.iload 7, 2) := by decide +kernel
theorem dX2_colourOfMost_41 : decode cX2_colourOfMost 41 = .ok (.iload 5, 2) := by decide +kernel
theorem dX2_colourOfMost_43 : decode cX2_colourOfMost 43 = .ok (.if_icmp .le 11, 3) := by decide +kernel
theorem dX2_colourOfMost_46 : decode cX2_colourOfMost 46 = .ok (.iload 7, 2) := by decide +kernel
theorem dX2_colourOfMost_48 : decode cX2_colourOfMost 48 = .ok (.istore 5, 2) := by decide +kernel
theorem dX2_colourOfMost_50 : decode cX2_colourOfMost 50 = .ok (.iload 6, 2) := by decide +kernel
theorem dX2_colourOfMost_52 : decode cX2_colourOfMost 52 = .ok (.istore 4, 2) := by decide +kernel
theorem dX2_colourOfMost_54 : decode cX2_colourOfMost 54 = .ok (.iinc 6 1, 3) := by decide +kernel
theorem dX2_colourOfMost_57 : decode cX2_colourOfMost 57 = .ok (.goto (-41), 3) := by decide +kernel
theorem dX2_colourOfMost_60 : decode cX2_colourOfMost 60 = .ok (.iload 4, 2) := by decide +kernel
theorem dX2_colourOfMost_62 : decode cX2_colourOfMost 62 = .ok (.ireturn, 1) := by decide +kernel
theorem dX2_pointsOf_0 : decode cX2_pointsOf 0 = .ok (.iconst 0, 1) := by decide +kernel
theorem dX2_pointsOf_1 : decode cX2_pointsOf 1 = .ok (.istore 5, 2) := by decide +kernel
theorem dX2_pointsOf_3 : decode cX2_pointsOf 3 = .ok (.iconst 0, 1) := by decide +kernel
theorem dX2_pointsOf_4 : decode cX2_pointsOf 4 = .ok (.istore 6, 2) := by decide +kernel
theorem dX2_pointsOf_6 : decode cX2_pointsOf 6 = .ok (.iload 6, 2) := by decide +kernel
theorem dX2_pointsOf_8 : decode cX2_pointsOf 8 = .ok (.aload_n 0, 1) := by decide +kernel
theorem dX2_pointsOf_9 : decode cX2_pointsOf 9 = .ok (.getfield 31, 3) := by decide +kernel
theorem dX2_pointsOf_12 : decode cX2_pointsOf 12 = .ok (.getfield 102, 3) := by decide +kernel
theorem dX2_pointsOf_15 : decode cX2_pointsOf 15 = .ok (.if_icmp .ge 86, 3) := by decide +kernel
theorem dX2_pointsOf_18 : decode cX2_pointsOf 18 = .ok (.aload_n 0, 1) := by decide +kernel
theorem dX2_pointsOf_19 : decode cX2_pointsOf 19 = .ok (.getfield 35, 3) := by decide +kernel
theorem dX2_pointsOf_22 : decode cX2_pointsOf 22 = .ok (.iload 6, 2) := by decide +kernel
theorem dX2_pointsOf_24 : decode cX2_pointsOf 24 = .ok (.iload_n 2, 1) := by decide +kernel
theorem dX2_pointsOf_25 : decode cX2_pointsOf 25 = .ok (.invokevirtual 105, 3) := by decide +kernel
theorem dX2_pointsOf_28 : decode cX2_pointsOf 28 = .ok (.istore 7, 2) := by decide +kernel
theorem dX2_pointsOf_30 : decode cX2_pointsOf 30 = .ok (.iload_n 3, 1) := by decide +kernel
theorem dX2_pointsOf_31 : decode cX2_pointsOf 31 = .ok (.sipush 264, 3) := by decide +kernel
theorem dX2_pointsOf_34 : decode cX2_pointsOf 34 = .ok (.if_icmp .ne 23, 3) := by decide +kernel
theorem dX2_pointsOf_37 : decode cX2_pointsOf 37 = .ok (.iload 5, 2) := by decide +kernel
theorem dX2_pointsOf_39 : decode cX2_pointsOf 39 = .ok (.iload 7, 2) := by decide +kernel
theorem dX2_pointsOf_41 : decode cX2_pointsOf 41 = .ok (.aload_n 1, 1) := by decide +kernel
theorem dX2_pointsOf_42 : decode cX2_pointsOf 42 = .ok (.iload 6, 2) := by decide +kernel
theorem dX2_pointsOf_44 : decode cX2_pointsOf 44 = .ok (.iconst 4, 1) := by decide +kernel
theorem dX2_pointsOf_45 : decode cX2_pointsOf 45 = .ok (.imul, 1) := by decide +kernel
theorem dX2_pointsOf_46 : decode cX2_pointsOf 46 = .ok (.iload 4, 2) := by decide +kernel
theorem dX2_pointsOf_48 : decode cX2_pointsOf 48 = .ok (.iadd, 1) := by decide +kernel
theorem dX2_pointsOf_49 : decode cX2_pointsOf 49 = .ok (.iaload, 1) := by decide +kernel
theorem dX2_pointsOf_50 : decode cX2_pointsOf 50 = .ok (.imul, 1) := by decide +kernel
theorem dX2_pointsOf_51 : decode cX2_pointsOf 51 = .ok (.iadd, 1) := by decide +kernel
theorem dX2_pointsOf_52 : decode cX2_pointsOf 52 = .ok (.istore 5, 2) := by decide +kernel
theorem dX2_pointsOf_54 : decode cX2_pointsOf 54 = .ok (.goto 41, 3) := by decide +kernel
theorem dX2_pointsOf_57 : decode cX2_pointsOf 57 = .ok (.iload 7, 2) := by decide +kernel
theorem dX2_pointsOf_59 : decode cX2_pointsOf 59 = .ok (.ifCond .le 36, 3) := by decide +kernel
theorem dX2_pointsOf_62 : decode cX2_pointsOf 62 = .ok (.aload_n 0, 1) := by decide +kernel
theorem dX2_pointsOf_63 : decode cX2_pointsOf 63 = .ok (.getfield 31, 3) := by decide +kernel
theorem dX2_pointsOf_66 : decode cX2_pointsOf 66 = .ok (.aload_n 1, 1) := by decide +kernel
theorem dX2_pointsOf_67 : decode cX2_pointsOf 67 = .ok (.iload 6, 2) := by decide +kernel
theorem dX2_pointsOf_69 : decode cX2_pointsOf 69 = .ok (.invokevirtual 92, 3) := by decide +kernel
theorem dX2_pointsOf_72 : decode cX2_pointsOf 72 = .ok (.iload 4, 2) := by decide +kernel
theorem dX2_pointsOf_74 : decode cX2_pointsOf 74 = .ok (.if_icmp .ne 21, 3) := by decide +kernel
theorem dX2_pointsOf_77 : decode cX2_pointsOf 77 = .ok (.iload 5, 2) := by decide +kernel
theorem dX2_pointsOf_79 : decode cX2_pointsOf 79 = .ok (.iload_n 3, 1) := by decide +kernel
theorem dX2_pointsOf_80 : decode cX2_pointsOf 80 = .ok (.sipush 262, 3) := by decide +kernel
theorem dX2_pointsOf_83 : decode cX2_pointsOf 83 = .ok (.if_icmp .ne 7, 3) := by decide +kernel
theorem dX2_pointsOf_86 : decode cX2_pointsOf 86 = .ok (.iconst 1, 1) := by decide +kernel
theorem dX2_pointsOf_87 : decode cX2_pointsOf 87 = .ok (.goto 5, 3) := by decide +kernel
theorem dX2_pointsOf_90 : decode cX2_pointsOf 90 = .ok (.iload 7, 2) := by decide +kernel
theorem dX2_pointsOf_92 : decode cX2_pointsOf 92 = .ok (.iadd, 1) := by decide +kernel
theorem dX2_pointsOf_93 : decode cX2_pointsOf 93 = .ok (.istore 5, 2) := by decide +kernel
theorem dX2_pointsOf_95 : decode cX2_pointsOf 95 = .ok (.iinc 6 1, 3) := by decide +kernel
theorem dX2_pointsOf_98 : decode cX2_pointsOf 98 = .ok (.goto (-92), 3) := by decide +kernel
theorem dX2_pointsOf_101 : decode cX2_pointsOf 101 = .ok (.iload 5, 2) := by decide +kernel
theorem dX2_pointsOf_103 : decode cX2_pointsOf 103 = .ok (.ireturn, 1) := by decide +kernel
theorem dX2_colourByTurn_0 : decode cX2_colourByTurn 0 = .ok (.aload_n 0, 1) := by decide +kernel
theorem dX2_colourByTurn_1 : decode cX2_colourByTurn 1 = .ok (.getfield 31, 3) := by decide +kernel
theorem dX2_colourByTurn_4 : decode cX2_colourByTurn 4 = .ok (.getfield 102, 3) := by decide +kernel
theorem dX2_colourByTurn_7 : decode cX2_colourByTurn 7 = .ok (.ifCond .ne 13, 3) := by decide +kernel
theorem dX2_colourByTurn_10 : decode cX2_colourByTurn 10 = .ok (.aload_n 0, 1) := by decide +kernel
theorem dX2_colourByTurn_11 : decode cX2_colourByTurn 11 = .ok (.getfield 31, 3) := by decide +kernel
theorem dX2_colourByTurn_14 : decode cX2_colourByTurn 14 = .ok (.getfield 81, 3) := by decide +kernel
theorem dX2_colourByTurn_17 : decode cX2_colourByTurn 17 = .ok (.iload_n 2, 1) := by decide +kernel
theorem dX2_colourByTurn_18 : decode cX2_colourByTurn 18 = .ok (.iaload, 1) := by decide +kernel
theorem dX2_colourByTurn_19 : decode cX2_colourByTurn 19 = .ok (.ireturn, 1) := by decide +kernel
theorem dX2_colourByTurn_20 : decode cX2_colourByTurn 20 = .ok (.aload_n 0, 1) := by decide +kernel
theorem dX2_colourByTurn_21 : decode cX2_colourByTurn 21 = .ok (.getfield 31, 3) := by decide +kernel
theorem dX2_colourByTurn_24 : decode cX2_colourByTurn 24 = .ok (.getfield 114, 3) := by decide +kernel
theorem dX2_colourByTurn_27 : decode cX2_colourByTurn 27 = .ok (.iload_n 2, 1) := by decide +kernel
theorem dX2_colourByTurn_28 : decode cX2_colourByTurn 28 = .ok (.iadd, 1) := by decide +kernel
theorem dX2_colourByTurn_29 : decode cX2_colourByTurn 29 = .ok (.aload_n 0, 1) := by decide +kernel
theorem dX2_colourByTurn_30 : decode cX2_colourByTurn 30 = .ok (.getfield 31, 3) := by decide +kernel
theorem dX2_colourByTurn_33 : decode cX2_colourByTurn 33 = .ok (.getfield 102, 3) := by decide +kernel
theorem dX2_colourByTurn_36 : decode cX2_colourByTurn 36 = .ok (.irem, 1) := by decide +kernel
theorem dX2_colourByTurn_37 : decode cX2_colourByTurn 37 = .ok (.istore_n 3, 1) := by decide +kernel
theorem dX2_colourByTurn_38 : decode cX2_colourByTurn 38 = .ok (.aload_n 0, 1) := by decide +kernel
theorem dX2_colourByTurn_39 : decode cX2_colourByTurn 39 = .ok (.getfield 35, 3) := by decide +kernel
theorem dX2_colourByTurn_42 : decode cX2_colourByTurn 42 = .ok (.iload_n 3, 1) := by decide +kernel
theorem dX2_colourByTurn_43 : decode cX2_colourByTurn 43 = .ok (.iload_n 2, 1) := by decide +kernel
theorem dX2_colourByTurn_44 : decode cX2_colourByTurn 44 = .ok (.invokevirtual 105, 3) := by decide +kernel
theorem dX2_colourByTurn_47 : decode cX2_colourByTurn 47 = .ok (.ifCond .le 15, 3) := by decide +kernel
theorem dX2_colourByTurn_50 : decode cX2_colourByTurn 50 = .ok (.aload_n 0, 1) := by decide +kernel
theorem dX2_colourByTurn_51 : decode cX2_colourByTurn 51 = .ok (.getfield 31, 3) := by decide +kernel
theorem dX2_colourByTurn_54 : decode cX2_colourByTurn 54 = .ok (.aload_n 1, 1) := by decide +kernel
theorem dX2_colourByTurn_55 : decode cX2_colourByTurn 55 = .ok (.iload_n 3, 1) := by decide +kernel
theorem dX2_colourByTurn_56 : decode cX2_colourByTurn 56 = .ok (.invokevirtual 92, 3) := by decide +kernel
theorem dX2_colourByTurn_59 : decode cX2_colourByTurn 59 = .ok (.goto 12, 3) := by decide +kernel
theorem dX2_colourByTurn_62 : decode cX2_colourByTurn 62 = .ok (.aload_n 0, 1) := by decide +kernel
theorem dX2_colourByTurn_63 : decode cX2_colourByTurn 63 = .ok (.getfield 31, 3) := by decide +kernel
theorem dX2_colourByTurn_66 : decode cX2_colourByTurn 66 = .ok (.getfield 81, 3) := by decide +kernel
theorem dX2_colourByTurn_69 : decode cX2_colourByTurn 69 = .ok (.iload_n 2, 1) := by decide +kernel
theorem dX2_colourByTurn_70 : decode cX2_colourByTurn 70 = .ok (.iaload, 1) := by decide +kernel
theorem dX2_colourByTurn_71 : decode cX2_colourByTurn 71 = .ok (.ireturn, 1) := by decide +kernel
theorem dX3_init_0 : decode cX3_init 0 = .ok (.aload_n 0, 1) := by decide +kernel
theorem dX3_init_1 : decode cX3_init 1 = .ok (.invokespecial 3, 3) := by decide +kernel
theorem dX3_init_4 : decode cX3_init 4 = .ok (.aload_n 0, 1) := by decide +kernel
theorem dX3_init_5 : decode cX3_init 5 = .ok (.bipush 7, 2) := by decide +kernel
theorem dX3_init_7 : decode cX3_init 7 = .ok (.newarray .int, 2) := by decide +kernel
theorem dX3_init_9 : decode cX3_init 9 = .ok (.putfield 9, 3) := by decide +kernel
theorem dX3_init_12 : decode cX3_init 12 = .ok (.aload_n 0, 1) := by decide +kernel
theorem dX3_init_13 : decode cX3_init 13 = .ok (.bipush 56, 2) := by decide +kernel
theorem dX3_init_15 : decode cX3_init 15 = .ok (.newarray .int, 2) := by decide +kernel
theorem dX3_init_17 : decode cX3_init 17 = .ok (.putfield 15, 3) := by decide +kernel
theorem dX3_init_20 : decode cX3_init 20 = .ok (.aload_n 0, 1) := by decide +kernel
theorem dX3_init_21 : decode cX3_init 21 = .ok (.sipush 256, 3) := by decide +kernel
theorem dX3_init_24 : decode cX3_init 24 = .ok (.newarray .int, 2) := by decide +kernel
theorem dX3_init_26 : decode cX3_init 26 = .ok (.putfield 18, 3) := by decide +kernel
theorem dX3_init_29 : decode cX3_init 29 = .ok (.aload_n 0, 1) := by decide +kernel
theorem dX3_init_30 : decode cX3_init 30 = .ok (.aload_n 1, 1) := by decide +kernel
theorem dX3_init_31 : decode cX3_init 31 = .ok (.putfield 21, 3) := by decide +kernel
theorem dX3_init_34 : decode cX3_init 34 = .ok (.aload_n 0, 1) := by decide +kernel
theorem dX3_init_35 : decode cX3_init 35 = .ok (.aload_n 2, 1) := by decide +kernel
theorem dX3_init_36 : decode cX3_init 36 = .ok (.putfield 25, 3) := by decide +kernel
theorem dX3_init_39 : decode cX3_init 39 = .ok (.return_, 1) := by decide +kernel
theorem dX3_greatestSum_0 : decode cX3_greatestSum 0 = .ok (.aload_n 0, 1) := by decide +kernel
theorem dX3_greatestSum_1 : decode cX3_greatestSum 1 = .ok (.getfield 18, 3) := by decide +kernel
theorem dX3_greatestSum_4 : decode cX3_greatestSum 4 = .ok (.iconst 0, 1) := by decide +kernel
theorem dX3_greatestSum_5 : decode cX3_greatestSum 5 = .ok (.iaload, 1) := by decide +kernel
theorem dX3_greatestSum_6 : decode cX3_greatestSum 6 = .ok (.ireturn, 1) := by decide +kernel
theorem dX3_plan_0 : decode cX3_plan 0 = .ok (.aload_n 0, 1) := by decide +kernel
theorem dX3_plan_1 : decode cX3_plan 1 = .ok (.getfield 25, 3) := by decide +kernel
theorem dX3_plan_4 : decode cX3_plan 4 = .ok (.invokevirtual 29, 3) := by decide +kernel
theorem dX3_plan_7 : decode cX3_plan 7 = .ok (.iconst 0, 1) := by decide +kernel
theorem dX3_plan_8 : decode cX3_plan 8 = .ok (.istore_n 1, 1) := by decide +kernel
theorem dX3_plan_9 : decode cX3_plan 9 = .ok (.iload_n 1, 1) := by decide +kernel
theorem dX3_plan_10 : decode cX3_plan 10 = .ok (.aload_n 0, 1) := by decide +kernel
theorem dX3_plan_11 : decode cX3_plan 11 = .ok (.getfield 21, 3) := by decide +kernel
theorem dX3_plan_14 : decode cX3_plan 14 = .ok (.getfield 34, 3) := by decide +kernel
theorem dX3_plan_17 : decode cX3_plan 17 = .ok (.if_icmp .ge 50, 3) := by decide +kernel
theorem dX3_plan_20 : decode cX3_plan 20 = .ok (.iconst 0, 1) := by decide +kernel
theorem dX3_plan_21 : decode cX3_plan 21 = .ok (.istore_n 2, 1) := by decide +kernel
theorem dX3_plan_22 : decode cX3_plan 22 = .ok (.iload_n 2, 1) := by decide +kernel
theorem dX3_plan_23 : decode cX3_plan 23 = .ok (.bipush 8, 2) := by decide +kernel
theorem dX3_plan_25 : decode cX3_plan 25 = .ok (.if_icmp .ge 36, 3) := by decide +kernel
theorem dX3_plan_28 : decode cX3_plan 28 = .ok (.aload_n 0, 1) := by decide +kernel
theorem dX3_plan_29 : decode cX3_plan 29 = .ok (.getfield 15, 3) := by decide +kernel
theorem dX3_plan_32 : decode cX3_plan 32 = .ok (.iload_n 1, 1) := by decide +kernel
theorem dX3_plan_33 : decode cX3_plan 33 = .ok (.bipush 8, 2) := by decide +kernel
theorem dX3_plan_35 : decode cX3_plan 35 = .ok (.imul, 1) := by decide +kernel
theorem dX3_plan_36 : decode cX3_plan 36 = .ok (.iload_n 2, 1) := by decide +kernel
theorem dX3_plan_37 : decode cX3_plan 37 = .ok (.iadd, 1) := by decide +kernel
theorem dX3_plan_38 : decode cX3_plan 38 = .ok (.aload_n 0, 1) := by decide +kernel
theorem dX3_plan_39 : decode cX3_plan 39 = .ok (.getfield 25, 3) := by decide +kernel
theorem dX3_plan_42 : decode cX3_plan 42 = .ok (.iload_n 1, 1) := by decide +kernel
theorem dX3_plan_43 : decode cX3_plan 43 = .ok (.iload_n 2, 1) := by decide +kernel
theorem dX3_plan_44 : decode cX3_plan 44 = .ok (.aload_n 0, 1) := by decide +kernel
theorem dX3_plan_45 : decode cX3_plan 45 = .ok (.getfield 21, 3) := by decide +kernel
theorem dX3_plan_48 : decode cX3_plan 48 = .ok (.getfield 40, 3) := by decide +kernel
theorem dX3_plan_51 : decode cX3_plan 51 = .ok (.invokevirtual 43, 3) := by decide +kernel
theorem dX3_plan_54 : decode cX3_plan 54 = .ok (.iastore, 1) := by decide +kernel
theorem dX3_plan_55 : decode cX3_plan 55 = .ok (.iinc 2 1, 3) := by decide +kernel
theorem dX3_plan_58 : decode cX3_plan 58 = .ok (.goto (-36), 3) := by decide +kernel
theorem dX3_plan_61 : decode cX3_plan 61 = .ok (.iinc 1 1, 3) := by decide +kernel
theorem dX3_plan_64 : decode cX3_plan 64 = .ok (.goto (-55), 3) := by decide +kernel
theorem dX3_plan_67 : decode cX3_plan 67 = .ok (.aload_n 0, 1) := by decide +kernel
theorem dX3_plan_68 : decode cX3_plan 68 = .ok (.getfield 18, 3) := by decide +kernel
theorem dX3_plan_71 : decode cX3_plan 71 = .ok (.arraylength, 1) := by decide +kernel
theorem dX3_plan_72 : decode cX3_plan 72 = .ok (.iconst 1, 1) := by decide +kernel
theorem dX3_plan_73 : decode cX3_plan 73 = .ok (.isub, 1) := by decide +kernel
theorem dX3_plan_74 : decode cX3_plan 74 = .ok (.istore_n 1, 1) := by decide +kernel
theorem dX3_plan_75 : decode cX3_plan 75 = .ok (.iload_n 1, 1) := by decide +kernel
theorem dX3_plan_76 : decode cX3_plan 76 = .ok (.ifCond .lt 20, 3) := by decide +kernel
theorem dX3_plan_79 : decode cX3_plan 79 = .ok (.aload_n 0, 1) := by decide +kernel
theorem dX3_plan_80 : decode cX3_plan 80 = .ok (.getfield 18, 3) := by decide +kernel
theorem dX3_plan_83 : decode cX3_plan 83 = .ok (.iload_n 1, 1) := by decide +kernel
theorem dX3_plan_84 : decode cX3_plan 84 = .ok (.aload_n 0, 1) := by decide +kernel
theorem dX3_plan_85 : decode cX3_plan 85 = .ok (.iload_n 1, 1) := by decide +kernel
theorem dX3_plan_86 : decode cX3_plan 86 = .ok (.invokevirtual 47, 3) := by decide +kernel
theorem dX3_plan_89 : decode cX3_plan 89 = .ok (.iastore, 1) := by decide +kernel
theorem dX3_plan_90 : decode cX3_plan 90 = .ok (.iinc 1 (-1), 3) := by decide +kernel
theorem dX3_plan_93 : decode cX3_plan 93 = .ok (.goto (-18), 3) := by decide +kernel
theorem dX3_plan_96 : decode cX3_plan 96 = .ok (.iconst 0, 1) := by decide +kernel
theorem dX3_plan_97 : decode cX3_plan 97 = .ok (.istore_n 1, 1) := by decide +kernel
theorem dX3_plan_98 : decode cX3_plan 98 = .ok (.iconst 0, 1) := by decide +kernel
theorem dX3_plan_99 : decode cX3_plan 99 = .ok (.istore_n 2, 1) := by decide +kernel
theorem dX3_plan_100 : decode cX3_plan 100 = .ok (.iload_n 2, 1) := by decide +kernel
theorem dX3_plan_101 : decode cX3_plan 101 = .ok (.aload_n 0, 1) := by decide +kernel
theorem dX3_plan_102 : decode cX3_plan 102 = .ok (.getfield 21, 3) := by decide +kernel
theorem dX3_plan_105 : decode cX3_plan 105 = .ok (.getfield 34, 3) := by decide +kernel
theorem dX3_plan_108 : decode cX3_plan 108 = .ok (.if_icmp .ge 32, 3) := by decide +kernel
theorem dX3_plan_111 : decode cX3_plan 111 = .ok (.aload_n 0, 1) := by decide +kernel
theorem dX3_plan_112 : decode cX3_plan 112 = .ok (.getfield 9, 3) := by decide +kernel
theorem dX3_plan_115 : decode cX3_plan 115 = .ok (.iload_n 2, 1) := by decide +kernel
theorem dX3_plan_116 : decode cX3_plan 116 = .ok (.aload_n 0, 1) := by decide +kernel
theorem dX3_plan_117 : decode cX3_plan 117 = .ok (.iload_n 2, 1) := by decide +kernel
theorem dX3_plan_118 : decode cX3_plan 118 = .ok (.iload_n 1, 1) := by decide +kernel
theorem dX3_plan_119 : decode cX3_plan 119 = .ok (.invokevirtual 51, 3) := by decide +kernel
theorem dX3_plan_122 : decode cX3_plan 122 = .ok (.iastore, 1) := by decide +kernel
theorem dX3_plan_123 : decode cX3_plan 123 = .ok (.iload_n 1, 1) := by decide +kernel
theorem dX3_plan_124 : decode cX3_plan 124 = .ok (.iconst 1, 1) := by decide +kernel
theorem dX3_plan_125 : decode cX3_plan 125 = .ok (.aload_n 0, 1) := by decide +kernel
theorem dX3_plan_126 : decode cX3_plan 126 = .ok (.getfield 9, 3) := by decide +kernel
theorem dX3_plan_129 : decode cX3_plan 129 = .ok (.iload_n 2, 1) := by decide +kernel
theorem dX3_plan_130 : decode cX3_plan 130 = .ok (.iaload, 1) := by decide +kernel
theorem dX3_plan_131 : decode cX3_plan 131 = .ok (.ishl, 1) := by decide +kernel
theorem dX3_plan_132 : decode cX3_plan 132 = .ok (.ior, 1) := by decide +kernel
theorem dX3_plan_133 : decode cX3_plan 133 = .ok (.istore_n 1, 1) := by decide +kernel
theorem dX3_plan_134 : decode cX3_plan 134 = .ok (.iinc 2 1, 3) := by decide +kernel
theorem dX3_plan_137 : decode cX3_plan 137 = .ok (.goto (-37), 3) := by decide +kernel
theorem dX3_plan_140 : decode cX3_plan 140 = .ok (.return_, 1) := by decide +kernel
theorem dX3_firstSwap_0 : decode cX3_firstSwap 0 = .ok (.aload_n 0, 1) := by decide +kernel
theorem dX3_firstSwap_1 : decode cX3_firstSwap 1 = .ok (.getfield 25, 3) := by decide +kernel
theorem dX3_firstSwap_4 : decode cX3_firstSwap 4 = .ok (.invokevirtual 29, 3) := by decide +kernel
theorem dX3_firstSwap_7 : decode cX3_firstSwap 7 = .ok (.iconst 0, 1) := by decide +kernel
theorem dX3_firstSwap_8 : decode cX3_firstSwap 8 = .ok (.istore_n 1, 1) := by decide +kernel
theorem dX3_firstSwap_9 : decode cX3_firstSwap 9 = .ok (.iload_n 1, 1) := by decide +kernel
theorem dX3_firstSwap_10 : decode cX3_firstSwap 10 = .ok (.aload_n 0, 1) := by decide +kernel
theorem dX3_firstSwap_11 : decode cX3_firstSwap 11 = .ok (.getfield 21, 3) := by decide +kernel
theorem dX3_firstSwap_14 : decode cX3_firstSwap 14 = .ok (.getfield 34, 3) := by decide +kernel
theorem dX3_firstSwap_17 : decode cX3_firstSwap 17 = .ok (.if_icmp .ge 55, 3) := by decide +kernel
theorem dX3_firstSwap_20 : decode cX3_firstSwap 20 = .ok (.iload_n 1, 1) := by decide +kernel
theorem dX3_firstSwap_21 : decode cX3_firstSwap 21 = .ok (.iconst 1, 1) := by decide +kernel
theorem dX3_firstSwap_22 : decode cX3_firstSwap 22 = .ok (.iadd, 1) := by decide +kernel
theorem dX3_firstSwap_23 : decode cX3_firstSwap 23 = .ok (.istore_n 2, 1) := by decide +kernel
theorem dX3_firstSwap_24 : decode cX3_firstSwap 24 = .ok (.iload_n 2, 1) := by decide +kernel
theorem dX3_firstSwap_25 : decode cX3_firstSwap 25 = .ok (.aload_n 0, 1) := by decide +kernel
theorem dX3_firstSwap_26 : decode cX3_firstSwap 26 = .ok (.getfield 21, 3) := by decide +kernel
theorem dX3_firstSwap_29 : decode cX3_firstSwap 29 = .ok (.getfield 34, 3) := by decide +kernel
theorem dX3_firstSwap_32 : decode cX3_firstSwap 32 = .ok (.if_icmp .ge 34, 3) := by decide +kernel
theorem dX3_firstSwap_35 : decode cX3_firstSwap 35 = .ok (.aload_n 0, 1) := by decide +kernel
theorem dX3_firstSwap_36 : decode cX3_firstSwap 36 = .ok (.iload_n 1, 1) := by decide +kernel
theorem dX3_firstSwap_37 : decode cX3_firstSwap 37 = .ok (.iload_n 2, 1) := by decide +kernel
theorem dX3_firstSwap_38 : decode cX3_firstSwap 38 = .ok (.invokevirtual 55, 3) := by decide +kernel
theorem dX3_firstSwap_41 : decode cX3_firstSwap 41 = .ok (.ifCond .eq 19, 3) := by decide +kernel
theorem dX3_firstSwap_44 : decode cX3_firstSwap 44 = .ok (.aload_n 0, 1) := by decide +kernel
theorem dX3_firstSwap_45 : decode cX3_firstSwap 45 = .ok (.iload_n 2, 1) := by decide +kernel
theorem dX3_firstSwap_46 : decode cX3_firstSwap 46 = .ok (.iload_n 1, 1) := by decide +kernel
theorem dX3_firstSwap_47 : decode cX3_firstSwap 47 = .ok (.invokevirtual 55, 3) := by decide +kernel
theorem dX3_firstSwap_50 : decode cX3_firstSwap 50 = .ok (.ifCond .eq 10, 3) := by decide +kernel
theorem dX3_firstSwap_53 : decode cX3_firstSwap 53 = .ok (.bipush 10, 2) := by decide +kernel
theorem dX3_firstSwap_55 : decode cX3_firstSwap 55 = .ok (.iload_n 1, 1) := by decide +kernel
theorem dX3_firstSwap_56 : decode cX3_firstSwap 56 = .ok (.imul, 1) := by decide +kernel
theorem dX3_firstSwap_57 : decode cX3_firstSwap 57 = .ok (.iload_n 2, 1) := by decide +kernel
theorem dX3_firstSwap_58 : decode cX3_firstSwap 58 = .ok (.iadd, 1) := by decide +kernel
theorem dX3_firstSwap_59 : decode cX3_firstSwap 59 = .ok (.ireturn, 1) := by decide +kernel
theorem dX3_firstSwap_60 : decode cX3_firstSwap 60 = .ok (.iinc 2 1, 3) := by decide +kernel
theorem dX3_firstSwap_63 : decode cX3_firstSwap 63 = .ok (.goto (-39), 3) := by decide +kernel
theorem dX3_firstSwap_66 : decode cX3_firstSwap 66 = .ok (.iinc 1 1, 3) := by decide +kernel
theorem dX3_firstSwap_69 : decode cX3_firstSwap 69 = .ok (.goto (-60), 3) := by decide +kernel
theorem dX3_firstSwap_72 : decode cX3_firstSwap 72 = .ok (.iconst (-1), 1) := by decide +kernel
theorem dX3_firstSwap_73 : decode cX3_firstSwap 73 = .ok (.ireturn, 1) := by decide +kernel
theorem dX3_likesHouseOf_0 : decode cX3_likesHouseOf 0 = .ok (.aload_n 0, 1) := by decide +kernel
theorem dX3_likesHouseOf_1 : decode cX3_likesHouseOf 1 = .ok (.getfield 25, 3) := by decide +kernel
theorem dX3_likesHouseOf_4 : decode cX3_likesHouseOf 4 = .ok (.iload_n 1, 1) := by decide +kernel
theorem dX3_likesHouseOf_5 : decode cX3_likesHouseOf 5 = .ok (.aload_n 0, 1) := by decide +kernel
theorem dX3_likesHouseOf_6 : decode cX3_likesHouseOf 6 = .ok (.getfield 21, 3) := by decide +kernel
theorem dX3_likesHouseOf_9 : decode cX3_likesHouseOf 9 = .ok (.getfield 59, 3) := by decide +kernel
theorem dX3_likesHouseOf_12 : decode cX3_likesHouseOf 12 = .ok (.iload_n 2, 1) := by decide +kernel
theorem dX3_likesHouseOf_13 : decode cX3_likesHouseOf 13 = .ok (.iaload, 1) := by decide +kernel
theorem dX3_likesHouseOf_14 : decode cX3_likesHouseOf 14 = .ok (.aload_n 0, 1) := by decide +kernel
theorem dX3_likesHouseOf_15 : decode cX3_likesHouseOf 15 = .ok (.getfield 21, 3) := by decide +kernel
theorem dX3_likesHouseOf_18 : decode cX3_likesHouseOf 18 = .ok (.getfield 40, 3) := by decide +kernel
theorem dX3_likesHouseOf_21 : decode cX3_likesHouseOf 21 = .ok (.invokevirtual 43, 3) := by decide +kernel
theorem dX3_likesHouseOf_24 : decode cX3_likesHouseOf 24 = .ok (.aload_n 0, 1) := by decide +kernel
theorem dX3_likesHouseOf_25 : decode cX3_likesHouseOf 25 = .ok (.getfield 25, 3) := by decide +kernel
theorem dX3_likesHouseOf_28 : decode cX3_likesHouseOf 28 = .ok (.iload_n 1, 1) := by decide +kernel
theorem dX3_likesHouseOf_29 : decode cX3_likesHouseOf 29 = .ok (.aload_n 0, 1) := by decide +kernel
theorem dX3_likesHouseOf_30 : decode cX3_likesHouseOf 30 = .ok (.getfield 21, 3) := by decide +kernel
theorem dX3_likesHouseOf_33 : decode cX3_likesHouseOf 33 = .ok (.getfield 40, 3) := by decide +kernel
theorem dX3_likesHouseOf_36 : decode cX3_likesHouseOf 36 = .ok (.invokevirtual 62, 3) := by decide +kernel
theorem dX3_likesHouseOf_39 : decode cX3_likesHouseOf 39 = .ok (.if_icmp .le 7, 3) := by decide +kernel
theorem dX3_likesHouseOf_42 : decode cX3_likesHouseOf 42 = .ok (.iconst 1, 1) := by decide +kernel
theorem dX3_likesHouseOf_43 : decode cX3_likesHouseOf 43 = .ok (.goto 4, 3) := by decide +kernel
theorem dX3_likesHouseOf_46 : decode cX3_likesHouseOf 46 = .ok (.iconst 0, 1) := by decide +kernel
theorem dX3_likesHouseOf_47 : decode cX3_likesHouseOf 47 = .ok (.ireturn, 1) := by decide +kernel
theorem dX3_greatestFrom_0 : decode cX3_greatestFrom 0 = .ok (.iload_n 1, 1) := by decide +kernel
theorem dX3_greatestFrom_1 : decode cX3_greatestFrom 1 = .ok (.invokestatic 66, 3) := by decide +kernel
theorem dX3_greatestFrom_4 : decode cX3_greatestFrom 4 = .ok (.istore_n 2, 1) := by decide +kernel
theorem dX3_greatestFrom_5 : decode cX3_greatestFrom 5 = .ok (.iload_n 2, 1) := by decide +kernel
theorem dX3_greatestFrom_6 : decode cX3_greatestFrom 6 = .ok (.aload_n 0, 1) := by decide +kernel
theorem dX3_greatestFrom_7 : decode cX3_greatestFrom 7 = .ok (.getfield 21, 3) := by decide +kernel
theorem dX3_greatestFrom_10 : decode cX3_greatestFrom 10 = .ok (.getfield 34, 3) := by decide +kernel
theorem dX3_greatestFrom_13 : decode cX3_greatestFrom 13 = .ok (.if_icmp .lt 5, 3) := by decide +kernel
theorem dX3_greatestFrom_16 : decode cX3_greatestFrom 16 = .ok (.iconst 0, 1) := by decide +kernel
theorem dX3_greatestFrom_17 : decode cX3_greatestFrom 17 = .ok (.ireturn, 1) := by decide +kernel
theorem dX3_greatestFrom_18 : decode cX3_greatestFrom 18 = .ok (.ldc 71, 2) := by decide +kernel
theorem dX3_greatestFrom_20 : decode cX3_greatestFrom 20 = .ok (.istore_n 3, 1) := by decide +kernel
theorem dX3_greatestFrom_21 : decode cX3_greatestFrom 21 = .ok (.iconst 0, 1) := by decide +kernel
theorem dX3_greatestFrom_22 : decode cX3_greatestFrom 22 = .ok (.istore 4, 2) := by decide +kernel
theorem dX3_greatestFrom_24 : decode cX3_greatestFrom 24 = .ok (.iload 4, 2) := by decide +kernel
theorem dX3_greatestFrom_26 : decode cX3_greatestFrom 26 = .ok (.bipush 8, 2) := by decide +kernel
theorem dX3_greatestFrom_28 : decode cX3_greatestFrom 28 = .ok (.if_icmp .ge 31, 3) := by decide +kernel
theorem dX3_greatestFrom_31 : decode cX3_greatestFrom 31 = .ok (.iload_n 1, 1) := by decide +kernel
theorem dX3_greatestFrom_32 : decode cX3_greatestFrom 32 = .ok (.iload 4, 2) := by decide +kernel
theorem dX3_greatestFrom_34 : decode cX3_greatestFrom 34 = .ok (.ishr, 1) := by decide +kernel
theorem dX3_greatestFrom_35 : decode cX3_greatestFrom 35 = .ok (.iconst 1, 1) := by decide +kernel
theorem dX3_greatestFrom_36 : decode cX3_greatestFrom 36 = .ok (.iand, 1) := by decide +kernel
theorem dX3_greatestFrom_37 : decode cX3_greatestFrom 37 = .ok (.ifCond .ne 16, 3) := by decide +kernel
theorem dX3_greatestFrom_40 : decode cX3_greatestFrom 40 = .ok (.iload_n 3, 1) := by decide +kernel
theorem dX3_greatestFrom_41 : decode cX3_greatestFrom 41 = .ok (.aload_n 0, 1) := by decide +kernel
theorem dX3_greatestFrom_42 : decode cX3_greatestFrom 42 = .ok (.iload_n 2, 1) := by decide +kernel
theorem dX3_greatestFrom_43 : decode cX3_greatestFrom 43 = .ok (.iload 4, 2) := by decide +kernel
theorem dX3_greatestFrom_45 : decode cX3_greatestFrom 45 = .ok (.iload_n 1, 1) := by decide +kernel
theorem dX3_greatestFrom_46 : decode cX3_greatestFrom 46 = .ok (.invokevirtual 72, 3) := by decide +kernel
theorem dX3_greatestFrom_49 : decode cX3_greatestFrom 49 = .ok (.invokestatic 76, 3) := by decide +kernel
theorem dX3_greatestFrom_52 : decode cX3_greatestFrom 52 = .ok (.istore_n 3, 1) := by decide +kernel
theorem dX3_greatestFrom_53 : decode cX3_greatestFrom 53 = .ok (.iinc 4 1, 3) := by decide +kernel
theorem dX3_greatestFrom_56 : decode cX3_greatestFrom 56 = .ok (.goto (-32), 3) := by decide +kernel
theorem dX3_greatestFrom_59 : decode cX3_greatestFrom 59 = .ok (.iload_n 3, 1) := by decide +kernel
theorem dX3_greatestFrom_60 : decode cX3_greatestFrom 60 = .ok (.ireturn, 1) := by decide +kernel
theorem dX3_sumWith_0 : decode cX3_sumWith 0 = .ok (.aload_n 0, 1) := by decide +kernel
theorem dX3_sumWith_1 : decode cX3_sumWith 1 = .ok (.getfield 15, 3) := by decide +kernel
theorem dX3_sumWith_4 : decode cX3_sumWith 4 = .ok (.iload_n 1, 1) := by decide +kernel
theorem dX3_sumWith_5 : decode cX3_sumWith 5 = .ok (.bipush 8, 2) := by decide +kernel
theorem dX3_sumWith_7 : decode cX3_sumWith 7 = .ok (.imul, 1) := by decide +kernel
theorem dX3_sumWith_8 : decode cX3_sumWith 8 = .ok (.iload_n 2, 1) := by decide +kernel
theorem dX3_sumWith_9 : decode cX3_sumWith 9 = .ok (.iadd, 1) := by decide +kernel
theorem dX3_sumWith_10 : decode cX3_sumWith 10 = .ok (.iaload, 1) := by decide +kernel
theorem dX3_sumWith_11 : decode cX3_sumWith 11 = .ok (.aload_n 0, 1) := by decide +kernel
theorem dX3_sumWith_12 : decode cX3_sumWith 12 = .ok (.getfield 18, 3) := by decide +kernel
theorem dX3_sumWith_15 : decode cX3_sumWith 15 = .ok (.iload_n 3, 1) := by decide +kernel
theorem dX3_sumWith_16 : decode cX3_sumWith 16 = .ok (.iconst 1, 1) := by decide +kernel
theorem dX3_sumWith_17 : decode cX3_sumWith 17 = .ok (.iload_n 2, 1) := by decide +kernel
theorem dX3_sumWith_18 : decode cX3_sumWith 18 = .ok (.ishl, 1) := by decide +kernel
theorem dX3_sumWith_19 : decode cX3_sumWith 19 = .ok (.ior, 1) := by decide +kernel
theorem dX3_sumWith_20 : decode cX3_sumWith 20 = .ok (.iaload, 1) := by decide +kernel
theorem dX3_sumWith_21 : decode cX3_sumWith 21 = .ok (.iadd, 1) := by decide +kernel
theorem dX3_sumWith_22 : decode cX3_sumWith 22 = .ok (.ireturn, 1) := by decide +kernel
theorem dX3_firstHouse_0 : decode cX3_firstHouse 0 = .ok (.iconst 0, 1) := by decide +kernel
theorem dX3_firstHouse_1 : decode cX3_firstHouse 1 = .ok (.istore_n 3, 1) := by decide +kernel
theorem dX3_firstHouse_2 : decode cX3_firstHouse 2 = .ok (.iload_n 3, 1) := by decide +kernel
theorem dX3_firstHouse_3 : decode cX3_firstHouse 3 = .ok (.bipush 8, 2) := by decide +kernel
theorem dX3_firstHouse_5 : decode cX3_firstHouse 5 = .ok (.if_icmp .ge 35, 3) := by decide +kernel
theorem dX3_firstHouse_8 : decode cX3_firstHouse 8 = .ok (.iload_n 2, 1) := by decide +kernel
theorem dX3_firstHouse_9 : decode cX3_firstHouse 9 = .ok (.iload_n 3, 1) := by decide +kernel
theorem dX3_firstHouse_10 : decode cX3_firstHouse 10 = .ok (.ishr, 1) := by decide +kernel
theorem dX3_firstHouse_11 : decode cX3_firstHouse 11 = .ok (.iconst 1, 1) := by decide +kernel
theorem dX3_firstHouse_12 : decode cX3_firstHouse 12 = .ok (.iand, 1) := by decide +kernel
theorem dX3_firstHouse_13 : decode cX3_firstHouse 13 = .ok (.ifCond .ne 21, 3) := by decide +kernel
theorem dX3_firstHouse_16 : decode cX3_firstHouse 16 = .ok (.aload_n 0, 1) := by decide +kernel
theorem dX3_firstHouse_17 : decode cX3_firstHouse 17 = .ok (.iload_n 1, 1) := by decide +kernel
theorem dX3_firstHouse_18 : decode cX3_firstHouse 18 = .ok (.iload_n 3, 1) := by decide +kernel
theorem dX3_firstHouse_19 : decode cX3_firstHouse 19 = .ok (.iload_n 2, 1) := by decide +kernel
theorem dX3_firstHouse_20 : decode cX3_firstHouse 20 = .ok (.invokevirtual 72, 3) := by decide +kernel
theorem dX3_firstHouse_23 : decode cX3_firstHouse 23 = .ok (.aload_n 0, 1) := by decide +kernel
theorem dX3_firstHouse_24 : decode cX3_firstHouse 24 = .ok (.getfield 18, 3) := by decide +kernel
theorem dX3_firstHouse_27 : decode cX3_firstHouse 27 = .ok (.iload_n 2, 1) := by decide +kernel
theorem dX3_firstHouse_28 : decode cX3_firstHouse 28 = .ok (.iaload, 1) := by decide +kernel
theorem dX3_firstHouse_29 : decode cX3_firstHouse 29 = .ok (.if_icmp .ne 5, 3) := by decide +kernel
theorem dX3_firstHouse_32 : decode cX3_firstHouse 32 = .ok (.iload_n 3, 1) := by decide +kernel
theorem dX3_firstHouse_33 : decode cX3_firstHouse 33 = .ok (.ireturn, 1) := by decide +kernel
theorem dX3_firstHouse_34 : decode cX3_firstHouse 34 = .ok (.iinc 3 1, 3) := by decide +kernel
theorem dX3_firstHouse_37 : decode cX3_firstHouse 37 = .ok (.goto (-35), 3) := by decide +kernel
theorem dX3_firstHouse_40 : decode cX3_firstHouse 40 = .ok (.iconst 0, 1) := by decide +kernel
theorem dX3_firstHouse_41 : decode cX3_firstHouse 41 = .ok (.ireturn, 1) := by decide +kernel
theorem dX4_init_0 : decode cX4_init 0 = .ok (.aload_n 0, 1) := by decide +kernel
theorem dX4_init_1 : decode cX4_init 1 = .ok (.invokespecial 3, 3) := by decide +kernel
theorem dX4_init_4 : decode cX4_init 4 = .ok (.aload_n 0, 1) := by decide +kernel
theorem dX4_init_5 : decode cX4_init 5 = .ok (.iconst 0, 1) := by decide +kernel
theorem dX4_init_6 : decode cX4_init 6 = .ok (.putfield 9, 3) := by decide +kernel
theorem dX4_init_9 : decode cX4_init 9 = .ok (.aload_n 0, 1) := by decide +kernel
theorem dX4_init_10 : decode cX4_init 10 = .ok (.iconst (-1), 1) := by decide +kernel
theorem dX4_init_11 : decode cX4_init 11 = .ok (.putfield 15, 3) := by decide +kernel
theorem dX4_init_14 : decode cX4_init 14 = .ok (.aload_n 0, 1) := by decide +kernel
theorem dX4_init_15 : decode cX4_init 15 = .ok (.bipush 7, 2) := by decide +kernel
theorem dX4_init_17 : decode cX4_init 17 = .ok (.newarray .int, 2) := by decide +kernel
theorem dX4_init_19 : decode cX4_init 19 = .ok (.putfield 18, 3) := by decide +kernel
theorem dX4_init_22 : decode cX4_init 22 = .ok (.aload_n 0, 1) := by decide +kernel
theorem dX4_init_23 : decode cX4_init 23 = .ok (.bipush 7, 2) := by decide +kernel
theorem dX4_init_25 : decode cX4_init 25 = .ok (.newarray .int, 2) := by decide +kernel
theorem dX4_init_27 : decode cX4_init 27 = .ok (.putfield 22, 3) := by decide +kernel
theorem dX4_init_30 : decode cX4_init 30 = .ok (.aload_n 0, 1) := by decide +kernel
theorem dX4_init_31 : decode cX4_init 31 = .ok (.aload_n 1, 1) := by decide +kernel
theorem dX4_init_32 : decode cX4_init 32 = .ok (.putfield 25, 3) := by decide +kernel
theorem dX4_init_35 : decode cX4_init 35 = .ok (.aload_n 0, 1) := by decide +kernel
theorem dX4_init_36 : decode cX4_init 36 = .ok (.aload_n 2, 1) := by decide +kernel
theorem dX4_init_37 : decode cX4_init 37 = .ok (.putfield 29, 3) := by decide +kernel
theorem dX4_init_40 : decode cX4_init 40 = .ok (.return_, 1) := by decide +kernel
theorem dX4_consider_0 : decode cX4_consider 0 = .ok (.aload_n 0, 1) := by decide +kernel
theorem dX4_consider_1 : decode cX4_consider 1 = .ok (.iload_n 1, 1) := by decide +kernel
theorem dX4_consider_2 : decode cX4_consider 2 = .ok (.iload_n 2, 1) := by decide +kernel
theorem dX4_consider_3 : decode cX4_consider 3 = .ok (.invokevirtual 33, 3) := by decide +kernel
theorem dX4_consider_6 : decode cX4_consider 6 = .ok (.aload_n 0, 1) := by decide +kernel
theorem dX4_consider_7 : decode cX4_consider 7 = .ok (.iconst 0, 1) := by decide +kernel
theorem dX4_consider_8 : decode cX4_consider 8 = .ok (.putfield 9, 3) := by decide +kernel
theorem dX4_consider_11 : decode cX4_consider 11 = .ok (.aload_n 0, 1) := by decide +kernel
theorem dX4_consider_12 : decode cX4_consider 12 = .ok (.iconst (-1), 1) := by decide +kernel
theorem dX4_consider_13 : decode cX4_consider 13 = .ok (.putfield 15, 3) := by decide +kernel
theorem dX4_consider_16 : decode cX4_consider 16 = .ok (.iconst 0, 1) := by decide +kernel
theorem dX4_consider_17 : decode cX4_consider 17 = .ok (.istore 5, 2) := by decide +kernel
theorem dX4_consider_19 : decode cX4_consider 19 = .ok (.iload 5, 2) := by decide +kernel
theorem dX4_consider_21 : decode cX4_consider 21 = .ok (.iconst 1, 1) := by decide +kernel
theorem dX4_consider_22 : decode cX4_consider 22 = .ok (.aload_n 0, 1) := by decide +kernel
theorem dX4_consider_23 : decode cX4_consider 23 = .ok (.getfield 25, 3) := by decide +kernel
theorem dX4_consider_26 : decode cX4_consider 26 = .ok (.getfield 37, 3) := by decide +kernel
theorem dX4_consider_29 : decode cX4_consider 29 = .ok (.ishl, 1) := by decide +kernel
theorem dX4_consider_30 : decode cX4_consider 30 = .ok (.if_icmp .ge 52, 3) := by decide +kernel
theorem dX4_consider_33 : decode cX4_consider 33 = .ok (.aload_n 0, 1) := by decide +kernel
theorem dX4_consider_34 : decode cX4_consider 34 = .ok (.iload 5, 2) := by decide +kernel
theorem dX4_consider_36 : decode cX4_consider 36 = .ok (.iload_n 3, 1) := by decide +kernel
theorem dX4_consider_37 : decode cX4_consider 37 = .ok (.iload 4, 2) := by decide +kernel
theorem dX4_consider_39 : decode cX4_consider 39 = .ok (.invokevirtual 42, 3) := by decide +kernel
theorem dX4_consider_42 : decode cX4_consider 42 = .ok (.ifCond .eq 34, 3) := by decide +kernel
theorem dX4_consider_45 : decode cX4_consider 45 = .ok (.aload_n 0, 1) := by decide +kernel
theorem dX4_consider_46 : decode cX4_consider 46 = .ok (.dup, 1) := by decide +kernel
theorem dX4_consider_47 : decode cX4_consider 47 = .ok (.getfield 9, 3) := by decide +kernel
theorem dX4_consider_50 : decode cX4_consider 50 = .ok (.iconst 1, 1) := by decide +kernel
theorem dX4_consider_51 : decode cX4_consider 51 = .ok (.iadd, 1) := by decide +kernel
theorem dX4_consider_52 : decode cX4_consider 52 = .ok (.putfield 9, 3) := by decide +kernel
theorem dX4_consider_55 : decode cX4_consider 55 = .ok (.aload_n 0, 1) := by decide +kernel
theorem dX4_consider_56 : decode cX4_consider 56 = .ok (.aload_n 0, 1) := by decide +kernel
theorem dX4_consider_57 : decode cX4_consider 57 = .ok (.getfield 15, 3) := by decide +kernel
theorem dX4_consider_60 : decode cX4_consider 60 = .ok (.iconst (-1), 1) := by decide +kernel
theorem dX4_consider_61 : decode cX4_consider 61 = .ok (.if_icmp .ne 8, 3) := by decide +kernel
theorem dX4_consider_64 : decode cX4_consider 64 = .ok (.iload 5, 2) := by decide +kernel
theorem dX4_consider_66 : decode cX4_consider 66 = .ok (.goto 7, 3) := by decide +kernel
theorem dX4_consider_69 : decode cX4_consider 69 = .ok (.aload_n 0, 1) := by decide +kernel
theorem dX4_consider_70 : decode cX4_consider 70 = .ok (.getfield 15, 3) := by decide +kernel
theorem dX4_consider_73 : decode cX4_consider 73 = .ok (.putfield 15, 3) := by decide +kernel
theorem dX4_consider_76 : decode cX4_consider 76 = .ok (.iinc 5 1, 3) := by decide +kernel
theorem dX4_consider_79 : decode cX4_consider 79 = .ok (.goto (-60), 3) := by decide +kernel
theorem dX4_consider_82 : decode cX4_consider 82 = .ok (.return_, 1) := by decide +kernel
theorem dX4_weighGains_0 : decode cX4_weighGains 0 = .ok (.aload_n 0, 1) := by decide +kernel
theorem dX4_weighGains_1 : decode cX4_weighGains 1 = .ok (.getfield 29, 3) := by decide +kernel
theorem dX4_weighGains_4 : decode cX4_weighGains 4 = .ok (.invokevirtual 46, 3) := by decide +kernel
theorem dX4_weighGains_7 : decode cX4_weighGains 7 = .ok (.aload_n 0, 1) := by decide +kernel
theorem dX4_weighGains_8 : decode cX4_weighGains 8 = .ok (.getfield 25, 3) := by decide +kernel
theorem dX4_weighGains_11 : decode cX4_weighGains 11 = .ok (.getfield 51, 3) := by decide +kernel
theorem dX4_weighGains_14 : decode cX4_weighGains 14 = .ok (.iconst 0, 1) := by decide +kernel
theorem dX4_weighGains_15 : decode cX4_weighGains 15 = .ok (.aload_n 0, 1) := by decide +kernel
theorem dX4_weighGains_16 : decode cX4_weighGains 16 = .ok (.getfield 18, 3) := by decide +kernel
theorem dX4_weighGains_19 : decode cX4_weighGains 19 = .ok (.iconst 0, 1) := by decide +kernel
theorem dX4_weighGains_20 : decode cX4_weighGains 20 = .ok (.aload_n 0, 1) := by decide +kernel
theorem dX4_weighGains_21 : decode cX4_weighGains 21 = .ok (.getfield 18, 3) := by decide +kernel
theorem dX4_weighGains_24 : decode cX4_weighGains 24 = .ok (.arraylength, 1) := by decide +kernel
theorem dX4_weighGains_25 : decode cX4_weighGains 25 = .ok (.invokestatic 54, 3) := by decide +kernel
theorem dX4_weighGains_28 : decode cX4_weighGains 28 = .ok (.aload_n 0, 1) := by decide +kernel
theorem dX4_weighGains_29 : decode cX4_weighGains 29 = .ok (.getfield 25, 3) := by decide +kernel
theorem dX4_weighGains_32 : decode cX4_weighGains 32 = .ok (.iload_n 1, 1) := by decide +kernel
theorem dX4_weighGains_33 : decode cX4_weighGains 33 = .ok (.invokevirtual 60, 3) := by decide +kernel
theorem dX4_weighGains_36 : decode cX4_weighGains 36 = .ok (.ifCond .eq 10, 3) := by decide +kernel
theorem dX4_weighGains_39 : decode cX4_weighGains 39 = .ok (.aload_n 0, 1) := by decide +kernel
theorem dX4_weighGains_40 : decode cX4_weighGains 40 = .ok (.getfield 18, 3) := by decide +kernel
theorem dX4_weighGains_43 : decode cX4_weighGains 43 = .ok (.iload_n 1, 1) := by decide +kernel
theorem dX4_weighGains_44 : decode cX4_weighGains 44 = .ok (.iload_n 2, 1) := by decide +kernel
theorem dX4_weighGains_45 : decode cX4_weighGains 45 = .ok (.iastore, 1) := by decide +kernel
theorem dX4_weighGains_46 : decode cX4_weighGains 46 = .ok (.iconst 0, 1) := by decide +kernel
theorem dX4_weighGains_47 : decode cX4_weighGains 47 = .ok (.istore_n 3, 1) := by decide +kernel
theorem dX4_weighGains_48 : decode cX4_weighGains 48 = .ok (.iload_n 3, 1) := by decide +kernel
theorem dX4_weighGains_49 : decode cX4_weighGains 49 = .ok (.aload_n 0, 1) := by decide +kernel
theorem dX4_weighGains_50 : decode cX4_weighGains 50 = .ok (.getfield 25, 3) := by decide +kernel
theorem dX4_weighGains_53 : decode cX4_weighGains 53 = .ok (.getfield 37, 3) := by decide +kernel
theorem dX4_weighGains_56 : decode cX4_weighGains 56 = .ok (.if_icmp .ge 43, 3) := by decide +kernel
theorem dX4_weighGains_59 : decode cX4_weighGains 59 = .ok (.aload_n 0, 1) := by decide +kernel
theorem dX4_weighGains_60 : decode cX4_weighGains 60 = .ok (.getfield 22, 3) := by decide +kernel
theorem dX4_weighGains_63 : decode cX4_weighGains 63 = .ok (.iload_n 3, 1) := by decide +kernel
theorem dX4_weighGains_64 : decode cX4_weighGains 64 = .ok (.aload_n 0, 1) := by decide +kernel
theorem dX4_weighGains_65 : decode cX4_weighGains 65 = .ok (.getfield 29, 3) := by decide +kernel
theorem dX4_weighGains_68 : decode cX4_weighGains 68 = .ok (.iload_n 3, 1) := by decide +kernel
theorem dX4_weighGains_69 : decode cX4_weighGains 69 = .ok (.aload_n 0, 1) := by decide +kernel
theorem dX4_weighGains_70 : decode cX4_weighGains 70 = .ok (.getfield 18, 3) := by decide +kernel
theorem dX4_weighGains_73 : decode cX4_weighGains 73 = .ok (.invokevirtual 64, 3) := by decide +kernel
theorem dX4_weighGains_76 : decode cX4_weighGains 76 = .ok (.aload_n 0, 1) := by decide +kernel
theorem dX4_weighGains_77 : decode cX4_weighGains 77 = .ok (.getfield 29, 3) := by decide +kernel
theorem dX4_weighGains_80 : decode cX4_weighGains 80 = .ok (.iload_n 3, 1) := by decide +kernel
theorem dX4_weighGains_81 : decode cX4_weighGains 81 = .ok (.aload_n 0, 1) := by decide +kernel
theorem dX4_weighGains_82 : decode cX4_weighGains 82 = .ok (.getfield 25, 3) := by decide +kernel
theorem dX4_weighGains_85 : decode cX4_weighGains 85 = .ok (.getfield 51, 3) := by decide +kernel
theorem dX4_weighGains_88 : decode cX4_weighGains 88 = .ok (.invokevirtual 64, 3) := by decide +kernel
theorem dX4_weighGains_91 : decode cX4_weighGains 91 = .ok (.isub, 1) := by decide +kernel
theorem dX4_weighGains_92 : decode cX4_weighGains 92 = .ok (.iastore, 1) := by decide +kernel
theorem dX4_weighGains_93 : decode cX4_weighGains 93 = .ok (.iinc 3 1, 3) := by decide +kernel
theorem dX4_weighGains_96 : decode cX4_weighGains 96 = .ok (.goto (-48), 3) := by decide +kernel
theorem dX4_weighGains_99 : decode cX4_weighGains 99 = .ok (.return_, 1) := by decide +kernel
theorem dX4_isKept_0 : decode cX4_isKept 0 = .ok (.iload_n 1, 1) := by decide +kernel
theorem dX4_isKept_1 : decode cX4_isKept 1 = .ok (.invokestatic 68, 3) := by decide +kernel
theorem dX4_isKept_4 : decode cX4_isKept 4 = .ok (.istore 4, 2) := by decide +kernel
theorem dX4_isKept_6 : decode cX4_isKept 6 = .ok (.iconst 0, 1) := by decide +kernel
theorem dX4_isKept_7 : decode cX4_isKept 7 = .ok (.istore 5, 2) := by decide +kernel
theorem dX4_isKept_9 : decode cX4_isKept 9 = .ok (.iload 5, 2) := by decide +kernel
theorem dX4_isKept_11 : decode cX4_isKept 11 = .ok (.aload_n 0, 1) := by decide +kernel
theorem dX4_isKept_12 : decode cX4_isKept 12 = .ok (.getfield 25, 3) := by decide +kernel
theorem dX4_isKept_15 : decode cX4_isKept 15 = .ok (.getfield 37, 3) := by decide +kernel
theorem dX4_isKept_18 : decode cX4_isKept 18 = .ok (.if_icmp .ge 108, 3) := by decide +kernel
theorem dX4_isKept_21 : decode cX4_isKept 21 = .ok (.iload_n 1, 1) := by decide +kernel
theorem dX4_isKept_22 : decode cX4_isKept 22 = .ok (.iload 5, 2) := by decide +kernel
theorem dX4_isKept_24 : decode cX4_isKept 24 = .ok (.ishr, 1) := by decide +kernel
theorem dX4_isKept_25 : decode cX4_isKept 25 = .ok (.iconst 1, 1) := by decide +kernel
theorem dX4_isKept_26 : decode cX4_isKept 26 = .ok (.iand, 1) := by decide +kernel
theorem dX4_isKept_27 : decode cX4_isKept 27 = .ok (.iconst 1, 1) := by decide +kernel
theorem dX4_isKept_28 : decode cX4_isKept 28 = .ok (.if_icmp .ne 7, 3) := by decide +kernel
theorem dX4_isKept_31 : decode cX4_isKept 31 = .ok (.iconst 1, 1) := by decide +kernel
theorem dX4_isKept_32 : decode cX4_isKept 32 = .ok (.goto 4, 3) := by decide +kernel
theorem dX4_isKept_35 : decode cX4_isKept 35 = .ok (.iconst 0, 1) := by decide +kernel
theorem dX4_isKept_36 : decode cX4_isKept 36 = .ok (.istore 6, 2) := by decide +kernel
theorem dX4_isKept_38 : decode cX4_isKept 38 = .ok (.iload 6, 2) := by decide +kernel
theorem dX4_isKept_40 : decode cX4_isKept 40 = .ok (.ifCond .eq 10, 3) := by decide +kernel
theorem dX4_isKept_43 : decode cX4_isKept 43 = .ok (.iload 4, 2) := by decide +kernel
theorem dX4_isKept_45 : decode cX4_isKept 45 = .ok (.iconst 1, 1) := by decide +kernel
theorem dX4_isKept_46 : decode cX4_isKept 46 = .ok (.isub, 1) := by decide +kernel
theorem dX4_isKept_47 : decode cX4_isKept 47 = .ok (.goto 5, 3) := by decide +kernel
theorem dX4_isKept_50 : decode cX4_isKept 50 = .ok (.iload 4, 2) := by decide +kernel
theorem dX4_isKept_52 : decode cX4_isKept 52 = .ok (.istore 7, 2) := by decide +kernel
theorem dX4_isKept_54 : decode cX4_isKept 54 = .ok (.iload 7, 2) := by decide +kernel
theorem dX4_isKept_56 : decode cX4_isKept 56 = .ok (.iconst 1, 1) := by decide +kernel
theorem dX4_isKept_57 : decode cX4_isKept 57 = .ok (.iadd, 1) := by decide +kernel
theorem dX4_isKept_58 : decode cX4_isKept 58 = .ok (.iload_n 2, 1) := by decide +kernel
theorem dX4_isKept_59 : decode cX4_isKept 59 = .ok (.if_icmp .lt 13, 3) := by decide +kernel
theorem dX4_isKept_62 : decode cX4_isKept 62 = .ok (.aload_n 0, 1) := by decide +kernel
theorem dX4_isKept_63 : decode cX4_isKept 63 = .ok (.getfield 22, 3) := by decide +kernel
theorem dX4_isKept_66 : decode cX4_isKept 66 = .ok (.iload 5, 2) := by decide +kernel
theorem dX4_isKept_68 : decode cX4_isKept 68 = .ok (.iaload, 1) := by decide +kernel
theorem dX4_isKept_69 : decode cX4_isKept 69 = .ok (.goto 4, 3) := by decide +kernel
theorem dX4_isKept_72 : decode cX4_isKept 72 = .ok (.iconst 0, 1) := by decide +kernel
theorem dX4_isKept_73 : decode cX4_isKept 73 = .ok (.iload_n 3, 1) := by decide +kernel
theorem dX4_isKept_74 : decode cX4_isKept 74 = .ok (.isub, 1) := by decide +kernel
theorem dX4_isKept_75 : decode cX4_isKept 75 = .ok (.istore 8, 2) := by decide +kernel
theorem dX4_isKept_77 : decode cX4_isKept 77 = .ok (.iload 7, 2) := by decide +kernel
theorem dX4_isKept_79 : decode cX4_isKept 79 = .ok (.iload_n 2, 1) := by decide +kernel
theorem dX4_isKept_80 : decode cX4_isKept 80 = .ok (.if_icmp .lt 13, 3) := by decide +kernel
theorem dX4_isKept_83 : decode cX4_isKept 83 = .ok (.aload_n 0, 1) := by decide +kernel
theorem dX4_isKept_84 : decode cX4_isKept 84 = .ok (.getfield 22, 3) := by decide +kernel
theorem dX4_isKept_87 : decode cX4_isKept 87 = .ok (.iload 5, 2) := by decide +kernel
theorem dX4_isKept_89 : decode cX4_isKept 89 = .ok (.iaload, 1) := by decide +kernel
theorem dX4_isKept_90 : decode cX4_isKept 90 = .ok (.goto 4, 3) := by decide +kernel
theorem dX4_isKept_93 : decode cX4_isKept 93 = .ok (.iconst 0, 1) := by decide +kernel
theorem dX4_isKept_94 : decode cX4_isKept 94 = .ok (.istore 9, 2) := by decide +kernel
theorem dX4_isKept_96 : decode cX4_isKept 96 = .ok (.iload 6, 2) := by decide +kernel
theorem dX4_isKept_98 : decode cX4_isKept 98 = .ok (.ifCond .eq 13, 3) := by decide +kernel
theorem dX4_isKept_101 : decode cX4_isKept 101 = .ok (.iload 9, 2) := by decide +kernel
theorem dX4_isKept_103 : decode cX4_isKept 103 = .ok (.iload 8, 2) := by decide +kernel
theorem dX4_isKept_105 : decode cX4_isKept 105 = .ok (.if_icmp .le 15, 3) := by decide +kernel
theorem dX4_isKept_108 : decode cX4_isKept 108 = .ok (.goto 10, 3) := by decide +kernel
theorem dX4_isKept_111 : decode cX4_isKept 111 = .ok (.iload 8, 2) := by decide +kernel
theorem dX4_isKept_113 : decode cX4_isKept 113 = .ok (.iload 9, 2) := by decide +kernel
theorem dX4_isKept_115 : decode cX4_isKept 115 = .ok (.if_icmp .le 5, 3) := by decide +kernel
theorem dX4_isKept_118 : decode cX4_isKept 118 = .ok (.iconst 0, 1) := by decide +kernel
theorem dX4_isKept_119 : decode cX4_isKept 119 = .ok (.ireturn, 1) := by decide +kernel
theorem dX4_isKept_120 : decode cX4_isKept 120 = .ok (.iinc 5 1, 3) := by decide +kernel
theorem dX4_isKept_123 : decode cX4_isKept 123 = .ok (.goto (-114), 3) := by decide +kernel
theorem dX4_isKept_126 : decode cX4_isKept 126 = .ok (.iconst 1, 1) := by decide +kernel
theorem dX4_isKept_127 : decode cX4_isKept 127 = .ok (.ireturn, 1) := by decide +kernel
theorem dX5_init_0 : decode cX5_init 0 = .ok (.aload_n 0, 1) := by decide +kernel
theorem dX5_init_1 : decode cX5_init 1 = .ok (.invokespecial 3, 3) := by decide +kernel
theorem dX5_init_4 : decode cX5_init 4 = .ok (.aload_n 0, 1) := by decide +kernel
theorem dX5_init_5 : decode cX5_init 5 = .ok (.bipush 9, 2) := by decide +kernel
theorem dX5_init_7 : decode cX5_init 7 = .ok (.newarray .int, 2) := by decide +kernel
theorem dX5_init_9 : decode cX5_init 9 = .ok (.putfield 9, 3) := by decide +kernel
theorem dX5_init_12 : decode cX5_init 12 = .ok (.aload_n 0, 1) := by decide +kernel
theorem dX5_init_13 : decode cX5_init 13 = .ok (.bipush 81, 2) := by decide +kernel
theorem dX5_init_15 : decode cX5_init 15 = .ok (.newarray .int, 2) := by decide +kernel
theorem dX5_init_17 : decode cX5_init 17 = .ok (.putfield 15, 3) := by decide +kernel
theorem dX5_init_20 : decode cX5_init 20 = .ok (.aload_n 0, 1) := by decide +kernel
theorem dX5_init_21 : decode cX5_init 21 = .ok (.bipush 9, 2) := by decide +kernel
theorem dX5_init_23 : decode cX5_init 23 = .ok (.newarray .int, 2) := by decide +kernel
theorem dX5_init_25 : decode cX5_init 25 = .ok (.putfield 18, 3) := by decide +kernel
theorem dX5_init_28 : decode cX5_init 28 = .ok (.aload_n 0, 1) := by decide +kernel
theorem dX5_init_29 : decode cX5_init 29 = .ok (.bipush 9, 2) := by decide +kernel
theorem dX5_init_31 : decode cX5_init 31 = .ok (.newarray .int, 2) := by decide +kernel
theorem dX5_init_33 : decode cX5_init 33 = .ok (.putfield 21, 3) := by decide +kernel
theorem dX5_init_36 : decode cX5_init 36 = .ok (.aload_n 0, 1) := by decide +kernel
theorem dX5_init_37 : decode cX5_init 37 = .ok (.iconst 0, 1) := by decide +kernel
theorem dX5_init_38 : decode cX5_init 38 = .ok (.putfield 24, 3) := by decide +kernel
theorem dX5_init_41 : decode cX5_init 41 = .ok (.aload_n 0, 1) := by decide +kernel
theorem dX5_init_42 : decode cX5_init 42 = .ok (.iconst 0, 1) := by decide +kernel
theorem dX5_init_43 : decode cX5_init 43 = .ok (.putfield 28, 3) := by decide +kernel
theorem dX5_init_46 : decode cX5_init 46 = .ok (.aload_n 0, 1) := by decide +kernel
theorem dX5_init_47 : decode cX5_init 47 = .ok (.iconst (-1), 1) := by decide +kernel
theorem dX5_init_48 : decode cX5_init 48 = .ok (.putfield 31, 3) := by decide +kernel
theorem dX5_init_51 : decode cX5_init 51 = .ok (.aload_n 0, 1) := by decide +kernel
theorem dX5_init_52 : decode cX5_init 52 = .ok (.iconst 0, 1) := by decide +kernel
theorem dX5_init_53 : decode cX5_init 53 = .ok (.putfield 34, 3) := by decide +kernel
theorem dX5_init_56 : decode cX5_init 56 = .ok (.return_, 1) := by decide +kernel
theorem dX5_clear_0 : decode cX5_clear 0 = .ok (.aload_n 0, 1) := by decide +kernel
theorem dX5_clear_1 : decode cX5_clear 1 = .ok (.getfield 9, 3) := by decide +kernel
theorem dX5_clear_4 : decode cX5_clear 4 = .ok (.iconst 0, 1) := by decide +kernel
theorem dX5_clear_5 : decode cX5_clear 5 = .ok (.invokestatic 37, 3) := by decide +kernel
theorem dX5_clear_8 : decode cX5_clear 8 = .ok (.aload_n 0, 1) := by decide +kernel
theorem dX5_clear_9 : decode cX5_clear 9 = .ok (.getfield 15, 3) := by decide +kernel
theorem dX5_clear_12 : decode cX5_clear 12 = .ok (.iconst 0, 1) := by decide +kernel
theorem dX5_clear_13 : decode cX5_clear 13 = .ok (.invokestatic 37, 3) := by decide +kernel
theorem dX5_clear_16 : decode cX5_clear 16 = .ok (.return_, 1) := by decide +kernel
theorem dX5_copyFrom_0 : decode cX5_copyFrom 0 = .ok (.aload_n 1, 1) := by decide +kernel
theorem dX5_copyFrom_1 : decode cX5_copyFrom 1 = .ok (.getfield 9, 3) := by decide +kernel
theorem dX5_copyFrom_4 : decode cX5_copyFrom 4 = .ok (.iconst 0, 1) := by decide +kernel
theorem dX5_copyFrom_5 : decode cX5_copyFrom 5 = .ok (.aload_n 0, 1) := by decide +kernel
theorem dX5_copyFrom_6 : decode cX5_copyFrom 6 = .ok (.getfield 9, 3) := by decide +kernel
theorem dX5_copyFrom_9 : decode cX5_copyFrom 9 = .ok (.iconst 0, 1) := by decide +kernel
theorem dX5_copyFrom_10 : decode cX5_copyFrom 10 = .ok (.aload_n 0, 1) := by decide +kernel
theorem dX5_copyFrom_11 : decode cX5_copyFrom 11 = .ok (.getfield 9, 3) := by decide +kernel
theorem dX5_copyFrom_14 : decode cX5_copyFrom 14 = .ok (.arraylength, 1) := by decide +kernel
theorem dX5_copyFrom_15 : decode cX5_copyFrom 15 = .ok (.invokestatic 43, 3) := by decide +kernel
theorem dX5_copyFrom_18 : decode cX5_copyFrom 18 = .ok (.aload_n 1, 1) := by decide +kernel
theorem dX5_copyFrom_19 : decode cX5_copyFrom 19 = .ok (.getfield 15, 3) := by decide +kernel
theorem dX5_copyFrom_22 : decode cX5_copyFrom 22 = .ok (.iconst 0, 1) := by decide +kernel
theorem dX5_copyFrom_23 : decode cX5_copyFrom 23 = .ok (.aload_n 0, 1) := by decide +kernel
theorem dX5_copyFrom_24 : decode cX5_copyFrom 24 = .ok (.getfield 15, 3) := by decide +kernel
theorem dX5_copyFrom_27 : decode cX5_copyFrom 27 = .ok (.iconst 0, 1) := by decide +kernel
theorem dX5_copyFrom_28 : decode cX5_copyFrom 28 = .ok (.aload_n 0, 1) := by decide +kernel
theorem dX5_copyFrom_29 : decode cX5_copyFrom 29 = .ok (.getfield 15, 3) := by decide +kernel
theorem dX5_copyFrom_32 : decode cX5_copyFrom 32 = .ok (.arraylength, 1) := by decide +kernel
theorem dX5_copyFrom_33 : decode cX5_copyFrom 33 = .ok (.invokestatic 43, 3) := by decide +kernel
theorem dX5_copyFrom_36 : decode cX5_copyFrom 36 = .ok (.return_, 1) := by decide +kernel
theorem dX5_join_0 : decode cX5_join 0 = .ok (.aload_n 0, 1) := by decide +kernel
theorem dX5_join_1 : decode cX5_join 1 = .ok (.getfield 15, 3) := by decide +kernel
theorem dX5_join_4 : decode cX5_join 4 = .ok (.iload_n 1, 1) := by decide +kernel
theorem dX5_join_5 : decode cX5_join 5 = .ok (.bipush 9, 2) := by decide +kernel
theorem dX5_join_7 : decode cX5_join 7 = .ok (.imul, 1) := by decide +kernel
theorem dX5_join_8 : decode cX5_join 8 = .ok (.iload_n 2, 1) := by decide +kernel
theorem dX5_join_9 : decode cX5_join 9 = .ok (.iadd, 1) := by decide +kernel
theorem dX5_join_10 : decode cX5_join 10 = .ok (.iload_n 3, 1) := by decide +kernel
theorem dX5_join_11 : decode cX5_join 11 = .ok (.iastore, 1) := by decide +kernel
theorem dX5_join_12 : decode cX5_join 12 = .ok (.aload_n 0, 1) := by decide +kernel
theorem dX5_join_13 : decode cX5_join 13 = .ok (.getfield 15, 3) := by decide +kernel
theorem dX5_join_16 : decode cX5_join 16 = .ok (.iload_n 2, 1) := by decide +kernel
theorem dX5_join_17 : decode cX5_join 17 = .ok (.bipush 9, 2) := by decide +kernel
theorem dX5_join_19 : decode cX5_join 19 = .ok (.imul, 1) := by decide +kernel
theorem dX5_join_20 : decode cX5_join 20 = .ok (.iload_n 1, 1) := by decide +kernel
theorem dX5_join_21 : decode cX5_join 21 = .ok (.iadd, 1) := by decide +kernel
theorem dX5_join_22 : decode cX5_join 22 = .ok (.iload_n 3, 1) := by decide +kernel
theorem dX5_join_23 : decode cX5_join 23 = .ok (.iastore, 1) := by decide +kernel
theorem dX5_join_24 : decode cX5_join 24 = .ok (.return_, 1) := by decide +kernel
theorem dX5_findWay_0 : decode cX5_findWay 0 = .ok (.aload_n 0, 1) := by decide +kernel
theorem dX5_findWay_1 : decode cX5_findWay 1 = .ok (.iload_n 2, 1) := by decide +kernel
theorem dX5_findWay_2 : decode cX5_findWay 2 = .ok (.putfield 24, 3) := by decide +kernel
theorem dX5_findWay_5 : decode cX5_findWay 5 = .ok (.aload_n 0, 1) := by decide +kernel
theorem dX5_findWay_6 : decode cX5_findWay 6 = .ok (.iload_n 3, 1) := by decide +kernel
theorem dX5_findWay_7 : decode cX5_findWay 7 = .ok (.putfield 28, 3) := by decide +kernel
theorem dX5_findWay_10 : decode cX5_findWay 10 = .ok (.aload_n 0, 1) := by decide +kernel
theorem dX5_findWay_11 : decode cX5_findWay 11 = .ok (.iconst (-1), 1) := by decide +kernel
theorem dX5_findWay_12 : decode cX5_findWay 12 = .ok (.putfield 31, 3) := by decide +kernel
theorem dX5_findWay_15 : decode cX5_findWay 15 = .ok (.aload_n 0, 1) := by decide +kernel
theorem dX5_findWay_16 : decode cX5_findWay 16 = .ok (.iconst 0, 1) := by decide +kernel
theorem dX5_findWay_17 : decode cX5_findWay 17 = .ok (.putfield 34, 3) := by decide +kernel
theorem dX5_findWay_20 : decode cX5_findWay 20 = .ok (.aload_n 0, 1) := by decide +kernel
theorem dX5_findWay_21 : decode cX5_findWay 21 = .ok (.iload_n 1, 1) := by decide +kernel
theorem dX5_findWay_22 : decode cX5_findWay 22 = .ok (.iconst 0, 1) := by decide +kernel
theorem dX5_findWay_23 : decode cX5_findWay 23 = .ok (.iconst 0, 1) := by decide +kernel
theorem dX5_findWay_24 : decode cX5_findWay 24 = .ok (.iconst 0, 1) := by decide +kernel
theorem dX5_findWay_25 : decode cX5_findWay 25 = .ok (.invokevirtual 49, 3) := by decide +kernel
theorem dX5_findWay_28 : decode cX5_findWay 28 = .ok (.aload_n 0, 1) := by decide +kernel
theorem dX5_findWay_29 : decode cX5_findWay 29 = .ok (.getfield 34, 3) := by decide +kernel
theorem dX5_findWay_32 : decode cX5_findWay 32 = .ok (.ifCond .le 7, 3) := by decide +kernel
theorem dX5_findWay_35 : decode cX5_findWay 35 = .ok (.iconst 1, 1) := by decide +kernel
theorem dX5_findWay_36 : decode cX5_findWay 36 = .ok (.goto 4, 3) := by decide +kernel
theorem dX5_findWay_39 : decode cX5_findWay 39 = .ok (.iconst 0, 1) := by decide +kernel
theorem dX5_findWay_40 : decode cX5_findWay 40 = .ok (.ireturn, 1) := by decide +kernel
theorem dX5_walk_0 : decode cX5_walk 0 = .ok (.iload_n 2, 1) := by decide +kernel
theorem dX5_walk_1 : decode cX5_walk 1 = .ok (.aload_n 0, 1) := by decide +kernel
theorem dX5_walk_2 : decode cX5_walk 2 = .ok (.getfield 28, 3) := by decide +kernel
theorem dX5_walk_5 : decode cX5_walk 5 = .ok (.if_icmp .ge 12, 3) := by decide +kernel
theorem dX5_walk_8 : decode cX5_walk 8 = .ok (.iload_n 2, 1) := by decide +kernel
theorem dX5_walk_9 : decode cX5_walk 9 = .ok (.aload_n 0, 1) := by decide +kernel
theorem dX5_walk_10 : decode cX5_walk 10 = .ok (.getfield 18, 3) := by decide +kernel
theorem dX5_walk_13 : decode cX5_walk 13 = .ok (.arraylength, 1) := by decide +kernel
theorem dX5_walk_14 : decode cX5_walk 14 = .ok (.if_icmp .lt 4, 3) := by decide +kernel
theorem dX5_walk_17 : decode cX5_walk 17 = .ok (.return_, 1) := by decide +kernel
theorem dX5_walk_18 : decode cX5_walk 18 = .ok (.aload_n 0, 1) := by decide +kernel
theorem dX5_walk_19 : decode cX5_walk 19 = .ok (.getfield 18, 3) := by decide +kernel
theorem dX5_walk_22 : decode cX5_walk 22 = .ok (.iload_n 2, 1) := by decide +kernel
theorem dX5_walk_23 : decode cX5_walk 23 = .ok (.iload_n 1, 1) := by decide +kernel
theorem dX5_walk_24 : decode cX5_walk 24 = .ok (.iastore, 1) := by decide +kernel
theorem dX5_walk_25 : decode cX5_walk 25 = .ok (.iload_n 3, 1) := by decide +kernel
theorem dX5_walk_26 : decode cX5_walk 26 = .ok (.aload_n 0, 1) := by decide +kernel
theorem dX5_walk_27 : decode cX5_walk 27 = .ok (.getfield 9, 3) := by decide +kernel
theorem dX5_walk_30 : decode cX5_walk 30 = .ok (.iload_n 1, 1) := by decide +kernel
theorem dX5_walk_31 : decode cX5_walk 31 = .ok (.iaload, 1) := by decide +kernel
theorem dX5_walk_32 : decode cX5_walk 32 = .ok (.iadd, 1) := by decide +kernel
theorem dX5_walk_33 : decode cX5_walk 33 = .ok (.istore 5, 2) := by decide +kernel
theorem dX5_walk_35 : decode cX5_walk 35 = .ok (.iload_n 1, 1) := by decide +kernel
theorem dX5_walk_36 : decode cX5_walk 36 = .ok (.aload_n 0, 1) := by decide +kernel
theorem dX5_walk_37 : decode cX5_walk 37 = .ok (.getfield 24, 3) := by decide +kernel
theorem dX5_walk_40 : decode cX5_walk 40 = .ok (.if_icmp .ne 13, 3) := by decide +kernel
theorem dX5_walk_43 : decode cX5_walk 43 = .ok (.aload_n 0, 1) := by decide +kernel
theorem dX5_walk_44 : decode cX5_walk 44 = .ok (.iload_n 2, 1) := by decide +kernel
theorem dX5_walk_45 : decode cX5_walk 45 = .ok (.iconst 1, 1) := by decide +kernel
theorem dX5_walk_46 : decode cX5_walk 46 = .ok (.iadd, 1) := by decide +kernel
theorem dX5_walk_47 : decode cX5_walk 47 = .ok (.iload 5, 2) := by decide +kernel
theorem dX5_walk_49 : decode cX5_walk 49 = .ok (.invokevirtual 53, 3) := by decide +kernel
theorem dX5_walk_52 : decode cX5_walk 52 = .ok (.return_, 1) := by decide +kernel
theorem dX5_walk_53 : decode cX5_walk 53 = .ok (.iload 4, 2) := by decide +kernel
theorem dX5_walk_55 : decode cX5_walk 55 = .ok (.iconst 1, 1) := by decide +kernel
theorem dX5_walk_56 : decode cX5_walk 56 = .ok (.iload_n 1, 1) := by decide +kernel
theorem dX5_walk_57 : decode cX5_walk 57 = .ok (.ishl, 1) := by decide +kernel
theorem dX5_walk_58 : decode cX5_walk 58 = .ok (.ior, 1) := by decide +kernel
theorem dX5_walk_59 : decode cX5_walk 59 = .ok (.istore 6, 2) := by decide +kernel
theorem dX5_walk_61 : decode cX5_walk 61 = .ok (.iconst 0, 1) := by decide +kernel
theorem dX5_walk_62 : decode cX5_walk 62 = .ok (.istore 7, 2) := by decide +kernel
theorem dX5_walk_64 : decode cX5_walk 64 = .ok (.iload 7, 2) := by decide +kernel
theorem dX5_walk_66 : decode cX5_walk 66 = .ok (.bipush 9, 2) := by decide +kernel
theorem dX5_walk_68 : decode cX5_walk 68 = .ok (.if_icmp .ge 48, 3) := by decide +kernel
theorem dX5_walk_71 : decode cX5_walk 71 = .ok (.aload_n 0, 1) := by decide +kernel
theorem dX5_walk_72 : decode cX5_walk 72 = .ok (.getfield 15, 3) := by decide +kernel
theorem dX5_walk_75 : decode cX5_walk 75 = .ok (.iload_n 1, 1) := by decide +kernel
theorem dX5_walk_76 : decode cX5_walk 76 = .ok (.bipush 9, 2) := by decide +kernel
theorem dX5_walk_78 : decode cX5_walk 78 = .ok (.imul, 1) := by decide +kernel
theorem dX5_walk_79 : decode cX5_walk 79 = .ok (.iload 7, 2) := by decide +kernel
theorem dX5_walk_81 : decode cX5_walk 81 = .ok (.iadd, 1) := by decide +kernel
theorem dX5_walk_82 : decode cX5_walk 82 = .ok (.iaload, 1) := by decide +kernel
theorem dX5_walk_83 : decode cX5_walk 83 = .ok (.iconst 1, 1) := by decide +kernel
theorem dX5_walk_84 : decode cX5_walk 84 = .ok (.if_icmp .ne 26, 3) := by decide +kernel
theorem dX5_walk_87 : decode cX5_walk 87 = .ok (.iload 6, 2) := by decide +kernel
theorem dX5_walk_89 : decode cX5_walk 89 = .ok (.iload 7, 2) := by decide +kernel
theorem dX5_walk_91 : decode cX5_walk 91 = .ok (.ishr, 1) := by decide +kernel
theorem dX5_walk_92 : decode cX5_walk 92 = .ok (.iconst 1, 1) := by decide +kernel
theorem dX5_walk_93 : decode cX5_walk 93 = .ok (.iand, 1) := by decide +kernel
theorem dX5_walk_94 : decode cX5_walk 94 = .ok (.ifCond .ne 16, 3) := by decide +kernel
theorem dX5_walk_97 : decode cX5_walk 97 = .ok (.aload_n 0, 1) := by decide +kernel
theorem dX5_walk_98 : decode cX5_walk 98 = .ok (.iload 7, 2) := by decide +kernel
theorem dX5_walk_100 : decode cX5_walk 100 = .ok (.iload_n 2, 1) := by decide +kernel
theorem dX5_walk_101 : decode cX5_walk 101 = .ok (.iconst 1, 1) := by decide +kernel
theorem dX5_walk_102 : decode cX5_walk 102 = .ok (.iadd, 1) := by decide +kernel
theorem dX5_walk_103 : decode cX5_walk 103 = .ok (.iload 5, 2) := by decide +kernel
theorem dX5_walk_105 : decode cX5_walk 105 = .ok (.iload 6, 2) := by decide +kernel
theorem dX5_walk_107 : decode cX5_walk 107 = .ok (.invokevirtual 49, 3) := by decide +kernel
theorem dX5_walk_110 : decode cX5_walk 110 = .ok (.iinc 7 1, 3) := by decide +kernel
theorem dX5_walk_113 : decode cX5_walk 113 = .ok (.goto (-49), 3) := by decide +kernel
theorem dX5_walk_116 : decode cX5_walk 116 = .ok (.return_, 1) := by decide +kernel
theorem dX5_keepRoute_0 : decode cX5_keepRoute 0 = .ok (.iload_n 2, 1) := by decide +kernel
theorem dX5_keepRoute_1 : decode cX5_keepRoute 1 = .ok (.aload_n 0, 1) := by decide +kernel
theorem dX5_keepRoute_2 : decode cX5_keepRoute 2 = .ok (.getfield 31, 3) := by decide +kernel
theorem dX5_keepRoute_5 : decode cX5_keepRoute 5 = .ok (.if_icmp .le 27, 3) := by decide +kernel
theorem dX5_keepRoute_8 : decode cX5_keepRoute 8 = .ok (.aload_n 0, 1) := by decide +kernel
theorem dX5_keepRoute_9 : decode cX5_keepRoute 9 = .ok (.iload_n 2, 1) := by decide +kernel
theorem dX5_keepRoute_10 : decode cX5_keepRoute 10 = .ok (.putfield 31, 3) := by decide +kernel
theorem dX5_keepRoute_13 : decode cX5_keepRoute 13 = .ok (.aload_n 0, 1) := by decide +kernel
theorem dX5_keepRoute_14 : decode cX5_keepRoute 14 = .ok (.iload_n 1, 1) := by decide +kernel
theorem dX5_keepRoute_15 : decode cX5_keepRoute 15 = .ok (.putfield 34, 3) := by decide +kernel
theorem dX5_keepRoute_18 : decode cX5_keepRoute 18 = .ok (.aload_n 0, 1) := by decide +kernel
theorem dX5_keepRoute_19 : decode cX5_keepRoute 19 = .ok (.getfield 18, 3) := by decide +kernel
theorem dX5_keepRoute_22 : decode cX5_keepRoute 22 = .ok (.iconst 0, 1) := by decide +kernel
theorem dX5_keepRoute_23 : decode cX5_keepRoute 23 = .ok (.aload_n 0, 1) := by decide +kernel
theorem dX5_keepRoute_24 : decode cX5_keepRoute 24 = .ok (.getfield 21, 3) := by decide +kernel
theorem dX5_keepRoute_27 : decode cX5_keepRoute 27 = .ok (.iconst 0, 1) := by decide +kernel
theorem dX5_keepRoute_28 : decode cX5_keepRoute 28 = .ok (.iload_n 1, 1) := by decide +kernel
theorem dX5_keepRoute_29 : decode cX5_keepRoute 29 = .ok (.invokestatic 43, 3) := by decide +kernel
theorem dX5_keepRoute_32 : decode cX5_keepRoute 32 = .ok (.return_, 1) := by decide +kernel
theorem dX6_init_0 : decode cX6_init 0 = .ok (.aload_n 0, 1) := by decide +kernel
theorem dX6_init_1 : decode cX6_init 1 = .ok (.invokespecial 3, 3) := by decide +kernel
theorem dX6_init_4 : decode cX6_init 4 = .ok (.aload_n 0, 1) := by decide +kernel
theorem dX6_init_5 : decode cX6_init 5 = .ok (.iconst 0, 1) := by decide +kernel
theorem dX6_init_6 : decode cX6_init 6 = .ok (.putfield 9, 3) := by decide +kernel
theorem dX6_init_9 : decode cX6_init 9 = .ok (.aload_n 0, 1) := by decide +kernel
theorem dX6_init_10 : decode cX6_init 10 = .ok (.iconst 0, 1) := by decide +kernel
theorem dX6_init_11 : decode cX6_init 11 = .ok (.putfield 15, 3) := by decide +kernel
theorem dX6_init_14 : decode cX6_init 14 = .ok (.aload_n 0, 1) := by decide +kernel
theorem dX6_init_15 : decode cX6_init 15 = .ok (.bipush 16, 2) := by decide +kernel
theorem dX6_init_17 : decode cX6_init 17 = .ok (.newarray .int, 2) := by decide +kernel
theorem dX6_init_19 : decode cX6_init 19 = .ok (.putfield 18, 3) := by decide +kernel
theorem dX6_init_22 : decode cX6_init 22 = .ok (.aload_n 0, 1) := by decide +kernel
theorem dX6_init_23 : decode cX6_init 23 = .ok (.bipush 16, 2) := by decide +kernel
theorem dX6_init_25 : decode cX6_init 25 = .ok (.newarray .int, 2) := by decide +kernel
theorem dX6_init_27 : decode cX6_init 27 = .ok (.putfield 22, 3) := by decide +kernel
theorem dX6_init_30 : decode cX6_init 30 = .ok (.aload_n 0, 1) := by decide +kernel
theorem dX6_init_31 : decode cX6_init 31 = .ok (.sipush 400, 3) := by decide +kernel
theorem dX6_init_34 : decode cX6_init 34 = .ok (.newarray .int, 2) := by decide +kernel
theorem dX6_init_36 : decode cX6_init 36 = .ok (.putfield 25, 3) := by decide +kernel
theorem dX6_init_39 : decode cX6_init 39 = .ok (.return_, 1) := by decide +kernel
theorem dX6_clear_0 : decode cX6_clear 0 = .ok (.aload_n 0, 1) := by decide +kernel
theorem dX6_clear_1 : decode cX6_clear 1 = .ok (.iconst 0, 1) := by decide +kernel
theorem dX6_clear_2 : decode cX6_clear 2 = .ok (.putfield 9, 3) := by decide +kernel
theorem dX6_clear_5 : decode cX6_clear 5 = .ok (.aload_n 0, 1) := by decide +kernel
theorem dX6_clear_6 : decode cX6_clear 6 = .ok (.iconst 0, 1) := by decide +kernel
theorem dX6_clear_7 : decode cX6_clear 7 = .ok (.putfield 15, 3) := by decide +kernel
theorem dX6_clear_10 : decode cX6_clear 10 = .ok (.return_, 1) := by decide +kernel
theorem dX6_copyFrom_0 : decode cX6_copyFrom 0 = .ok (.aload_n 0, 1) := by decide +kernel
theorem dX6_copyFrom_1 : decode cX6_copyFrom 1 = .ok (.aload_n 1, 1) := by decide +kernel
theorem dX6_copyFrom_2 : decode cX6_copyFrom 2 = .ok (.getfield 9, 3) := by decide +kernel
theorem dX6_copyFrom_5 : decode cX6_copyFrom 5 = .ok (.putfield 9, 3) := by decide +kernel
theorem dX6_copyFrom_8 : decode cX6_copyFrom 8 = .ok (.aload_n 0, 1) := by decide +kernel
theorem dX6_copyFrom_9 : decode cX6_copyFrom 9 = .ok (.aload_n 1, 1) := by decide +kernel
theorem dX6_copyFrom_10 : decode cX6_copyFrom 10 = .ok (.getfield 15, 3) := by decide +kernel
theorem dX6_copyFrom_13 : decode cX6_copyFrom 13 = .ok (.putfield 15, 3) := by decide +kernel
theorem dX6_copyFrom_16 : decode cX6_copyFrom 16 = .ok (.aload_n 1, 1) := by decide +kernel
theorem dX6_copyFrom_17 : decode cX6_copyFrom 17 = .ok (.getfield 18, 3) := by decide +kernel
theorem dX6_copyFrom_20 : decode cX6_copyFrom 20 = .ok (.iconst 0, 1) := by decide +kernel
theorem dX6_copyFrom_21 : decode cX6_copyFrom 21 = .ok (.aload_n 0, 1) := by decide +kernel
theorem dX6_copyFrom_22 : decode cX6_copyFrom 22 = .ok (.getfield 18, 3) := by decide +kernel
theorem dX6_copyFrom_25 : decode cX6_copyFrom 25 = .ok (.iconst 0, 1) := by decide +kernel
theorem dX6_copyFrom_26 : decode cX6_copyFrom 26 = .ok (.aload_n 0, 1) := by decide +kernel
theorem dX6_copyFrom_27 : decode cX6_copyFrom 27 = .ok (.getfield 18, 3) := by decide +kernel
theorem dX6_copyFrom_30 : decode cX6_copyFrom 30 = .ok (.arraylength, 1) := by decide +kernel
theorem dX6_copyFrom_31 : decode cX6_copyFrom 31 = .ok (.invokestatic 28, 3) := by decide +kernel
theorem dX6_copyFrom_34 : decode cX6_copyFrom 34 = .ok (.aload_n 1, 1) := by decide +kernel
theorem dX6_copyFrom_35 : decode cX6_copyFrom 35 = .ok (.getfield 22, 3) := by decide +kernel
theorem dX6_copyFrom_38 : decode cX6_copyFrom 38 = .ok (.iconst 0, 1) := by decide +kernel
theorem dX6_copyFrom_39 : decode cX6_copyFrom 39 = .ok (.aload_n 0, 1) := by decide +kernel
theorem dX6_copyFrom_40 : decode cX6_copyFrom 40 = .ok (.getfield 22, 3) := by decide +kernel
theorem dX6_copyFrom_43 : decode cX6_copyFrom 43 = .ok (.iconst 0, 1) := by decide +kernel
theorem dX6_copyFrom_44 : decode cX6_copyFrom 44 = .ok (.aload_n 0, 1) := by decide +kernel
theorem dX6_copyFrom_45 : decode cX6_copyFrom 45 = .ok (.getfield 22, 3) := by decide +kernel
theorem dX6_copyFrom_48 : decode cX6_copyFrom 48 = .ok (.arraylength, 1) := by decide +kernel
theorem dX6_copyFrom_49 : decode cX6_copyFrom 49 = .ok (.invokestatic 28, 3) := by decide +kernel
theorem dX6_copyFrom_52 : decode cX6_copyFrom 52 = .ok (.aload_n 1, 1) := by decide +kernel
theorem dX6_copyFrom_53 : decode cX6_copyFrom 53 = .ok (.getfield 25, 3) := by decide +kernel
theorem dX6_copyFrom_56 : decode cX6_copyFrom 56 = .ok (.iconst 0, 1) := by decide +kernel
theorem dX6_copyFrom_57 : decode cX6_copyFrom 57 = .ok (.aload_n 0, 1) := by decide +kernel
theorem dX6_copyFrom_58 : decode cX6_copyFrom 58 = .ok (.getfield 25, 3) := by decide +kernel
theorem dX6_copyFrom_61 : decode cX6_copyFrom 61 = .ok (.iconst 0, 1) := by decide +kernel
theorem dX6_copyFrom_62 : decode cX6_copyFrom 62 = .ok (.aload_n 0, 1) := by decide +kernel
theorem dX6_copyFrom_63 : decode cX6_copyFrom 63 = .ok (.getfield 25, 3) := by decide +kernel
theorem dX6_copyFrom_66 : decode cX6_copyFrom 66 = .ok (.arraylength, 1) := by decide +kernel
theorem dX6_copyFrom_67 : decode cX6_copyFrom 67 = .ok (.invokestatic 28, 3) := by decide +kernel
theorem dX6_copyFrom_70 : decode cX6_copyFrom 70 = .ok (.return_, 1) := by decide +kernel
theorem dX6_addStep_0 : decode cX6_addStep 0 = .ok (.iload_n 1, 1) := by decide +kernel
theorem dX6_addStep_1 : decode cX6_addStep 1 = .ok (.bipush 15, 2) := by decide +kernel
theorem dX6_addStep_3 : decode cX6_addStep 3 = .ok (.if_icmp .eq 39, 3) := by decide +kernel
theorem dX6_addStep_6 : decode cX6_addStep 6 = .ok (.aload_n 0, 1) := by decide +kernel
theorem dX6_addStep_7 : decode cX6_addStep 7 = .ok (.getfield 15, 3) := by decide +kernel
theorem dX6_addStep_10 : decode cX6_addStep 10 = .ok (.aload_n 0, 1) := by decide +kernel
theorem dX6_addStep_11 : decode cX6_addStep 11 = .ok (.getfield 25, 3) := by decide +kernel
theorem dX6_addStep_14 : decode cX6_addStep 14 = .ok (.arraylength, 1) := by decide +kernel
theorem dX6_addStep_15 : decode cX6_addStep 15 = .ok (.if_icmp .ge 27, 3) := by decide +kernel
theorem dX6_addStep_18 : decode cX6_addStep 18 = .ok (.aload_n 0, 1) := by decide +kernel
theorem dX6_addStep_19 : decode cX6_addStep 19 = .ok (.getfield 25, 3) := by decide +kernel
theorem dX6_addStep_22 : decode cX6_addStep 22 = .ok (.aload_n 0, 1) := by decide +kernel
theorem dX6_addStep_23 : decode cX6_addStep 23 = .ok (.getfield 15, 3) := by decide +kernel
theorem dX6_addStep_26 : decode cX6_addStep 26 = .ok (.iload_n 2, 1) := by decide +kernel
theorem dX6_addStep_27 : decode cX6_addStep 27 = .ok (.iconst 4, 1) := by decide +kernel
theorem dX6_addStep_28 : decode cX6_addStep 28 = .ok (.ishl, 1) := by decide +kernel
theorem dX6_addStep_29 : decode cX6_addStep 29 = .ok (.iload_n 1, 1) := by decide +kernel
theorem dX6_addStep_30 : decode cX6_addStep 30 = .ok (.ior, 1) := by decide +kernel
theorem dX6_addStep_31 : decode cX6_addStep 31 = .ok (.iastore, 1) := by decide +kernel
theorem dX6_addStep_32 : decode cX6_addStep 32 = .ok (.aload_n 0, 1) := by decide +kernel
theorem dX6_addStep_33 : decode cX6_addStep 33 = .ok (.dup, 1) := by decide +kernel
theorem dX6_addStep_34 : decode cX6_addStep 34 = .ok (.getfield 15, 3) := by decide +kernel
theorem dX6_addStep_37 : decode cX6_addStep 37 = .ok (.iconst 1, 1) := by decide +kernel
theorem dX6_addStep_38 : decode cX6_addStep 38 = .ok (.iadd, 1) := by decide +kernel
theorem dX6_addStep_39 : decode cX6_addStep 39 = .ok (.putfield 15, 3) := by decide +kernel
theorem dX6_addStep_42 : decode cX6_addStep 42 = .ok (.return_, 1) := by decide +kernel
theorem dX6_addLine_0 : decode cX6_addLine 0 = .ok (.aload_n 0, 1) := by decide +kernel
theorem dX6_addLine_1 : decode cX6_addLine 1 = .ok (.getfield 9, 3) := by decide +kernel
theorem dX6_addLine_4 : decode cX6_addLine 4 = .ok (.bipush 16, 2) := by decide +kernel
theorem dX6_addLine_6 : decode cX6_addLine 6 = .ok (.if_icmp .ge 36, 3) := by decide +kernel
theorem dX6_addLine_9 : decode cX6_addLine 9 = .ok (.aload_n 0, 1) := by decide +kernel
theorem dX6_addLine_10 : decode cX6_addLine 10 = .ok (.getfield 18, 3) := by decide +kernel
theorem dX6_addLine_13 : decode cX6_addLine 13 = .ok (.aload_n 0, 1) := by decide +kernel
theorem dX6_addLine_14 : decode cX6_addLine 14 = .ok (.getfield 9, 3) := by decide +kernel
theorem dX6_addLine_17 : decode cX6_addLine 17 = .ok (.iload_n 1, 1) := by decide +kernel
theorem dX6_addLine_18 : decode cX6_addLine 18 = .ok (.iastore, 1) := by decide +kernel
theorem dX6_addLine_19 : decode cX6_addLine 19 = .ok (.aload_n 0, 1) := by decide +kernel
theorem dX6_addLine_20 : decode cX6_addLine 20 = .ok (.getfield 22, 3) := by decide +kernel
theorem dX6_addLine_23 : decode cX6_addLine 23 = .ok (.aload_n 0, 1) := by decide +kernel
theorem dX6_addLine_24 : decode cX6_addLine 24 = .ok (.getfield 9, 3) := by decide +kernel
theorem dX6_addLine_27 : decode cX6_addLine 27 = .ok (.aload_n 0, 1) := by decide +kernel
theorem dX6_addLine_28 : decode cX6_addLine 28 = .ok (.getfield 15, 3) := by decide +kernel
theorem dX6_addLine_31 : decode cX6_addLine 31 = .ok (.iastore, 1) := by decide +kernel
theorem dX6_addLine_32 : decode cX6_addLine 32 = .ok (.aload_n 0, 1) := by decide +kernel
theorem dX6_addLine_33 : decode cX6_addLine 33 = .ok (.dup, 1) := by decide +kernel
theorem dX6_addLine_34 : decode cX6_addLine 34 = .ok (.getfield 9, 3) := by decide +kernel
theorem dX6_addLine_37 : decode cX6_addLine 37 = .ok (.iconst 1, 1) := by decide +kernel
theorem dX6_addLine_38 : decode cX6_addLine 38 = .ok (.iadd, 1) := by decide +kernel
theorem dX6_addLine_39 : decode cX6_addLine 39 = .ok (.putfield 9, 3) := by decide +kernel
theorem dX6_addLine_42 : decode cX6_addLine 42 = .ok (.return_, 1) := by decide +kernel
theorem dX6_stepsFrom_0 : decode cX6_stepsFrom 0 = .ok (.iload_n 1, 1) := by decide +kernel
theorem dX6_stepsFrom_1 : decode cX6_stepsFrom 1 = .ok (.ifCond .le 20, 3) := by decide +kernel
theorem dX6_stepsFrom_4 : decode cX6_stepsFrom 4 = .ok (.iload_n 1, 1) := by decide +kernel
theorem dX6_stepsFrom_5 : decode cX6_stepsFrom 5 = .ok (.bipush 16, 2) := by decide +kernel
theorem dX6_stepsFrom_7 : decode cX6_stepsFrom 7 = .ok (.if_icmp .gt 14, 3) := by decide +kernel
theorem dX6_stepsFrom_10 : decode cX6_stepsFrom 10 = .ok (.aload_n 0, 1) := by decide +kernel
theorem dX6_stepsFrom_11 : decode cX6_stepsFrom 11 = .ok (.getfield 22, 3) := by decide +kernel
theorem dX6_stepsFrom_14 : decode cX6_stepsFrom 14 = .ok (.iload_n 1, 1) := by decide +kernel
theorem dX6_stepsFrom_15 : decode cX6_stepsFrom 15 = .ok (.iconst 1, 1) := by decide +kernel
theorem dX6_stepsFrom_16 : decode cX6_stepsFrom 16 = .ok (.isub, 1) := by decide +kernel
theorem dX6_stepsFrom_17 : decode cX6_stepsFrom 17 = .ok (.iaload, 1) := by decide +kernel
theorem dX6_stepsFrom_18 : decode cX6_stepsFrom 18 = .ok (.goto 4, 3) := by decide +kernel
theorem dX6_stepsFrom_21 : decode cX6_stepsFrom 21 = .ok (.iconst 0, 1) := by decide +kernel
theorem dX6_stepsFrom_22 : decode cX6_stepsFrom 22 = .ok (.ireturn, 1) := by decide +kernel
theorem dX7_init_0 : decode cX7_init 0 = .ok (.aload_n 0, 1) := by decide +kernel
theorem dX7_init_1 : decode cX7_init 1 = .ok (.invokespecial 3, 3) := by decide +kernel
theorem dX7_init_4 : decode cX7_init 4 = .ok (.aload_n 0, 1) := by decide +kernel
theorem dX7_init_5 : decode cX7_init 5 = .ok (.new 9, 3) := by decide +kernel
theorem dX7_init_8 : decode cX7_init 8 = .ok (.dup, 1) := by decide +kernel
theorem dX7_init_9 : decode cX7_init 9 = .ok (.invokespecial 11, 3) := by decide +kernel
theorem dX7_init_12 : decode cX7_init 12 = .ok (.putfield 12, 3) := by decide +kernel
theorem dX7_init_15 : decode cX7_init 15 = .ok (.aload_n 0, 1) := by decide +kernel
theorem dX7_init_16 : decode cX7_init 16 = .ok (.iconst 0, 1) := by decide +kernel
theorem dX7_init_17 : decode cX7_init 17 = .ok (.putfield 18, 3) := by decide +kernel
theorem dX7_init_20 : decode cX7_init 20 = .ok (.aload_n 0, 1) := by decide +kernel
theorem dX7_init_21 : decode cX7_init 21 = .ok (.iconst (-1), 1) := by decide +kernel
theorem dX7_init_22 : decode cX7_init 22 = .ok (.putfield 22, 3) := by decide +kernel
theorem dX7_init_25 : decode cX7_init 25 = .ok (.aload_n 0, 1) := by decide +kernel
theorem dX7_init_26 : decode cX7_init 26 = .ok (.sipush 401, 3) := by decide +kernel
theorem dX7_init_29 : decode cX7_init 29 = .ok (.newarray .int, 2) := by decide +kernel
theorem dX7_init_31 : decode cX7_init 31 = .ok (.putfield 25, 3) := by decide +kernel
theorem dX7_init_34 : decode cX7_init 34 = .ok (.aload_n 0, 1) := by decide +kernel
theorem dX7_init_35 : decode cX7_init 35 = .ok (.sipush 401, 3) := by decide +kernel
theorem dX7_init_38 : decode cX7_init 38 = .ok (.newarray .int, 2) := by decide +kernel
theorem dX7_init_40 : decode cX7_init 40 = .ok (.putfield 29, 3) := by decide +kernel
theorem dX7_init_43 : decode cX7_init 43 = .ok (.aload_n 0, 1) := by decide +kernel
theorem dX7_init_44 : decode cX7_init 44 = .ok (.iconst 0, 1) := by decide +kernel
theorem dX7_init_45 : decode cX7_init 45 = .ok (.putfield 32, 3) := by decide +kernel
theorem dX7_init_48 : decode cX7_init 48 = .ok (.aload_n 0, 1) := by decide +kernel
theorem dX7_init_49 : decode cX7_init 49 = .ok (.iconst 0, 1) := by decide +kernel
theorem dX7_init_50 : decode cX7_init 50 = .ok (.putfield 35, 3) := by decide +kernel
theorem dX7_init_53 : decode cX7_init 53 = .ok (.aload_n 0, 1) := by decide +kernel
theorem dX7_init_54 : decode cX7_init 54 = .ok (.sipush 300, 3) := by decide +kernel
theorem dX7_init_57 : decode cX7_init 57 = .ok (.putfield 38, 3) := by decide +kernel
theorem dX7_init_60 : decode cX7_init 60 = .ok (.return_, 1) := by decide +kernel
theorem dX7_read_0 : decode cX7_read 0 = .ok (.aload_n 0, 1) := by decide +kernel
theorem dX7_read_1 : decode cX7_read 1 = .ok (.iconst 0, 1) := by decide +kernel
theorem dX7_read_2 : decode cX7_read 2 = .ok (.putfield 18, 3) := by decide +kernel
theorem dX7_read_5 : decode cX7_read 5 = .ok (.aload_n 0, 1) := by decide +kernel
theorem dX7_read_6 : decode cX7_read 6 = .ok (.iconst (-1), 1) := by decide +kernel
theorem dX7_read_7 : decode cX7_read 7 = .ok (.putfield 22, 3) := by decide +kernel
theorem dX7_read_10 : decode cX7_read 10 = .ok (.aload_n 0, 1) := by decide +kernel
theorem dX7_read_11 : decode cX7_read 11 = .ok (.getfield 12, 3) := by decide +kernel
theorem dX7_read_14 : decode cX7_read 14 = .ok (.invokevirtual 41, 3) := by decide +kernel
theorem dX7_read_17 : decode cX7_read 17 = .ok (.aload_n 0, 1) := by decide +kernel
theorem dX7_read_18 : decode cX7_read 18 = .ok (.aload_n 1, 1) := by decide +kernel
theorem dX7_read_19 : decode cX7_read 19 = .ok (.iload_n 2, 1) := by decide +kernel
theorem dX7_read_20 : decode cX7_read 20 = .ok (.aload_n 1, 1) := by decide +kernel
theorem dX7_read_21 : decode cX7_read 21 = .ok (.arraylength, 1) := by decide +kernel
theorem dX7_read_22 : decode cX7_read 22 = .ok (.sipush 400, 3) := by decide +kernel
theorem dX7_read_25 : decode cX7_read 25 = .ok (.invokestatic 44, 3) := by decide +kernel
theorem dX7_read_28 : decode cX7_read 28 = .ok (.invokestatic 44, 3) := by decide +kernel
theorem dX7_read_31 : decode cX7_read 31 = .ok (.invokevirtual 50, 3) := by decide +kernel
theorem dX7_read_34 : decode cX7_read 34 = .ok (.aload_n 0, 1) := by decide +kernel
theorem dX7_read_35 : decode cX7_read 35 = .ok (.iconst 0, 1) := by decide +kernel
theorem dX7_read_36 : decode cX7_read 36 = .ok (.putfield 35, 3) := by decide +kernel
theorem dX7_read_39 : decode cX7_read 39 = .ok (.aload_n 0, 1) := by decide +kernel
theorem dX7_read_40 : decode cX7_read 40 = .ok (.aload_n 0, 1) := by decide +kernel
theorem dX7_read_41 : decode cX7_read 41 = .ok (.getfield 25, 3) := by decide +kernel
theorem dX7_read_44 : decode cX7_read 44 = .ok (.iconst 0, 1) := by decide +kernel
theorem dX7_read_45 : decode cX7_read 45 = .ok (.iaload, 1) := by decide +kernel
theorem dX7_read_46 : decode cX7_read 46 = .ok (.putfield 38, 3) := by decide +kernel
theorem dX7_read_49 : decode cX7_read 49 = .ok (.iconst 0, 1) := by decide +kernel
theorem dX7_read_50 : decode cX7_read 50 = .ok (.istore_n 3, 1) := by decide +kernel
theorem dX7_read_51 : decode cX7_read 51 = .ok (.iload_n 3, 1) := by decide +kernel
theorem dX7_read_52 : decode cX7_read 52 = .ok (.bipush 16, 2) := by decide +kernel
theorem dX7_read_54 : decode cX7_read 54 = .ok (.if_icmp .gt 31, 3) := by decide +kernel
theorem dX7_read_57 : decode cX7_read 57 = .ok (.aload_n 0, 1) := by decide +kernel
theorem dX7_read_58 : decode cX7_read 58 = .ok (.getfield 38, 3) := by decide +kernel
theorem dX7_read_61 : decode cX7_read 61 = .ok (.sipush 300, 3) := by decide +kernel
theorem dX7_read_64 : decode cX7_read 64 = .ok (.if_icmp .ne 5, 3) := by decide +kernel
theorem dX7_read_67 : decode cX7_read 67 = .ok (.iconst 1, 1) := by decide +kernel
theorem dX7_read_68 : decode cX7_read 68 = .ok (.ireturn, 1) := by decide +kernel
theorem dX7_read_69 : decode cX7_read 69 = .ok (.aload_n 0, 1) := by decide +kernel
theorem dX7_read_70 : decode cX7_read 70 = .ok (.iload_n 3, 1) := by decide +kernel
theorem dX7_read_71 : decode cX7_read 71 = .ok (.invokevirtual 54, 3) := by decide +kernel
theorem dX7_read_74 : decode cX7_read 74 = .ok (.ifCond .ne 5, 3) := by decide +kernel
theorem dX7_read_77 : decode cX7_read 77 = .ok (.iconst 0, 1) := by decide +kernel
theorem dX7_read_78 : decode cX7_read 78 = .ok (.ireturn, 1) := by decide +kernel
theorem dX7_read_79 : decode cX7_read 79 = .ok (.iinc 3 1, 3) := by decide +kernel
theorem dX7_read_82 : decode cX7_read 82 = .ok (.goto (-31), 3) := by decide +kernel
theorem dX7_read_85 : decode cX7_read 85 = .ok (.iconst 0, 1) := by decide +kernel
theorem dX7_read_86 : decode cX7_read 86 = .ok (.ireturn, 1) := by decide +kernel
theorem dX7_advance_0 : decode cX7_advance 0 = .ok (.aload_n 0, 1) := by decide +kernel
theorem dX7_advance_1 : decode cX7_advance 1 = .ok (.getfield 35, 3) := by decide +kernel
theorem dX7_advance_4 : decode cX7_advance 4 = .ok (.iconst 1, 1) := by decide +kernel
theorem dX7_advance_5 : decode cX7_advance 5 = .ok (.iadd, 1) := by decide +kernel
theorem dX7_advance_6 : decode cX7_advance 6 = .ok (.aload_n 0, 1) := by decide +kernel
theorem dX7_advance_7 : decode cX7_advance 7 = .ok (.getfield 32, 3) := by decide +kernel
theorem dX7_advance_10 : decode cX7_advance 10 = .ok (.if_icmp .ge 13, 3) := by decide +kernel
theorem dX7_advance_13 : decode cX7_advance 13 = .ok (.aload_n 0, 1) := by decide +kernel
theorem dX7_advance_14 : decode cX7_advance 14 = .ok (.dup, 1) := by decide +kernel
theorem dX7_advance_15 : decode cX7_advance 15 = .ok (.getfield 35, 3) := by decide +kernel
theorem dX7_advance_18 : decode cX7_advance 18 = .ok (.iconst 1, 1) := by decide +kernel
theorem dX7_advance_19 : decode cX7_advance 19 = .ok (.iadd, 1) := by decide +kernel
theorem dX7_advance_20 : decode cX7_advance 20 = .ok (.putfield 35, 3) := by decide +kernel
theorem dX7_advance_23 : decode cX7_advance 23 = .ok (.aload_n 0, 1) := by decide +kernel
theorem dX7_advance_24 : decode cX7_advance 24 = .ok (.aload_n 0, 1) := by decide +kernel
theorem dX7_advance_25 : decode cX7_advance 25 = .ok (.getfield 25, 3) := by decide +kernel
theorem dX7_advance_28 : decode cX7_advance 28 = .ok (.aload_n 0, 1) := by decide +kernel
theorem dX7_advance_29 : decode cX7_advance 29 = .ok (.getfield 35, 3) := by decide +kernel
theorem dX7_advance_32 : decode cX7_advance 32 = .ok (.iaload, 1) := by decide +kernel
theorem dX7_advance_33 : decode cX7_advance 33 = .ok (.putfield 38, 3) := by decide +kernel
theorem dX7_advance_36 : decode cX7_advance 36 = .ok (.return_, 1) := by decide +kernel
theorem dX7_refuse_0 : decode cX7_refuse 0 = .ok (.aload_n 0, 1) := by decide +kernel
theorem dX7_refuse_1 : decode cX7_refuse 1 = .ok (.iload_n 1, 1) := by decide +kernel
theorem dX7_refuse_2 : decode cX7_refuse 2 = .ok (.putfield 18, 3) := by decide +kernel
theorem dX7_refuse_5 : decode cX7_refuse 5 = .ok (.aload_n 0, 1) := by decide +kernel
theorem dX7_refuse_6 : decode cX7_refuse 6 = .ok (.aload_n 0, 1) := by decide +kernel
theorem dX7_refuse_7 : decode cX7_refuse 7 = .ok (.getfield 29, 3) := by decide +kernel
theorem dX7_refuse_10 : decode cX7_refuse 10 = .ok (.aload_n 0, 1) := by decide +kernel
theorem dX7_refuse_11 : decode cX7_refuse 11 = .ok (.getfield 35, 3) := by decide +kernel
theorem dX7_refuse_14 : decode cX7_refuse 14 = .ok (.iaload, 1) := by decide +kernel
theorem dX7_refuse_15 : decode cX7_refuse 15 = .ok (.putfield 22, 3) := by decide +kernel
theorem dX7_refuse_18 : decode cX7_refuse 18 = .ok (.iconst 0, 1) := by decide +kernel
theorem dX7_refuse_19 : decode cX7_refuse 19 = .ok (.ireturn, 1) := by decide +kernel
theorem dX7_readLine_0 : decode cX7_readLine 0 = .ok (.aload_n 0, 1) := by decide +kernel
theorem dX7_readLine_1 : decode cX7_readLine 1 = .ok (.getfield 38, 3) := by decide +kernel
theorem dX7_readLine_4 : decode cX7_readLine 4 = .ok (.sipush 256, 3) := by decide +kernel
theorem dX7_readLine_7 : decode cX7_readLine 7 = .ok (.if_icmp .eq 9, 3) := by decide +kernel
theorem dX7_readLine_10 : decode cX7_readLine 10 = .ok (.aload_n 0, 1) := by decide +kernel
theorem dX7_readLine_11 : decode cX7_readLine 11 = .ok (.iconst 1, 1) := by decide +kernel
theorem dX7_readLine_12 : decode cX7_readLine 12 = .ok (.invokevirtual 58, 3) := by decide +kernel
theorem dX7_readLine_15 : decode cX7_readLine 15 = .ok (.ireturn, 1) := by decide +kernel
theorem dX7_readLine_16 : decode cX7_readLine 16 = .ok (.iload_n 1, 1) := by decide +kernel
theorem dX7_readLine_17 : decode cX7_readLine 17 = .ok (.bipush 16, 2) := by decide +kernel
theorem dX7_readLine_19 : decode cX7_readLine 19 = .ok (.if_icmp .lt 9, 3) := by decide +kernel
theorem dX7_readLine_22 : decode cX7_readLine 22 = .ok (.aload_n 0, 1) := by decide +kernel
theorem dX7_readLine_23 : decode cX7_readLine 23 = .ok (.iconst 3, 1) := by decide +kernel
theorem dX7_readLine_24 : decode cX7_readLine 24 = .ok (.invokevirtual 58, 3) := by decide +kernel
theorem dX7_readLine_27 : decode cX7_readLine 27 = .ok (.ireturn, 1) := by decide +kernel
theorem dX7_readLine_28 : decode cX7_readLine 28 = .ok (.aload_n 0, 1) := by decide +kernel
theorem dX7_readLine_29 : decode cX7_readLine 29 = .ok (.invokevirtual 61, 3) := by decide +kernel
theorem dX7_readLine_32 : decode cX7_readLine 32 = .ok (.aload_n 0, 1) := by decide +kernel
theorem dX7_readLine_33 : decode cX7_readLine 33 = .ok (.getfield 38, 3) := by decide +kernel
theorem dX7_readLine_36 : decode cX7_readLine 36 = .ok (.istore_n 2, 1) := by decide +kernel
theorem dX7_readLine_37 : decode cX7_readLine 37 = .ok (.iload_n 2, 1) := by decide +kernel
theorem dX7_readLine_38 : decode cX7_readLine 38 = .ok (.sipush 261, 3) := by decide +kernel
theorem dX7_readLine_41 : decode cX7_readLine 41 = .ok (.if_icmp .lt 10, 3) := by decide +kernel
theorem dX7_readLine_44 : decode cX7_readLine 44 = .ok (.iload_n 2, 1) := by decide +kernel
theorem dX7_readLine_45 : decode cX7_readLine 45 = .ok (.sipush 266, 3) := by decide +kernel
theorem dX7_readLine_48 : decode cX7_readLine 48 = .ok (.if_icmp .le 9, 3) := by decide +kernel
theorem dX7_readLine_51 : decode cX7_readLine 51 = .ok (.aload_n 0, 1) := by decide +kernel
theorem dX7_readLine_52 : decode cX7_readLine 52 = .ok (.iconst 1, 1) := by decide +kernel
theorem dX7_readLine_53 : decode cX7_readLine 53 = .ok (.invokevirtual 58, 3) := by decide +kernel
theorem dX7_readLine_56 : decode cX7_readLine 56 = .ok (.ireturn, 1) := by decide +kernel
theorem dX7_readLine_57 : decode cX7_readLine 57 = .ok (.aload_n 0, 1) := by decide +kernel
theorem dX7_readLine_58 : decode cX7_readLine 58 = .ok (.invokevirtual 61, 3) := by decide +kernel
theorem dX7_readLine_61 : decode cX7_readLine 61 = .ok (.aload_n 0, 1) := by decide +kernel
theorem dX7_readLine_62 : decode cX7_readLine 62 = .ok (.getfield 38, 3) := by decide +kernel
theorem dX7_readLine_65 : decode cX7_readLine 65 = .ok (.sipush 257, 3) := by decide +kernel
theorem dX7_readLine_68 : decode cX7_readLine 68 = .ok (.if_icmp .ne 17, 3) := by decide +kernel
theorem dX7_readLine_71 : decode cX7_readLine 71 = .ok (.aload_n 0, 1) := by decide +kernel
theorem dX7_readLine_72 : decode cX7_readLine 72 = .ok (.invokevirtual 61, 3) := by decide +kernel
theorem dX7_readLine_75 : decode cX7_readLine 75 = .ok (.aload_n 0, 1) := by decide +kernel
theorem dX7_readLine_76 : decode cX7_readLine 76 = .ok (.iconst 0, 1) := by decide +kernel
theorem dX7_readLine_77 : decode cX7_readLine 77 = .ok (.invokevirtual 64, 3) := by decide +kernel
theorem dX7_readLine_80 : decode cX7_readLine 80 = .ok (.ifCond .ne 5, 3) := by decide +kernel
theorem dX7_readLine_83 : decode cX7_readLine 83 = .ok (.iconst 0, 1) := by decide +kernel
theorem dX7_readLine_84 : decode cX7_readLine 84 = .ok (.ireturn, 1) := by decide +kernel
theorem dX7_readLine_85 : decode cX7_readLine 85 = .ok (.aload_n 0, 1) := by decide +kernel
theorem dX7_readLine_86 : decode cX7_readLine 86 = .ok (.getfield 38, 3) := by decide +kernel
theorem dX7_readLine_89 : decode cX7_readLine 89 = .ok (.bipush 59, 2) := by decide +kernel
theorem dX7_readLine_91 : decode cX7_readLine 91 = .ok (.if_icmp .eq 9, 3) := by decide +kernel
theorem dX7_readLine_94 : decode cX7_readLine 94 = .ok (.aload_n 0, 1) := by decide +kernel
theorem dX7_readLine_95 : decode cX7_readLine 95 = .ok (.iconst 1, 1) := by decide +kernel
theorem dX7_readLine_96 : decode cX7_readLine 96 = .ok (.invokevirtual 58, 3) := by decide +kernel
theorem dX7_readLine_99 : decode cX7_readLine 99 = .ok (.ireturn, 1) := by decide +kernel
theorem dX7_readLine_100 : decode cX7_readLine 100 = .ok (.aload_n 0, 1) := by decide +kernel
theorem dX7_readLine_101 : decode cX7_readLine 101 = .ok (.invokevirtual 61, 3) := by decide +kernel
theorem dX7_readLine_104 : decode cX7_readLine 104 = .ok (.aload_n 0, 1) := by decide +kernel
theorem dX7_readLine_105 : decode cX7_readLine 105 = .ok (.getfield 12, 3) := by decide +kernel
theorem dX7_readLine_108 : decode cX7_readLine 108 = .ok (.iload_n 2, 1) := by decide +kernel
theorem dX7_readLine_109 : decode cX7_readLine 109 = .ok (.invokevirtual 67, 3) := by decide +kernel
theorem dX7_readLine_112 : decode cX7_readLine 112 = .ok (.iconst 1, 1) := by decide +kernel
theorem dX7_readLine_113 : decode cX7_readLine 113 = .ok (.ireturn, 1) := by decide +kernel
theorem dX7_readAny_0 : decode cX7_readAny 0 = .ok (.aload_n 0, 1) := by decide +kernel
theorem dX7_readAny_1 : decode cX7_readAny 1 = .ok (.iload_n 1, 1) := by decide +kernel
theorem dX7_readAny_2 : decode cX7_readAny 2 = .ok (.invokevirtual 71, 3) := by decide +kernel
theorem dX7_readAny_5 : decode cX7_readAny 5 = .ok (.ifCond .ne 5, 3) := by decide +kernel
theorem dX7_readAny_8 : decode cX7_readAny 8 = .ok (.iconst 0, 1) := by decide +kernel
theorem dX7_readAny_9 : decode cX7_readAny 9 = .ok (.ireturn, 1) := by decide +kernel
theorem dX7_readAny_10 : decode cX7_readAny 10 = .ok (.iconst 0, 1) := by decide +kernel
theorem dX7_readAny_11 : decode cX7_readAny 11 = .ok (.istore_n 2, 1) := by decide +kernel
theorem dX7_readAny_12 : decode cX7_readAny 12 = .ok (.iload_n 2, 1) := by decide +kernel
theorem dX7_readAny_13 : decode cX7_readAny 13 = .ok (.aload_n 0, 1) := by decide +kernel
theorem dX7_readAny_14 : decode cX7_readAny 14 = .ok (.getfield 32, 3) := by decide +kernel
theorem dX7_readAny_17 : decode cX7_readAny 17 = .ok (.if_icmp .ge 43, 3) := by decide +kernel
theorem dX7_readAny_20 : decode cX7_readAny 20 = .ok (.aload_n 0, 1) := by decide +kernel
theorem dX7_readAny_21 : decode cX7_readAny 21 = .ok (.getfield 38, 3) := by decide +kernel
theorem dX7_readAny_24 : decode cX7_readAny 24 = .ok (.sipush 258, 3) := by decide +kernel
theorem dX7_readAny_27 : decode cX7_readAny 27 = .ok (.if_icmp .ne 33, 3) := by decide +kernel
theorem dX7_readAny_30 : decode cX7_readAny 30 = .ok (.aload_n 0, 1) := by decide +kernel
theorem dX7_readAny_31 : decode cX7_readAny 31 = .ok (.invokevirtual 61, 3) := by decide +kernel
theorem dX7_readAny_34 : decode cX7_readAny 34 = .ok (.aload_n 0, 1) := by decide +kernel
theorem dX7_readAny_35 : decode cX7_readAny 35 = .ok (.iload_n 1, 1) := by decide +kernel
theorem dX7_readAny_36 : decode cX7_readAny 36 = .ok (.invokevirtual 71, 3) := by decide +kernel
theorem dX7_readAny_39 : decode cX7_readAny 39 = .ok (.ifCond .ne 5, 3) := by decide +kernel
theorem dX7_readAny_42 : decode cX7_readAny 42 = .ok (.iconst 0, 1) := by decide +kernel
theorem dX7_readAny_43 : decode cX7_readAny 43 = .ok (.ireturn, 1) := by decide +kernel
theorem dX7_readAny_44 : decode cX7_readAny 44 = .ok (.aload_n 0, 1) := by decide +kernel
theorem dX7_readAny_45 : decode cX7_readAny 45 = .ok (.getfield 12, 3) := by decide +kernel
theorem dX7_readAny_48 : decode cX7_readAny 48 = .ok (.bipush 11, 2) := by decide +kernel
theorem dX7_readAny_50 : decode cX7_readAny 50 = .ok (.iconst 0, 1) := by decide +kernel
theorem dX7_readAny_51 : decode cX7_readAny 51 = .ok (.invokevirtual 74, 3) := by decide +kernel
theorem dX7_readAny_54 : decode cX7_readAny 54 = .ok (.iinc 2 1, 3) := by decide +kernel
theorem dX7_readAny_57 : decode cX7_readAny 57 = .ok (.goto (-45), 3) := by decide +kernel
theorem dX7_readAny_60 : decode cX7_readAny 60 = .ok (.iconst 1, 1) := by decide +kernel
theorem dX7_readAny_61 : decode cX7_readAny 61 = .ok (.ireturn, 1) := by decide +kernel
theorem dX7_readAll_0 : decode cX7_readAll 0 = .ok (.aload_n 0, 1) := by decide +kernel
theorem dX7_readAll_1 : decode cX7_readAll 1 = .ok (.iload_n 1, 1) := by decide +kernel
theorem dX7_readAll_2 : decode cX7_readAll 2 = .ok (.invokevirtual 78, 3) := by decide +kernel
theorem dX7_readAll_5 : decode cX7_readAll 5 = .ok (.ifCond .ne 5, 3) := by decide +kernel
theorem dX7_readAll_8 : decode cX7_readAll 8 = .ok (.iconst 0, 1) := by decide +kernel
theorem dX7_readAll_9 : decode cX7_readAll 9 = .ok (.ireturn, 1) := by decide +kernel
theorem dX7_readAll_10 : decode cX7_readAll 10 = .ok (.iconst 0, 1) := by decide +kernel
theorem dX7_readAll_11 : decode cX7_readAll 11 = .ok (.istore_n 2, 1) := by decide +kernel
theorem dX7_readAll_12 : decode cX7_readAll 12 = .ok (.iload_n 2, 1) := by decide +kernel
theorem dX7_readAll_13 : decode cX7_readAll 13 = .ok (.aload_n 0, 1) := by decide +kernel
theorem dX7_readAll_14 : decode cX7_readAll 14 = .ok (.getfield 32, 3) := by decide +kernel
theorem dX7_readAll_17 : decode cX7_readAll 17 = .ok (.if_icmp .ge 43, 3) := by decide +kernel
theorem dX7_readAll_20 : decode cX7_readAll 20 = .ok (.aload_n 0, 1) := by decide +kernel
theorem dX7_readAll_21 : decode cX7_readAll 21 = .ok (.getfield 38, 3) := by decide +kernel
theorem dX7_readAll_24 : decode cX7_readAll 24 = .ok (.sipush 259, 3) := by decide +kernel
theorem dX7_readAll_27 : decode cX7_readAll 27 = .ok (.if_icmp .ne 33, 3) := by decide +kernel
theorem dX7_readAll_30 : decode cX7_readAll 30 = .ok (.aload_n 0, 1) := by decide +kernel
theorem dX7_readAll_31 : decode cX7_readAll 31 = .ok (.invokevirtual 61, 3) := by decide +kernel
theorem dX7_readAll_34 : decode cX7_readAll 34 = .ok (.aload_n 0, 1) := by decide +kernel
theorem dX7_readAll_35 : decode cX7_readAll 35 = .ok (.iload_n 1, 1) := by decide +kernel
theorem dX7_readAll_36 : decode cX7_readAll 36 = .ok (.invokevirtual 78, 3) := by decide +kernel
theorem dX7_readAll_39 : decode cX7_readAll 39 = .ok (.ifCond .ne 5, 3) := by decide +kernel
theorem dX7_readAll_42 : decode cX7_readAll 42 = .ok (.iconst 0, 1) := by decide +kernel
theorem dX7_readAll_43 : decode cX7_readAll 43 = .ok (.ireturn, 1) := by decide +kernel
theorem dX7_readAll_44 : decode cX7_readAll 44 = .ok (.aload_n 0, 1) := by decide +kernel
theorem dX7_readAll_45 : decode cX7_readAll 45 = .ok (.getfield 12, 3) := by decide +kernel
theorem dX7_readAll_48 : decode cX7_readAll 48 = .ok (.bipush 10, 2) := by decide +kernel
theorem dX7_readAll_50 : decode cX7_readAll 50 = .ok (.iconst 0, 1) := by decide +kernel
theorem dX7_readAll_51 : decode cX7_readAll 51 = .ok (.invokevirtual 74, 3) := by decide +kernel
theorem dX7_readAll_54 : decode cX7_readAll 54 = .ok (.iinc 2 1, 3) := by decide +kernel
theorem dX7_readAll_57 : decode cX7_readAll 57 = .ok (.goto (-45), 3) := by decide +kernel
theorem dX7_readAll_60 : decode cX7_readAll 60 = .ok (.iconst 1, 1) := by decide +kernel
theorem dX7_readAll_61 : decode cX7_readAll 61 = .ok (.ireturn, 1) := by decide +kernel
theorem dX7_readOne_0 : decode cX7_readOne 0 = .ok (.aload_n 0, 1) := by decide +kernel
theorem dX7_readOne_1 : decode cX7_readOne 1 = .ok (.getfield 38, 3) := by decide +kernel
theorem dX7_readOne_4 : decode cX7_readOne 4 = .ok (.sipush 260, 3) := by decide +kernel
theorem dX7_readOne_7 : decode cX7_readOne 7 = .ok (.if_icmp .ne 7, 3) := by decide +kernel
theorem dX7_readOne_10 : decode cX7_readOne 10 = .ok (.iconst 1, 1) := by decide +kernel
theorem dX7_readOne_11 : decode cX7_readOne 11 = .ok (.goto 4, 3) := by decide +kernel
theorem dX7_readOne_14 : decode cX7_readOne 14 = .ok (.iconst 0, 1) := by decide +kernel
theorem dX7_readOne_15 : decode cX7_readOne 15 = .ok (.istore_n 2, 1) := by decide +kernel
theorem dX7_readOne_16 : decode cX7_readOne 16 = .ok (.iload_n 2, 1) := by decide +kernel
theorem dX7_readOne_17 : decode cX7_readOne 17 = .ok (.ifCond .ne 17, 3) := by decide +kernel
theorem dX7_readOne_20 : decode cX7_readOne 20 = .ok (.aload_n 0, 1) := by decide +kernel
theorem dX7_readOne_21 : decode cX7_readOne 21 = .ok (.getfield 38, 3) := by decide +kernel
theorem dX7_readOne_24 : decode cX7_readOne 24 = .ok (.bipush 40, 2) := by decide +kernel
theorem dX7_readOne_26 : decode cX7_readOne 26 = .ok (.if_icmp .eq 8, 3) := by decide +kernel
theorem dX7_readOne_29 : decode cX7_readOne 29 = .ok (.aload_n 0, 1) := by decide +kernel
theorem dX7_readOne_30 : decode cX7_readOne 30 = .ok (.invokevirtual 81, 3) := by decide +kernel
theorem dX7_readOne_33 : decode cX7_readOne 33 = .ok (.ireturn, 1) := by decide +kernel
theorem dX7_readOne_34 : decode cX7_readOne 34 = .ok (.iload_n 1, 1) := by decide +kernel
theorem dX7_readOne_35 : decode cX7_readOne 35 = .ok (.bipush 8, 2) := by decide +kernel
theorem dX7_readOne_37 : decode cX7_readOne 37 = .ok (.if_icmp .lt 9, 3) := by decide +kernel
theorem dX7_readOne_40 : decode cX7_readOne 40 = .ok (.aload_n 0, 1) := by decide +kernel
theorem dX7_readOne_41 : decode cX7_readOne 41 = .ok (.iconst 3, 1) := by decide +kernel
theorem dX7_readOne_42 : decode cX7_readOne 42 = .ok (.invokevirtual 58, 3) := by decide +kernel
theorem dX7_readOne_45 : decode cX7_readOne 45 = .ok (.ireturn, 1) := by decide +kernel
theorem dX7_readOne_46 : decode cX7_readOne 46 = .ok (.aload_n 0, 1) := by decide +kernel
theorem dX7_readOne_47 : decode cX7_readOne 47 = .ok (.invokevirtual 61, 3) := by decide +kernel
theorem dX7_readOne_50 : decode cX7_readOne 50 = .ok (.iload_n 2, 1) := by decide +kernel
theorem dX7_readOne_51 : decode cX7_readOne 51 = .ok (.ifCond .eq 13, 3) := by decide +kernel
theorem dX7_readOne_54 : decode cX7_readOne 54 = .ok (.aload_n 0, 1) := by decide +kernel
theorem dX7_readOne_55 : decode cX7_readOne 55 = .ok (.iload_n 1, 1) := by decide +kernel
theorem dX7_readOne_56 : decode cX7_readOne 56 = .ok (.iconst 1, 1) := by decide +kernel
theorem dX7_readOne_57 : decode cX7_readOne 57 = .ok (.iadd, 1) := by decide +kernel
theorem dX7_readOne_58 : decode cX7_readOne 58 = .ok (.invokevirtual 85, 3) := by decide +kernel
theorem dX7_readOne_61 : decode cX7_readOne 61 = .ok (.goto 10, 3) := by decide +kernel
theorem dX7_readOne_64 : decode cX7_readOne 64 = .ok (.aload_n 0, 1) := by decide +kernel
theorem dX7_readOne_65 : decode cX7_readOne 65 = .ok (.iload_n 1, 1) := by decide +kernel
theorem dX7_readOne_66 : decode cX7_readOne 66 = .ok (.iconst 1, 1) := by decide +kernel
theorem dX7_readOne_67 : decode cX7_readOne 67 = .ok (.iadd, 1) := by decide +kernel
theorem dX7_readOne_68 : decode cX7_readOne 68 = .ok (.invokevirtual 88, 3) := by decide +kernel
theorem dX7_readOne_71 : decode cX7_readOne 71 = .ok (.ireturn, 1) := by decide +kernel
theorem dX7_readDenied_0 : decode cX7_readDenied 0 = .ok (.aload_n 0, 1) := by decide +kernel
theorem dX7_readDenied_1 : decode cX7_readDenied 1 = .ok (.iload_n 1, 1) := by decide +kernel
theorem dX7_readDenied_2 : decode cX7_readDenied 2 = .ok (.invokevirtual 78, 3) := by decide +kernel
theorem dX7_readDenied_5 : decode cX7_readDenied 5 = .ok (.ifCond .ne 5, 3) := by decide +kernel
theorem dX7_readDenied_8 : decode cX7_readDenied 8 = .ok (.iconst 0, 1) := by decide +kernel
theorem dX7_readDenied_9 : decode cX7_readDenied 9 = .ok (.ireturn, 1) := by decide +kernel
theorem dX7_readDenied_10 : decode cX7_readDenied 10 = .ok (.aload_n 0, 1) := by decide +kernel
theorem dX7_readDenied_11 : decode cX7_readDenied 11 = .ok (.getfield 12, 3) := by decide +kernel
theorem dX7_readDenied_14 : decode cX7_readDenied 14 = .ok (.iconst 3, 1) := by decide +kernel
theorem dX7_readDenied_15 : decode cX7_readDenied 15 = .ok (.iconst 0, 1) := by decide +kernel
theorem dX7_readDenied_16 : decode cX7_readDenied 16 = .ok (.invokevirtual 74, 3) := by decide +kernel
theorem dX7_readDenied_19 : decode cX7_readDenied 19 = .ok (.iconst 1, 1) := by decide +kernel
theorem dX7_readDenied_20 : decode cX7_readDenied 20 = .ok (.ireturn, 1) := by decide +kernel
theorem dX7_readBracket_0 : decode cX7_readBracket 0 = .ok (.aload_n 0, 1) := by decide +kernel
theorem dX7_readBracket_1 : decode cX7_readBracket 1 = .ok (.iload_n 1, 1) := by decide +kernel
theorem dX7_readBracket_2 : decode cX7_readBracket 2 = .ok (.invokevirtual 64, 3) := by decide +kernel
theorem dX7_readBracket_5 : decode cX7_readBracket 5 = .ok (.ifCond .ne 5, 3) := by decide +kernel
theorem dX7_readBracket_8 : decode cX7_readBracket 8 = .ok (.iconst 0, 1) := by decide +kernel
theorem dX7_readBracket_9 : decode cX7_readBracket 9 = .ok (.ireturn, 1) := by decide +kernel
theorem dX7_readBracket_10 : decode cX7_readBracket 10 = .ok (.aload_n 0, 1) := by decide +kernel
theorem dX7_readBracket_11 : decode cX7_readBracket 11 = .ok (.getfield 38, 3) := by decide +kernel
theorem dX7_readBracket_14 : decode cX7_readBracket 14 = .ok (.bipush 41, 2) := by decide +kernel
theorem dX7_readBracket_16 : decode cX7_readBracket 16 = .ok (.if_icmp .eq 9, 3) := by decide +kernel
theorem dX7_readBracket_19 : decode cX7_readBracket 19 = .ok (.aload_n 0, 1) := by decide +kernel
theorem dX7_readBracket_20 : decode cX7_readBracket 20 = .ok (.iconst 1, 1) := by decide +kernel
theorem dX7_readBracket_21 : decode cX7_readBracket 21 = .ok (.invokevirtual 58, 3) := by decide +kernel
theorem dX7_readBracket_24 : decode cX7_readBracket 24 = .ok (.ireturn, 1) := by decide +kernel
theorem dX7_readBracket_25 : decode cX7_readBracket 25 = .ok (.aload_n 0, 1) := by decide +kernel
theorem dX7_readBracket_26 : decode cX7_readBracket 26 = .ok (.invokevirtual 61, 3) := by decide +kernel
theorem dX7_readBracket_29 : decode cX7_readBracket 29 = .ok (.iconst 1, 1) := by decide +kernel
theorem dX7_readBracket_30 : decode cX7_readBracket 30 = .ok (.ireturn, 1) := by decide +kernel
theorem dX7_readComparison_0 : decode cX7_readComparison 0 = .ok (.aload_n 0, 1) := by decide +kernel
theorem dX7_readComparison_1 : decode cX7_readComparison 1 = .ok (.invokevirtual 91, 3) := by decide +kernel
theorem dX7_readComparison_4 : decode cX7_readComparison 4 = .ok (.ifCond .ne 5, 3) := by decide +kernel
theorem dX7_readComparison_7 : decode cX7_readComparison 7 = .ok (.iconst 0, 1) := by decide +kernel
theorem dX7_readComparison_8 : decode cX7_readComparison 8 = .ok (.ireturn, 1) := by decide +kernel
theorem dX7_readComparison_9 : decode cX7_readComparison 9 = .ok (.aload_n 0, 1) := by decide +kernel
theorem dX7_readComparison_10 : decode cX7_readComparison 10 = .ok (.getfield 38, 3) := by decide +kernel
theorem dX7_readComparison_13 : decode cX7_readComparison 13 = .ok (.istore_n 1, 1) := by decide +kernel
theorem dX7_readComparison_14 : decode cX7_readComparison 14 = .ok (.iload_n 1, 1) := by decide +kernel
theorem dX7_readComparison_15 : decode cX7_readComparison 15 = .ok (.bipush 60, 2) := by decide +kernel
theorem dX7_readComparison_17 : decode cX7_readComparison 17 = .ok (.if_icmp .eq 21, 3) := by decide +kernel
theorem dX7_readComparison_20 : decode cX7_readComparison 20 = .ok (.iload_n 1, 1) := by decide +kernel
theorem dX7_readComparison_21 : decode cX7_readComparison 21 = .ok (.bipush 61, 2) := by decide +kernel
theorem dX7_readComparison_23 : decode cX7_readComparison 23 = .ok (.if_icmp .eq 15, 3) := by decide +kernel
theorem dX7_readComparison_26 : decode cX7_readComparison 26 = .ok (.iload_n 1, 1) := by decide +kernel
theorem dX7_readComparison_27 : decode cX7_readComparison 27 = .ok (.bipush 62, 2) := by decide +kernel
theorem dX7_readComparison_29 : decode cX7_readComparison 29 = .ok (.if_icmp .eq 9, 3) := by decide +kernel
theorem dX7_readComparison_32 : decode cX7_readComparison 32 = .ok (.aload_n 0, 1) := by decide +kernel
theorem dX7_readComparison_33 : decode cX7_readComparison 33 = .ok (.iconst 1, 1) := by decide +kernel
theorem dX7_readComparison_34 : decode cX7_readComparison 34 = .ok (.invokevirtual 58, 3) := by decide +kernel
theorem dX7_readComparison_37 : decode cX7_readComparison 37 = .ok (.ireturn, 1) := by decide +kernel
theorem dX7_readComparison_38 : decode cX7_readComparison 38 = .ok (.aload_n 0, 1) := by decide +kernel
theorem dX7_readComparison_39 : decode cX7_readComparison 39 = .ok (.invokevirtual 61, 3) := by decide +kernel
theorem dX7_readComparison_42 : decode cX7_readComparison 42 = .ok (.aload_n 0, 1) := by decide +kernel
theorem dX7_readComparison_43 : decode cX7_readComparison 43 = .ok (.invokevirtual 91, 3) := by decide +kernel
theorem dX7_readComparison_46 : decode cX7_readComparison 46 = .ok (.ifCond .ne 5, 3) := by decide +kernel
theorem dX7_readComparison_49 : decode cX7_readComparison 49 = .ok (.iconst 0, 1) := by decide +kernel
theorem dX7_readComparison_50 : decode cX7_readComparison 50 = .ok (.ireturn, 1) := by decide +kernel
theorem dX7_readComparison_51 : decode cX7_readComparison 51 = .ok (.aload_n 0, 1) := by decide +kernel
theorem dX7_readComparison_52 : decode cX7_readComparison 52 = .ok (.getfield 12, 3) := by decide +kernel
theorem dX7_readComparison_55 : decode cX7_readComparison 55 = .ok (.iload_n 1, 1) := by decide +kernel
theorem dX7_readComparison_56 : decode cX7_readComparison 56 = .ok (.bipush 60, 2) := by decide +kernel
theorem dX7_readComparison_58 : decode cX7_readComparison 58 = .ok (.if_icmp .ne 8, 3) := by decide +kernel
theorem dX7_readComparison_61 : decode cX7_readComparison 61 = .ok (.bipush 7, 2) := by decide +kernel
theorem dX7_readComparison_63 : decode cX7_readComparison 63 = .ok (.goto 16, 3) := by decide +kernel
theorem dX7_readComparison_66 : decode cX7_readComparison 66 = .ok (.iload_n 1, 1) := by decide +kernel
theorem dX7_readComparison_67 : decode cX7_readComparison 67 = .ok (.bipush 61, 2) := by decide +kernel
theorem dX7_readComparison_69 : decode cX7_readComparison 69 = .ok (.if_icmp .ne 8, 3) := by decide +kernel
theorem dX7_readComparison_72 : decode cX7_readComparison 72 = .ok (.bipush 8, 2) := by decide +kernel
theorem dX7_readComparison_74 : decode cX7_readComparison 74 = .ok (.goto 5, 3) := by decide +kernel
theorem dX7_readComparison_77 : decode cX7_readComparison 77 = .ok (.bipush 9, 2) := by decide +kernel
theorem dX7_readComparison_79 : decode cX7_readComparison 79 = .ok (.iconst 0, 1) := by decide +kernel
theorem dX7_readComparison_80 : decode cX7_readComparison 80 = .ok (.invokevirtual 74, 3) := by decide +kernel
theorem dX7_readComparison_83 : decode cX7_readComparison 83 = .ok (.iconst 1, 1) := by decide +kernel
theorem dX7_readComparison_84 : decode cX7_readComparison 84 = .ok (.ireturn, 1) := by decide +kernel
theorem dX7_readSum_0 : decode cX7_readSum 0 = .ok (.aload_n 0, 1) := by decide +kernel
theorem dX7_readSum_1 : decode cX7_readSum 1 = .ok (.invokevirtual 94, 3) := by decide +kernel
theorem dX7_readSum_4 : decode cX7_readSum 4 = .ok (.ifCond .ne 5, 3) := by decide +kernel
theorem dX7_readSum_7 : decode cX7_readSum 7 = .ok (.iconst 0, 1) := by decide +kernel
theorem dX7_readSum_8 : decode cX7_readSum 8 = .ok (.ireturn, 1) := by decide +kernel
theorem dX7_readSum_9 : decode cX7_readSum 9 = .ok (.bipush 15, 2) := by decide +kernel
theorem dX7_readSum_11 : decode cX7_readSum 11 = .ok (.istore_n 1, 1) := by decide +kernel
theorem dX7_readSum_12 : decode cX7_readSum 12 = .ok (.iconst 0, 1) := by decide +kernel
theorem dX7_readSum_13 : decode cX7_readSum 13 = .ok (.istore_n 2, 1) := by decide +kernel
theorem dX7_readSum_14 : decode cX7_readSum 14 = .ok (.iload_n 2, 1) := by decide +kernel
theorem dX7_readSum_15 : decode cX7_readSum 15 = .ok (.aload_n 0, 1) := by decide +kernel
theorem dX7_readSum_16 : decode cX7_readSum 16 = .ok (.getfield 32, 3) := by decide +kernel
theorem dX7_readSum_19 : decode cX7_readSum 19 = .ok (.if_icmp .ge 102, 3) := by decide +kernel
theorem dX7_readSum_22 : decode cX7_readSum 22 = .ok (.aload_n 0, 1) := by decide +kernel
theorem dX7_readSum_23 : decode cX7_readSum 23 = .ok (.getfield 38, 3) := by decide +kernel
theorem dX7_readSum_26 : decode cX7_readSum 26 = .ok (.invokestatic 97, 3) := by decide +kernel
theorem dX7_readSum_29 : decode cX7_readSum 29 = .ok (.ifCond .eq 92, 3) := by decide +kernel
theorem dX7_readSum_32 : decode cX7_readSum 32 = .ok (.aload_n 0, 1) := by decide +kernel
theorem dX7_readSum_33 : decode cX7_readSum 33 = .ok (.getfield 38, 3) := by decide +kernel
theorem dX7_readSum_36 : decode cX7_readSum 36 = .ok (.istore_n 3, 1) := by decide +kernel
theorem dX7_readSum_37 : decode cX7_readSum 37 = .ok (.iload_n 3, 1) := by decide +kernel
theorem dX7_readSum_38 : decode cX7_readSum 38 = .ok (.bipush 43, 2) := by decide +kernel
theorem dX7_readSum_40 : decode cX7_readSum 40 = .ok (.if_icmp .eq 9, 3) := by decide +kernel
