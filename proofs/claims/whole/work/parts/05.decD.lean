theorem dX7_init_0 : decode cX7_init 0 = .ok (.aload_n 0, 1) := by decide +kernel
theorem dX7_init_1 : decode cX7_init 1 = .ok (.invokespecial 1, 3) := by decide +kernel
theorem dX7_init_4 : decode cX7_init 4 = .ok (.aload_n 0, 1) := by decide +kernel
theorem dX7_init_5 : decode cX7_init 5 = .ok (.sipush 156, 3) := by decide +kernel
theorem dX7_init_8 : decode cX7_init 8 = .ok (.newarray .int, 2) := by decide +kernel
theorem dX7_init_10 : decode cX7_init 10 = .ok (.putfield 7, 3) := by decide +kernel
theorem dX7_init_13 : decode cX7_init 13 = .ok (.aload_n 0, 1) := by decide +kernel
theorem dX7_init_14 : decode cX7_init 14 = .ok (.sipush 624, 3) := by decide +kernel
theorem dX7_init_17 : decode cX7_init 17 = .ok (.newarray .int, 2) := by decide +kernel
theorem dX7_init_19 : decode cX7_init 19 = .ok (.putfield 13, 3) := by decide +kernel
theorem dX7_init_22 : decode cX7_init 22 = .ok (.aload_n 0, 1) := by decide +kernel
theorem dX7_init_23 : decode cX7_init 23 = .ok (.sipush 156, 3) := by decide +kernel
theorem dX7_init_26 : decode cX7_init 26 = .ok (.newarray .int, 2) := by decide +kernel
theorem dX7_init_28 : decode cX7_init 28 = .ok (.putfield 16, 3) := by decide +kernel
theorem dX7_init_31 : decode cX7_init 31 = .ok (.aload_n 0, 1) := by decide +kernel
theorem dX7_init_32 : decode cX7_init 32 = .ok (.bipush 60, 2) := by decide +kernel
theorem dX7_init_34 : decode cX7_init 34 = .ok (.newarray .int, 2) := by decide +kernel
theorem dX7_init_36 : decode cX7_init 36 = .ok (.putfield 19, 3) := by decide +kernel
theorem dX7_init_39 : decode cX7_init 39 = .ok (.aload_n 0, 1) := by decide +kernel
theorem dX7_init_40 : decode cX7_init 40 = .ok (.bipush 12, 2) := by decide +kernel
theorem dX7_init_42 : decode cX7_init 42 = .ok (.newarray .int, 2) := by decide +kernel
theorem dX7_init_44 : decode cX7_init 44 = .ok (.putfield 22, 3) := by decide +kernel
theorem dX7_init_47 : decode cX7_init 47 = .ok (.aload_n 0, 1) := by decide +kernel
theorem dX7_init_48 : decode cX7_init 48 = .ok (.bipush 12, 2) := by decide +kernel
theorem dX7_init_50 : decode cX7_init 50 = .ok (.newarray .int, 2) := by decide +kernel
theorem dX7_init_52 : decode cX7_init 52 = .ok (.putfield 25, 3) := by decide +kernel
theorem dX7_init_55 : decode cX7_init 55 = .ok (.aload_n 0, 1) := by decide +kernel
theorem dX7_init_56 : decode cX7_init 56 = .ok (.bipush 12, 2) := by decide +kernel
theorem dX7_init_58 : decode cX7_init 58 = .ok (.newarray .int, 2) := by decide +kernel
theorem dX7_init_60 : decode cX7_init 60 = .ok (.putfield 28, 3) := by decide +kernel
theorem dX7_init_63 : decode cX7_init 63 = .ok (.aload_n 0, 1) := by decide +kernel
theorem dX7_init_64 : decode cX7_init 64 = .ok (.bipush 12, 2) := by decide +kernel
theorem dX7_init_66 : decode cX7_init 66 = .ok (.newarray .int, 2) := by decide +kernel
theorem dX7_init_68 : decode cX7_init 68 = .ok (.putfield 31, 3) := by decide +kernel
theorem dX7_init_71 : decode cX7_init 71 = .ok (.aload_n 0, 1) := by decide +kernel
theorem dX7_init_72 : decode cX7_init 72 = .ok (.iconst 3, 1) := by decide +kernel
theorem dX7_init_73 : decode cX7_init 73 = .ok (.newarray .int, 2) := by decide +kernel
theorem dX7_init_75 : decode cX7_init 75 = .ok (.putfield 34, 3) := by decide +kernel
theorem dX7_init_78 : decode cX7_init 78 = .ok (.aload_n 0, 1) := by decide +kernel
theorem dX7_init_79 : decode cX7_init 79 = .ok (.getfield 7, 3) := by decide +kernel
theorem dX7_init_82 : decode cX7_init 82 = .ok (.sipush 155, 3) := by decide +kernel
theorem dX7_init_85 : decode cX7_init 85 = .ok (.iconst 3, 1) := by decide +kernel
theorem dX7_init_86 : decode cX7_init 86 = .ok (.iastore, 1) := by decide +kernel
theorem dX7_init_87 : decode cX7_init 87 = .ok (.return_, 1) := by decide +kernel
theorem dX7_in_0 : decode cX7_in 0 = .ok (.iload_n 0, 1) := by decide +kernel
theorem dX7_in_1 : decode cX7_in 1 = .ok (.iload_n 1, 1) := by decide +kernel
theorem dX7_in_2 : decode cX7_in 2 = .ok (.if_icmp .lt 12, 3) := by decide +kernel
theorem dX7_in_5 : decode cX7_in 5 = .ok (.iload_n 0, 1) := by decide +kernel
theorem dX7_in_6 : decode cX7_in 6 = .ok (.iload_n 2, 1) := by decide +kernel
theorem dX7_in_7 : decode cX7_in 7 = .ok (.if_icmp .gt 7, 3) := by decide +kernel
theorem dX7_in_10 : decode cX7_in 10 = .ok (.iconst 1, 1) := by decide +kernel
theorem dX7_in_11 : decode cX7_in 11 = .ok (.goto 4, 3) := by decide +kernel
theorem dX7_in_14 : decode cX7_in 14 = .ok (.iconst 0, 1) := by decide +kernel
theorem dX7_in_15 : decode cX7_in 15 = .ok (.ireturn, 1) := by decide +kernel
theorem dX7_copies_0 : decode cX7_copies 0 = .ok (.iconst 0, 1) := by decide +kernel
theorem dX7_copies_1 : decode cX7_copies 1 = .ok (.istore_n 2, 1) := by decide +kernel
theorem dX7_copies_2 : decode cX7_copies 2 = .ok (.iload_n 2, 1) := by decide +kernel
theorem dX7_copies_3 : decode cX7_copies 3 = .ok (.sipush 156, 3) := by decide +kernel
theorem dX7_copies_6 : decode cX7_copies 6 = .ok (.if_icmp .ge 15, 3) := by decide +kernel
theorem dX7_copies_9 : decode cX7_copies 9 = .ok (.aload_n 1, 1) := by decide +kernel
theorem dX7_copies_10 : decode cX7_copies 10 = .ok (.iload_n 2, 1) := by decide +kernel
theorem dX7_copies_11 : decode cX7_copies 11 = .ok (.aload_n 0, 1) := by decide +kernel
theorem dX7_copies_12 : decode cX7_copies 12 = .ok (.iload_n 2, 1) := by decide +kernel
theorem dX7_copies_13 : decode cX7_copies 13 = .ok (.iaload, 1) := by decide +kernel
theorem dX7_copies_14 : decode cX7_copies 14 = .ok (.iastore, 1) := by decide +kernel
theorem dX7_copies_15 : decode cX7_copies 15 = .ok (.iinc 2 1, 3) := by decide +kernel
theorem dX7_copies_18 : decode cX7_copies 18 = .ok (.goto (-16), 3) := by decide +kernel
theorem dX7_copies_21 : decode cX7_copies 21 = .ok (.return_, 1) := by decide +kernel
theorem dX7_changes_0 : decode cX7_changes 0 = .ok (.aload_n 0, 1) := by decide +kernel
theorem dX7_changes_1 : decode cX7_changes 1 = .ok (.getfield 37, 3) := by decide +kernel
theorem dX7_changes_4 : decode cX7_changes 4 = .ok (.ifCond .eq 4, 3) := by decide +kernel
theorem dX7_changes_7 : decode cX7_changes 7 = .ok (.return_, 1) := by decide +kernel
theorem dX7_changes_8 : decode cX7_changes 8 = .ok (.aload_n 0, 1) := by decide +kernel
theorem dX7_changes_9 : decode cX7_changes 9 = .ok (.getfield 41, 3) := by decide +kernel
theorem dX7_changes_12 : decode cX7_changes 12 = .ok (.iconst 4, 1) := by decide +kernel
theorem dX7_changes_13 : decode cX7_changes 13 = .ok (.if_icmp .ne 44, 3) := by decide +kernel
theorem dX7_changes_16 : decode cX7_changes 16 = .ok (.iconst 0, 1) := by decide +kernel
theorem dX7_changes_17 : decode cX7_changes 17 = .ok (.istore_n 1, 1) := by decide +kernel
theorem dX7_changes_18 : decode cX7_changes 18 = .ok (.iload_n 1, 1) := by decide +kernel
theorem dX7_changes_19 : decode cX7_changes 19 = .ok (.sipush 468, 3) := by decide +kernel
theorem dX7_changes_22 : decode cX7_changes 22 = .ok (.if_icmp .ge 25, 3) := by decide +kernel
theorem dX7_changes_25 : decode cX7_changes 25 = .ok (.aload_n 0, 1) := by decide +kernel
theorem dX7_changes_26 : decode cX7_changes 26 = .ok (.getfield 13, 3) := by decide +kernel
theorem dX7_changes_29 : decode cX7_changes 29 = .ok (.iload_n 1, 1) := by decide +kernel
theorem dX7_changes_30 : decode cX7_changes 30 = .ok (.aload_n 0, 1) := by decide +kernel
theorem dX7_changes_31 : decode cX7_changes 31 = .ok (.getfield 13, 3) := by decide +kernel
theorem dX7_changes_34 : decode cX7_changes 34 = .ok (.iload_n 1, 1) := by decide +kernel
theorem dX7_changes_35 : decode cX7_changes 35 = .ok (.sipush 156, 3) := by decide +kernel
theorem dX7_changes_38 : decode cX7_changes 38 = .ok (.iadd, 1) := by decide +kernel
theorem dX7_changes_39 : decode cX7_changes 39 = .ok (.iaload, 1) := by decide +kernel
theorem dX7_changes_40 : decode cX7_changes 40 = .ok (.iastore, 1) := by decide +kernel
theorem dX7_changes_41 : decode cX7_changes 41 = .ok (.iinc 1 1, 3) := by decide +kernel
theorem dX7_changes_44 : decode cX7_changes 44 = .ok (.goto (-26), 3) := by decide +kernel
theorem dX7_changes_47 : decode cX7_changes 47 = .ok (.aload_n 0, 1) := by decide +kernel
theorem dX7_changes_48 : decode cX7_changes 48 = .ok (.dup, 1) := by decide +kernel
theorem dX7_changes_49 : decode cX7_changes 49 = .ok (.getfield 41, 3) := by decide +kernel
theorem dX7_changes_52 : decode cX7_changes 52 = .ok (.iconst 1, 1) := by decide +kernel
theorem dX7_changes_53 : decode cX7_changes 53 = .ok (.isub, 1) := by decide +kernel
theorem dX7_changes_54 : decode cX7_changes 54 = .ok (.putfield 41, 3) := by decide +kernel
theorem dX7_changes_57 : decode cX7_changes 57 = .ok (.iconst 0, 1) := by decide +kernel
theorem dX7_changes_58 : decode cX7_changes 58 = .ok (.istore_n 1, 1) := by decide +kernel
theorem dX7_changes_59 : decode cX7_changes 59 = .ok (.iload_n 1, 1) := by decide +kernel
theorem dX7_changes_60 : decode cX7_changes 60 = .ok (.sipush 156, 3) := by decide +kernel
theorem dX7_changes_63 : decode cX7_changes 63 = .ok (.if_icmp .ge 30, 3) := by decide +kernel
theorem dX7_changes_66 : decode cX7_changes 66 = .ok (.aload_n 0, 1) := by decide +kernel
theorem dX7_changes_67 : decode cX7_changes 67 = .ok (.getfield 13, 3) := by decide +kernel
theorem dX7_changes_70 : decode cX7_changes 70 = .ok (.sipush 156, 3) := by decide +kernel
theorem dX7_changes_73 : decode cX7_changes 73 = .ok (.aload_n 0, 1) := by decide +kernel
theorem dX7_changes_74 : decode cX7_changes 74 = .ok (.getfield 41, 3) := by decide +kernel
theorem dX7_changes_77 : decode cX7_changes 77 = .ok (.imul, 1) := by decide +kernel
theorem dX7_changes_78 : decode cX7_changes 78 = .ok (.iload_n 1, 1) := by decide +kernel
theorem dX7_changes_79 : decode cX7_changes 79 = .ok (.iadd, 1) := by decide +kernel
theorem dX7_changes_80 : decode cX7_changes 80 = .ok (.aload_n 0, 1) := by decide +kernel
theorem dX7_changes_81 : decode cX7_changes 81 = .ok (.getfield 7, 3) := by decide +kernel
theorem dX7_changes_84 : decode cX7_changes 84 = .ok (.iload_n 1, 1) := by decide +kernel
theorem dX7_changes_85 : decode cX7_changes 85 = .ok (.iaload, 1) := by decide +kernel
theorem dX7_changes_86 : decode cX7_changes 86 = .ok (.iastore, 1) := by decide +kernel
theorem dX7_changes_87 : decode cX7_changes 87 = .ok (.iinc 1 1, 3) := by decide +kernel
theorem dX7_changes_90 : decode cX7_changes 90 = .ok (.goto (-31), 3) := by decide +kernel
theorem dX7_changes_93 : decode cX7_changes 93 = .ok (.aload_n 0, 1) := by decide +kernel
theorem dX7_changes_94 : decode cX7_changes 94 = .ok (.dup, 1) := by decide +kernel
theorem dX7_changes_95 : decode cX7_changes 95 = .ok (.getfield 41, 3) := by decide +kernel
theorem dX7_changes_98 : decode cX7_changes 98 = .ok (.iconst 1, 1) := by decide +kernel
theorem dX7_changes_99 : decode cX7_changes 99 = .ok (.iadd, 1) := by decide +kernel
theorem dX7_changes_100 : decode cX7_changes 100 = .ok (.putfield 41, 3) := by decide +kernel
theorem dX7_changes_103 : decode cX7_changes 103 = .ok (.return_, 1) := by decide +kernel
theorem dX7_of_0 : decode cX7_of 0 = .ok (.aload_n 0, 1) := by decide +kernel
theorem dX7_of_1 : decode cX7_of 1 = .ok (.getfield 7, 3) := by decide +kernel
theorem dX7_of_4 : decode cX7_of 4 = .ok (.iconst 3, 1) := by decide +kernel
theorem dX7_of_5 : decode cX7_of 5 = .ok (.iload_n 1, 1) := by decide +kernel
theorem dX7_of_6 : decode cX7_of 6 = .ok (.imul, 1) := by decide +kernel
theorem dX7_of_7 : decode cX7_of 7 = .ok (.iload_n 2, 1) := by decide +kernel
theorem dX7_of_8 : decode cX7_of 8 = .ok (.iadd, 1) := by decide +kernel
theorem dX7_of_9 : decode cX7_of 9 = .ok (.iaload, 1) := by decide +kernel
theorem dX7_of_10 : decode cX7_of 10 = .ok (.ireturn, 1) := by decide +kernel
theorem dX7_tied_0 : decode cX7_tied 0 = .ok (.aload_n 0, 1) := by decide +kernel
theorem dX7_tied_1 : decode cX7_tied 1 = .ok (.getfield 7, 3) := by decide +kernel
theorem dX7_tied_4 : decode cX7_tied 4 = .ok (.bipush 36, 2) := by decide +kernel
theorem dX7_tied_6 : decode cX7_tied 6 = .ok (.iconst 4, 1) := by decide +kernel
theorem dX7_tied_7 : decode cX7_tied 7 = .ok (.iload_n 1, 1) := by decide +kernel
theorem dX7_tied_8 : decode cX7_tied 8 = .ok (.imul, 1) := by decide +kernel
theorem dX7_tied_9 : decode cX7_tied 9 = .ok (.iadd, 1) := by decide +kernel
theorem dX7_tied_10 : decode cX7_tied 10 = .ok (.iload_n 2, 1) := by decide +kernel
theorem dX7_tied_11 : decode cX7_tied 11 = .ok (.iadd, 1) := by decide +kernel
theorem dX7_tied_12 : decode cX7_tied 12 = .ok (.iaload, 1) := by decide +kernel
theorem dX7_tied_13 : decode cX7_tied 13 = .ok (.ireturn, 1) := by decide +kernel
theorem dX7_isPuppet_0 : decode cX7_isPuppet 0 = .ok (.iload_n 1, 1) := by decide +kernel
theorem dX7_isPuppet_1 : decode cX7_isPuppet 1 = .ok (.iconst 0, 1) := by decide +kernel
theorem dX7_isPuppet_2 : decode cX7_isPuppet 2 = .ok (.aload_n 0, 1) := by decide +kernel
theorem dX7_isPuppet_3 : decode cX7_isPuppet 3 = .ok (.getfield 7, 3) := by decide +kernel
theorem dX7_isPuppet_6 : decode cX7_isPuppet 6 = .ok (.sipush 148, 3) := by decide +kernel
theorem dX7_isPuppet_9 : decode cX7_isPuppet 9 = .ok (.iaload, 1) := by decide +kernel
theorem dX7_isPuppet_10 : decode cX7_isPuppet 10 = .ok (.iconst 1, 1) := by decide +kernel
theorem dX7_isPuppet_11 : decode cX7_isPuppet 11 = .ok (.isub, 1) := by decide +kernel
theorem dX7_isPuppet_12 : decode cX7_isPuppet 12 = .ok (.invokestatic 45, 3) := by decide +kernel
theorem dX7_isPuppet_15 : decode cX7_isPuppet 15 = .ok (.ireturn, 1) := by decide +kernel
theorem dX7_isString_0 : decode cX7_isString 0 = .ok (.iload_n 1, 1) := by decide +kernel
theorem dX7_isString_1 : decode cX7_isString 1 = .ok (.iconst 0, 1) := by decide +kernel
theorem dX7_isString_2 : decode cX7_isString 2 = .ok (.aload_n 0, 1) := by decide +kernel
theorem dX7_isString_3 : decode cX7_isString 3 = .ok (.getfield 7, 3) := by decide +kernel
theorem dX7_isString_6 : decode cX7_isString 6 = .ok (.sipush 149, 3) := by decide +kernel
theorem dX7_isString_9 : decode cX7_isString 9 = .ok (.iaload, 1) := by decide +kernel
theorem dX7_isString_10 : decode cX7_isString 10 = .ok (.iconst 1, 1) := by decide +kernel
theorem dX7_isString_11 : decode cX7_isString 11 = .ok (.isub, 1) := by decide +kernel
theorem dX7_isString_12 : decode cX7_isString 12 = .ok (.invokestatic 45, 3) := by decide +kernel
theorem dX7_isString_15 : decode cX7_isString 15 = .ok (.ireturn, 1) := by decide +kernel
theorem dX7_isPair_0 : decode cX7_isPair 0 = .ok (.aload_n 0, 1) := by decide +kernel
theorem dX7_isPair_1 : decode cX7_isPair 1 = .ok (.iload_n 1, 1) := by decide +kernel
theorem dX7_isPair_2 : decode cX7_isPair 2 = .ok (.invokevirtual 49, 3) := by decide +kernel
theorem dX7_isPair_5 : decode cX7_isPair 5 = .ok (.ifCond .eq 20, 3) := by decide +kernel
theorem dX7_isPair_8 : decode cX7_isPair 8 = .ok (.aload_n 0, 1) := by decide +kernel
theorem dX7_isPair_9 : decode cX7_isPair 9 = .ok (.iload_n 2, 1) := by decide +kernel
theorem dX7_isPair_10 : decode cX7_isPair 10 = .ok (.invokevirtual 49, 3) := by decide +kernel
theorem dX7_isPair_13 : decode cX7_isPair 13 = .ok (.ifCond .eq 12, 3) := by decide +kernel
theorem dX7_isPair_16 : decode cX7_isPair 16 = .ok (.iload_n 1, 1) := by decide +kernel
theorem dX7_isPair_17 : decode cX7_isPair 17 = .ok (.iload_n 2, 1) := by decide +kernel
theorem dX7_isPair_18 : decode cX7_isPair 18 = .ok (.if_icmp .eq 7, 3) := by decide +kernel
theorem dX7_isPair_21 : decode cX7_isPair 21 = .ok (.iconst 1, 1) := by decide +kernel
theorem dX7_isPair_22 : decode cX7_isPair 22 = .ok (.goto 4, 3) := by decide +kernel
theorem dX7_isPair_25 : decode cX7_isPair 25 = .ok (.iconst 0, 1) := by decide +kernel
theorem dX7_isPair_26 : decode cX7_isPair 26 = .ok (.ireturn, 1) := by decide +kernel
theorem dX7_looks_0 : decode cX7_looks 0 = .ok (.iconst 0, 1) := by decide +kernel
theorem dX7_looks_1 : decode cX7_looks 1 = .ok (.istore_n 2, 1) := by decide +kernel
theorem dX7_looks_2 : decode cX7_looks 2 = .ok (.iload_n 2, 1) := by decide +kernel
theorem dX7_looks_3 : decode cX7_looks 3 = .ok (.aload_n 0, 1) := by decide +kernel
theorem dX7_looks_4 : decode cX7_looks 4 = .ok (.getfield 7, 3) := by decide +kernel
theorem dX7_looks_7 : decode cX7_looks 7 = .ok (.sipush 148, 3) := by decide +kernel
theorem dX7_looks_10 : decode cX7_looks 10 = .ok (.iaload, 1) := by decide +kernel
theorem dX7_looks_11 : decode cX7_looks 11 = .ok (.if_icmp .ge 23, 3) := by decide +kernel
theorem dX7_looks_14 : decode cX7_looks 14 = .ok (.aload_n 0, 1) := by decide +kernel
theorem dX7_looks_15 : decode cX7_looks 15 = .ok (.getfield 22, 3) := by decide +kernel
theorem dX7_looks_18 : decode cX7_looks 18 = .ok (.iload_n 2, 1) := by decide +kernel
theorem dX7_looks_19 : decode cX7_looks 19 = .ok (.iload_n 2, 1) := by decide +kernel
theorem dX7_looks_20 : decode cX7_looks 20 = .ok (.iastore, 1) := by decide +kernel
theorem dX7_looks_21 : decode cX7_looks 21 = .ok (.aload_n 0, 1) := by decide +kernel
theorem dX7_looks_22 : decode cX7_looks 22 = .ok (.getfield 25, 3) := by decide +kernel
theorem dX7_looks_25 : decode cX7_looks 25 = .ok (.iload_n 2, 1) := by decide +kernel
theorem dX7_looks_26 : decode cX7_looks 26 = .ok (.iconst 0, 1) := by decide +kernel
theorem dX7_looks_27 : decode cX7_looks 27 = .ok (.iastore, 1) := by decide +kernel
theorem dX7_looks_28 : decode cX7_looks 28 = .ok (.iinc 2 1, 3) := by decide +kernel
theorem dX7_looks_31 : decode cX7_looks 31 = .ok (.goto (-29), 3) := by decide +kernel
theorem dX7_looks_34 : decode cX7_looks 34 = .ok (.iconst 1, 1) := by decide +kernel
theorem dX7_looks_35 : decode cX7_looks 35 = .ok (.istore_n 2, 1) := by decide +kernel
theorem dX7_looks_36 : decode cX7_looks 36 = .ok (.iload_n 2, 1) := by decide +kernel
theorem dX7_looks_37 : decode cX7_looks 37 = .ok (.ifCond .eq 68, 3) := by decide +kernel
theorem dX7_looks_40 : decode cX7_looks 40 = .ok (.iconst 0, 1) := by decide +kernel
theorem dX7_looks_41 : decode cX7_looks 41 = .ok (.istore_n 2, 1) := by decide +kernel
theorem dX7_looks_42 : decode cX7_looks 42 = .ok (.iconst 0, 1) := by decide +kernel
theorem dX7_looks_43 : decode cX7_looks 43 = .ok (.istore_n 3, 1) := by decide +kernel
theorem dX7_looks_44 : decode cX7_looks 44 = .ok (.iload_n 3, 1) := by decide +kernel
theorem dX7_looks_45 : decode cX7_looks 45 = .ok (.aload_n 0, 1) := by decide +kernel
theorem dX7_looks_46 : decode cX7_looks 46 = .ok (.getfield 7, 3) := by decide +kernel
theorem dX7_looks_49 : decode cX7_looks 49 = .ok (.sipush 149, 3) := by decide +kernel
theorem dX7_looks_52 : decode cX7_looks 52 = .ok (.iaload, 1) := by decide +kernel
theorem dX7_looks_53 : decode cX7_looks 53 = .ok (.if_icmp .ge 49, 3) := by decide +kernel
theorem dX7_looks_56 : decode cX7_looks 56 = .ok (.iload_n 3, 1) := by decide +kernel
theorem dX7_looks_57 : decode cX7_looks 57 = .ok (.iload_n 1, 1) := by decide +kernel
theorem dX7_looks_58 : decode cX7_looks 58 = .ok (.if_icmp .eq 28, 3) := by decide +kernel
theorem dX7_looks_61 : decode cX7_looks 61 = .ok (.aload_n 0, 1) := by decide +kernel
theorem dX7_looks_62 : decode cX7_looks 62 = .ok (.aload_n 0, 1) := by decide +kernel
theorem dX7_looks_63 : decode cX7_looks 63 = .ok (.iload_n 3, 1) := by decide +kernel
theorem dX7_looks_64 : decode cX7_looks 64 = .ok (.iconst 0, 1) := by decide +kernel
theorem dX7_looks_65 : decode cX7_looks 65 = .ok (.invokevirtual 53, 3) := by decide +kernel
theorem dX7_looks_68 : decode cX7_looks 68 = .ok (.aload_n 0, 1) := by decide +kernel
theorem dX7_looks_69 : decode cX7_looks 69 = .ok (.iload_n 3, 1) := by decide +kernel
theorem dX7_looks_70 : decode cX7_looks 70 = .ok (.iconst 1, 1) := by decide +kernel
theorem dX7_looks_71 : decode cX7_looks 71 = .ok (.invokevirtual 53, 3) := by decide +kernel
theorem dX7_looks_74 : decode cX7_looks 74 = .ok (.aload_n 0, 1) := by decide +kernel
theorem dX7_looks_75 : decode cX7_looks 75 = .ok (.iload_n 3, 1) := by decide +kernel
theorem dX7_looks_76 : decode cX7_looks 76 = .ok (.iconst 2, 1) := by decide +kernel
theorem dX7_looks_77 : decode cX7_looks 77 = .ok (.invokevirtual 53, 3) := by decide +kernel
theorem dX7_looks_80 : decode cX7_looks 80 = .ok (.invokevirtual 57, 3) := by decide +kernel
theorem dX7_looks_83 : decode cX7_looks 83 = .ok (.ifCond .ne 7, 3) := by decide +kernel
theorem dX7_looks_86 : decode cX7_looks 86 = .ok (.iload_n 2, 1) := by decide +kernel
theorem dX7_looks_87 : decode cX7_looks 87 = .ok (.ifCond .eq 7, 3) := by decide +kernel
theorem dX7_looks_90 : decode cX7_looks 90 = .ok (.iconst 1, 1) := by decide +kernel
theorem dX7_looks_91 : decode cX7_looks 91 = .ok (.goto 4, 3) := by decide +kernel
theorem dX7_looks_94 : decode cX7_looks 94 = .ok (.iconst 0, 1) := by decide +kernel
theorem dX7_looks_95 : decode cX7_looks 95 = .ok (.istore_n 2, 1) := by decide +kernel
theorem dX7_looks_96 : decode cX7_looks 96 = .ok (.iinc 3 1, 3) := by decide +kernel
theorem dX7_looks_99 : decode cX7_looks 99 = .ok (.goto (-55), 3) := by decide +kernel
theorem dX7_looks_102 : decode cX7_looks 102 = .ok (.goto (-66), 3) := by decide +kernel
theorem dX7_looks_105 : decode cX7_looks 105 = .ok (.return_, 1) := by decide +kernel
theorem dX7_isJoined_0 : decode cX7_isJoined 0 = .ok (.aload_n 0, 1) := by decide +kernel
theorem dX7_isJoined_1 : decode cX7_isJoined 1 = .ok (.getfield 22, 3) := by decide +kernel
theorem dX7_isJoined_4 : decode cX7_isJoined 4 = .ok (.iload_n 1, 1) := by decide +kernel
theorem dX7_isJoined_5 : decode cX7_isJoined 5 = .ok (.iaload, 1) := by decide +kernel
theorem dX7_isJoined_6 : decode cX7_isJoined 6 = .ok (.aload_n 0, 1) := by decide +kernel
theorem dX7_isJoined_7 : decode cX7_isJoined 7 = .ok (.getfield 22, 3) := by decide +kernel
theorem dX7_isJoined_10 : decode cX7_isJoined 10 = .ok (.iload_n 2, 1) := by decide +kernel
theorem dX7_isJoined_11 : decode cX7_isJoined 11 = .ok (.iaload, 1) := by decide +kernel
theorem dX7_isJoined_12 : decode cX7_isJoined 12 = .ok (.if_icmp .ne 5, 3) := by decide +kernel
theorem dX7_isJoined_15 : decode cX7_isJoined 15 = .ok (.iconst 0, 1) := by decide +kernel
theorem dX7_isJoined_16 : decode cX7_isJoined 16 = .ok (.ireturn, 1) := by decide +kernel
theorem dX7_isJoined_17 : decode cX7_isJoined 17 = .ok (.aload_n 0, 1) := by decide +kernel
theorem dX7_isJoined_18 : decode cX7_isJoined 18 = .ok (.getfield 22, 3) := by decide +kernel
theorem dX7_isJoined_21 : decode cX7_isJoined 21 = .ok (.iload_n 1, 1) := by decide +kernel
theorem dX7_isJoined_22 : decode cX7_isJoined 22 = .ok (.iaload, 1) := by decide +kernel
theorem dX7_isJoined_23 : decode cX7_isJoined 23 = .ok (.aload_n 0, 1) := by decide +kernel
theorem dX7_isJoined_24 : decode cX7_isJoined 24 = .ok (.getfield 22, 3) := by decide +kernel
theorem dX7_isJoined_27 : decode cX7_isJoined 27 = .ok (.iload_n 2, 1) := by decide +kernel
theorem dX7_isJoined_28 : decode cX7_isJoined 28 = .ok (.iaload, 1) := by decide +kernel
theorem dX7_isJoined_29 : decode cX7_isJoined 29 = .ok (.if_icmp .ge 7, 3) := by decide +kernel
theorem dX7_isJoined_32 : decode cX7_isJoined 32 = .ok (.iload_n 1, 1) := by decide +kernel
theorem dX7_isJoined_33 : decode cX7_isJoined 33 = .ok (.goto 4, 3) := by decide +kernel
theorem dX7_isJoined_36 : decode cX7_isJoined 36 = .ok (.iload_n 2, 1) := by decide +kernel
theorem dX7_isJoined_37 : decode cX7_isJoined 37 = .ok (.istore 4, 2) := by decide +kernel
theorem dX7_isJoined_39 : decode cX7_isJoined 39 = .ok (.iload 4, 2) := by decide +kernel
theorem dX7_isJoined_41 : decode cX7_isJoined 41 = .ok (.iload_n 1, 1) := by decide +kernel
theorem dX7_isJoined_42 : decode cX7_isJoined 42 = .ok (.if_icmp .ne 7, 3) := by decide +kernel
theorem dX7_isJoined_45 : decode cX7_isJoined 45 = .ok (.iload_n 2, 1) := by decide +kernel
theorem dX7_isJoined_46 : decode cX7_isJoined 46 = .ok (.goto 4, 3) := by decide +kernel
theorem dX7_isJoined_49 : decode cX7_isJoined 49 = .ok (.iload_n 1, 1) := by decide +kernel
theorem dX7_isJoined_50 : decode cX7_isJoined 50 = .ok (.istore 5, 2) := by decide +kernel
theorem dX7_isJoined_52 : decode cX7_isJoined 52 = .ok (.aload_n 0, 1) := by decide +kernel
theorem dX7_isJoined_53 : decode cX7_isJoined 53 = .ok (.getfield 22, 3) := by decide +kernel
theorem dX7_isJoined_56 : decode cX7_isJoined 56 = .ok (.iload 5, 2) := by decide +kernel
theorem dX7_isJoined_58 : decode cX7_isJoined 58 = .ok (.aload_n 0, 1) := by decide +kernel
theorem dX7_isJoined_59 : decode cX7_isJoined 59 = .ok (.getfield 22, 3) := by decide +kernel
theorem dX7_isJoined_62 : decode cX7_isJoined 62 = .ok (.iload 4, 2) := by decide +kernel
theorem dX7_isJoined_64 : decode cX7_isJoined 64 = .ok (.iaload, 1) := by decide +kernel
theorem dX7_isJoined_65 : decode cX7_isJoined 65 = .ok (.iastore, 1) := by decide +kernel
theorem dX7_isJoined_66 : decode cX7_isJoined 66 = .ok (.aload_n 0, 1) := by decide +kernel
theorem dX7_isJoined_67 : decode cX7_isJoined 67 = .ok (.getfield 25, 3) := by decide +kernel
theorem dX7_isJoined_70 : decode cX7_isJoined 70 = .ok (.iload 5, 2) := by decide +kernel
theorem dX7_isJoined_72 : decode cX7_isJoined 72 = .ok (.aload_n 0, 1) := by decide +kernel
theorem dX7_isJoined_73 : decode cX7_isJoined 73 = .ok (.getfield 25, 3) := by decide +kernel
theorem dX7_isJoined_76 : decode cX7_isJoined 76 = .ok (.iload 4, 2) := by decide +kernel
theorem dX7_isJoined_78 : decode cX7_isJoined 78 = .ok (.iaload, 1) := by decide +kernel
theorem dX7_isJoined_79 : decode cX7_isJoined 79 = .ok (.iload_n 3, 1) := by decide +kernel
theorem dX7_isJoined_80 : decode cX7_isJoined 80 = .ok (.ixor, 1) := by decide +kernel
theorem dX7_isJoined_81 : decode cX7_isJoined 81 = .ok (.iastore, 1) := by decide +kernel
theorem dX7_isJoined_82 : decode cX7_isJoined 82 = .ok (.iconst 1, 1) := by decide +kernel
theorem dX7_isJoined_83 : decode cX7_isJoined 83 = .ok (.ireturn, 1) := by decide +kernel
theorem dX7_pulled_0 : decode cX7_pulled 0 = .ok (.ldc 60, 2) := by decide +kernel
theorem dX7_pulled_2 : decode cX7_pulled 2 = .ok (.istore_n 3, 1) := by decide +kernel
theorem dX7_pulled_3 : decode cX7_pulled 3 = .ok (.iconst 0, 1) := by decide +kernel
theorem dX7_pulled_4 : decode cX7_pulled 4 = .ok (.istore 4, 2) := by decide +kernel
theorem dX7_pulled_6 : decode cX7_pulled 6 = .ok (.iload 4, 2) := by decide +kernel
theorem dX7_pulled_8 : decode cX7_pulled 8 = .ok (.aload_n 0, 1) := by decide +kernel
theorem dX7_pulled_9 : decode cX7_pulled 9 = .ok (.getfield 7, 3) := by decide +kernel
theorem dX7_pulled_12 : decode cX7_pulled 12 = .ok (.sipush 148, 3) := by decide +kernel
theorem dX7_pulled_15 : decode cX7_pulled 15 = .ok (.iaload, 1) := by decide +kernel
theorem dX7_pulled_16 : decode cX7_pulled 16 = .ok (.if_icmp .ge 58, 3) := by decide +kernel
theorem dX7_pulled_19 : decode cX7_pulled 19 = .ok (.aload_n 0, 1) := by decide +kernel
theorem dX7_pulled_20 : decode cX7_pulled 20 = .ok (.getfield 22, 3) := by decide +kernel
theorem dX7_pulled_23 : decode cX7_pulled 23 = .ok (.iload 4, 2) := by decide +kernel
theorem dX7_pulled_25 : decode cX7_pulled 25 = .ok (.iaload, 1) := by decide +kernel
theorem dX7_pulled_26 : decode cX7_pulled 26 = .ok (.iload_n 1, 1) := by decide +kernel
theorem dX7_pulled_27 : decode cX7_pulled 27 = .ok (.if_icmp .ne 39, 3) := by decide +kernel
theorem dX7_pulled_30 : decode cX7_pulled 30 = .ok (.iload 4, 2) := by decide +kernel
theorem dX7_pulled_32 : decode cX7_pulled 32 = .ok (.iload_n 2, 1) := by decide +kernel
theorem dX7_pulled_33 : decode cX7_pulled 33 = .ok (.if_icmp .eq 33, 3) := by decide +kernel
theorem dX7_pulled_36 : decode cX7_pulled 36 = .ok (.aload_n 0, 1) := by decide +kernel
theorem dX7_pulled_37 : decode cX7_pulled 37 = .ok (.iload 4, 2) := by decide +kernel
theorem dX7_pulled_39 : decode cX7_pulled 39 = .ok (.iconst 2, 1) := by decide +kernel
theorem dX7_pulled_40 : decode cX7_pulled 40 = .ok (.invokevirtual 61, 3) := by decide +kernel
theorem dX7_pulled_43 : decode cX7_pulled 43 = .ok (.ifCond .le 23, 3) := by decide +kernel
theorem dX7_pulled_46 : decode cX7_pulled 46 = .ok (.aload_n 0, 1) := by decide +kernel
theorem dX7_pulled_47 : decode cX7_pulled 47 = .ok (.iload 4, 2) := by decide +kernel
theorem dX7_pulled_49 : decode cX7_pulled 49 = .ok (.iconst 2, 1) := by decide +kernel
theorem dX7_pulled_50 : decode cX7_pulled 50 = .ok (.invokevirtual 61, 3) := by decide +kernel
theorem dX7_pulled_53 : decode cX7_pulled 53 = .ok (.iconst 1, 1) := by decide +kernel
theorem dX7_pulled_54 : decode cX7_pulled 54 = .ok (.isub, 1) := by decide +kernel
theorem dX7_pulled_55 : decode cX7_pulled 55 = .ok (.aload_n 0, 1) := by decide +kernel
theorem dX7_pulled_56 : decode cX7_pulled 56 = .ok (.getfield 25, 3) := by decide +kernel
theorem dX7_pulled_59 : decode cX7_pulled 59 = .ok (.iload 4, 2) := by decide +kernel
theorem dX7_pulled_61 : decode cX7_pulled 61 = .ok (.iaload, 1) := by decide +kernel
theorem dX7_pulled_62 : decode cX7_pulled 62 = .ok (.ixor, 1) := by decide +kernel
theorem dX7_pulled_63 : decode cX7_pulled 63 = .ok (.goto 4, 3) := by decide +kernel
theorem dX7_pulled_66 : decode cX7_pulled 66 = .ok (.iload_n 3, 1) := by decide +kernel
theorem dX7_pulled_67 : decode cX7_pulled 67 = .ok (.istore_n 3, 1) := by decide +kernel
theorem dX7_pulled_68 : decode cX7_pulled 68 = .ok (.iinc 4 1, 3) := by decide +kernel
theorem dX7_pulled_71 : decode cX7_pulled 71 = .ok (.goto (-65), 3) := by decide +kernel
theorem dX7_pulled_74 : decode cX7_pulled 74 = .ok (.iload_n 3, 1) := by decide +kernel
theorem dX7_pulled_75 : decode cX7_pulled 75 = .ok (.ireturn, 1) := by decide +kernel
theorem dX7_byLeanings_0 : decode cX7_byLeanings 0 = .ok (.iconst 0, 1) := by decide +kernel
theorem dX7_byLeanings_1 : decode cX7_byLeanings 1 = .ok (.istore_n 2, 1) := by decide +kernel
theorem dX7_byLeanings_2 : decode cX7_byLeanings 2 = .ok (.iconst 0, 1) := by decide +kernel
theorem dX7_byLeanings_3 : decode cX7_byLeanings 3 = .ok (.istore_n 3, 1) := by decide +kernel
theorem dX7_byLeanings_4 : decode cX7_byLeanings 4 = .ok (.iconst 0, 1) := by decide +kernel
theorem dX7_byLeanings_5 : decode cX7_byLeanings 5 = .ok (.istore 4, 2) := by decide +kernel
theorem dX7_byLeanings_7 : decode cX7_byLeanings 7 = .ok (.iload 4, 2) := by decide +kernel
theorem dX7_byLeanings_9 : decode cX7_byLeanings 9 = .ok (.aload_n 0, 1) := by decide +kernel
theorem dX7_byLeanings_10 : decode cX7_byLeanings 10 = .ok (.getfield 7, 3) := by decide +kernel
theorem dX7_byLeanings_13 : decode cX7_byLeanings 13 = .ok (.sipush 148, 3) := by decide +kernel
theorem dX7_byLeanings_16 : decode cX7_byLeanings 16 = .ok (.iaload, 1) := by decide +kernel
theorem dX7_byLeanings_17 : decode cX7_byLeanings 17 = .ok (.if_icmp .ge 85, 3) := by decide +kernel
theorem dX7_byLeanings_20 : decode cX7_byLeanings 20 = .ok (.aload_n 0, 1) := by decide +kernel
theorem dX7_byLeanings_21 : decode cX7_byLeanings 21 = .ok (.getfield 22, 3) := by decide +kernel
theorem dX7_byLeanings_24 : decode cX7_byLeanings 24 = .ok (.iload 4, 2) := by decide +kernel
theorem dX7_byLeanings_26 : decode cX7_byLeanings 26 = .ok (.iaload, 1) := by decide +kernel
theorem dX7_byLeanings_27 : decode cX7_byLeanings 27 = .ok (.iload_n 1, 1) := by decide +kernel
theorem dX7_byLeanings_28 : decode cX7_byLeanings 28 = .ok (.if_icmp .ne 13, 3) := by decide +kernel
theorem dX7_byLeanings_31 : decode cX7_byLeanings 31 = .ok (.aload_n 0, 1) := by decide +kernel
theorem dX7_byLeanings_32 : decode cX7_byLeanings 32 = .ok (.iload 4, 2) := by decide +kernel
theorem dX7_byLeanings_34 : decode cX7_byLeanings 34 = .ok (.iconst 0, 1) := by decide +kernel
theorem dX7_byLeanings_35 : decode cX7_byLeanings 35 = .ok (.invokevirtual 61, 3) := by decide +kernel
theorem dX7_byLeanings_38 : decode cX7_byLeanings 38 = .ok (.goto 4, 3) := by decide +kernel
theorem dX7_byLeanings_41 : decode cX7_byLeanings 41 = .ok (.iconst 0, 1) := by decide +kernel
theorem dX7_byLeanings_42 : decode cX7_byLeanings 42 = .ok (.istore 5, 2) := by decide +kernel
theorem dX7_byLeanings_44 : decode cX7_byLeanings 44 = .ok (.iload_n 2, 1) := by decide +kernel
theorem dX7_byLeanings_45 : decode cX7_byLeanings 45 = .ok (.aload_n 0, 1) := by decide +kernel
theorem dX7_byLeanings_46 : decode cX7_byLeanings 46 = .ok (.iload 4, 2) := by decide +kernel
theorem dX7_byLeanings_48 : decode cX7_byLeanings 48 = .ok (.iconst 1, 1) := by decide +kernel
theorem dX7_byLeanings_49 : decode cX7_byLeanings 49 = .ok (.invokevirtual 61, 3) := by decide +kernel
theorem dX7_byLeanings_52 : decode cX7_byLeanings 52 = .ok (.aload_n 0, 1) := by decide +kernel
theorem dX7_byLeanings_53 : decode cX7_byLeanings 53 = .ok (.getfield 25, 3) := by decide +kernel
theorem dX7_byLeanings_56 : decode cX7_byLeanings 56 = .ok (.iload 4, 2) := by decide +kernel
theorem dX7_byLeanings_58 : decode cX7_byLeanings 58 = .ok (.iaload, 1) := by decide +kernel
theorem dX7_byLeanings_59 : decode cX7_byLeanings 59 = .ok (.if_icmp .eq 8, 3) := by decide +kernel
theorem dX7_byLeanings_62 : decode cX7_byLeanings 62 = .ok (.iload 5, 2) := by decide +kernel
theorem dX7_byLeanings_64 : decode cX7_byLeanings 64 = .ok (.goto 4, 3) := by decide +kernel
theorem dX7_byLeanings_67 : decode cX7_byLeanings 67 = .ok (.iconst 0, 1) := by decide +kernel
theorem dX7_byLeanings_68 : decode cX7_byLeanings 68 = .ok (.iadd, 1) := by decide +kernel
theorem dX7_byLeanings_69 : decode cX7_byLeanings 69 = .ok (.istore_n 2, 1) := by decide +kernel
theorem dX7_byLeanings_70 : decode cX7_byLeanings 70 = .ok (.iload_n 3, 1) := by decide +kernel
theorem dX7_byLeanings_71 : decode cX7_byLeanings 71 = .ok (.aload_n 0, 1) := by decide +kernel
theorem dX7_byLeanings_72 : decode cX7_byLeanings 72 = .ok (.iload 4, 2) := by decide +kernel
theorem dX7_byLeanings_74 : decode cX7_byLeanings 74 = .ok (.iconst 1, 1) := by decide +kernel
theorem dX7_byLeanings_75 : decode cX7_byLeanings 75 = .ok (.invokevirtual 61, 3) := by decide +kernel
theorem dX7_byLeanings_78 : decode cX7_byLeanings 78 = .ok (.aload_n 0, 1) := by decide +kernel
theorem dX7_byLeanings_79 : decode cX7_byLeanings 79 = .ok (.getfield 25, 3) := by decide +kernel
theorem dX7_byLeanings_82 : decode cX7_byLeanings 82 = .ok (.iload 4, 2) := by decide +kernel
theorem dX7_byLeanings_84 : decode cX7_byLeanings 84 = .ok (.iaload, 1) := by decide +kernel
theorem dX7_byLeanings_85 : decode cX7_byLeanings 85 = .ok (.if_icmp .ne 8, 3) := by decide +kernel
theorem dX7_byLeanings_88 : decode cX7_byLeanings 88 = .ok (.iload 5, 2) := by decide +kernel
theorem dX7_byLeanings_90 : decode cX7_byLeanings 90 = .ok (.goto 4, 3) := by decide +kernel
theorem dX7_byLeanings_93 : decode cX7_byLeanings 93 = .ok (.iconst 0, 1) := by decide +kernel
theorem dX7_byLeanings_94 : decode cX7_byLeanings 94 = .ok (.iadd, 1) := by decide +kernel
theorem dX7_byLeanings_95 : decode cX7_byLeanings 95 = .ok (.istore_n 3, 1) := by decide +kernel
theorem dX7_byLeanings_96 : decode cX7_byLeanings 96 = .ok (.iinc 4 1, 3) := by decide +kernel
theorem dX7_byLeanings_99 : decode cX7_byLeanings 99 = .ok (.goto (-92), 3) := by decide +kernel
theorem dX7_byLeanings_102 : decode cX7_byLeanings 102 = .ok (.iload_n 2, 1) := by decide +kernel
theorem dX7_byLeanings_103 : decode cX7_byLeanings 103 = .ok (.iload_n 3, 1) := by decide +kernel
theorem dX7_byLeanings_104 : decode cX7_byLeanings 104 = .ok (.if_icmp .le 7, 3) := by decide +kernel
theorem dX7_byLeanings_107 : decode cX7_byLeanings 107 = .ok (.iconst 1, 1) := by decide +kernel
theorem dX7_byLeanings_108 : decode cX7_byLeanings 108 = .ok (.goto 18, 3) := by decide +kernel
theorem dX7_byLeanings_111 : decode cX7_byLeanings 111 = .ok (.iload_n 2, 1) := by decide +kernel
theorem dX7_byLeanings_112 : decode cX7_byLeanings 112 = .ok (.iload_n 3, 1) := by decide +kernel
theorem dX7_byLeanings_113 : decode cX7_byLeanings 113 = .ok (.if_icmp .ge 7, 3) := by decide +kernel
theorem dX7_byLeanings_116 : decode cX7_byLeanings 116 = .ok (.iconst 0, 1) := by decide +kernel
theorem dX7_byLeanings_117 : decode cX7_byLeanings 117 = .ok (.goto 9, 3) := by decide +kernel
theorem dX7_byLeanings_120 : decode cX7_byLeanings 120 = .ok (.aload_n 0, 1) := by decide +kernel
theorem dX7_byLeanings_121 : decode cX7_byLeanings 121 = .ok (.iload_n 1, 1) := by decide +kernel
theorem dX7_byLeanings_122 : decode cX7_byLeanings 122 = .ok (.iconst 1, 1) := by decide +kernel
theorem dX7_byLeanings_123 : decode cX7_byLeanings 123 = .ok (.invokevirtual 61, 3) := by decide +kernel
theorem dX7_byLeanings_126 : decode cX7_byLeanings 126 = .ok (.ireturn, 1) := by decide +kernel
theorem dX7_votes_0 : decode cX7_votes 0 = .ok (.iconst 0, 1) := by decide +kernel
theorem dX7_votes_1 : decode cX7_votes 1 = .ok (.istore_n 1, 1) := by decide +kernel
theorem dX7_votes_2 : decode cX7_votes 2 = .ok (.iconst 0, 1) := by decide +kernel
theorem dX7_votes_3 : decode cX7_votes 3 = .ok (.istore_n 2, 1) := by decide +kernel
theorem dX7_votes_4 : decode cX7_votes 4 = .ok (.iload_n 2, 1) := by decide +kernel
theorem dX7_votes_5 : decode cX7_votes 5 = .ok (.aload_n 0, 1) := by decide +kernel
theorem dX7_votes_6 : decode cX7_votes 6 = .ok (.getfield 7, 3) := by decide +kernel
theorem dX7_votes_9 : decode cX7_votes 9 = .ok (.sipush 148, 3) := by decide +kernel
theorem dX7_votes_12 : decode cX7_votes 12 = .ok (.iaload, 1) := by decide +kernel
theorem dX7_votes_13 : decode cX7_votes 13 = .ok (.if_icmp .ge 96, 3) := by decide +kernel
theorem dX7_votes_16 : decode cX7_votes 16 = .ok (.aload_n 0, 1) := by decide +kernel
theorem dX7_votes_17 : decode cX7_votes 17 = .ok (.getfield 22, 3) := by decide +kernel
theorem dX7_votes_20 : decode cX7_votes 20 = .ok (.iload_n 2, 1) := by decide +kernel
theorem dX7_votes_21 : decode cX7_votes 21 = .ok (.iaload, 1) := by decide +kernel
theorem dX7_votes_22 : decode cX7_votes 22 = .ok (.iload_n 2, 1) := by decide +kernel
theorem dX7_votes_23 : decode cX7_votes 23 = .ok (.if_icmp .ne 33, 3) := by decide +kernel
theorem dX7_votes_26 : decode cX7_votes 26 = .ok (.aload_n 0, 1) := by decide +kernel
theorem dX7_votes_27 : decode cX7_votes 27 = .ok (.iload_n 2, 1) := by decide +kernel
theorem dX7_votes_28 : decode cX7_votes 28 = .ok (.ldc 60, 2) := by decide +kernel
theorem dX7_votes_30 : decode cX7_votes 30 = .ok (.invokevirtual 64, 3) := by decide +kernel
theorem dX7_votes_33 : decode cX7_votes 33 = .ok (.istore_n 3, 1) := by decide +kernel
theorem dX7_votes_34 : decode cX7_votes 34 = .ok (.aload_n 0, 1) := by decide +kernel
theorem dX7_votes_35 : decode cX7_votes 35 = .ok (.getfield 28, 3) := by decide +kernel
theorem dX7_votes_38 : decode cX7_votes 38 = .ok (.iload_n 2, 1) := by decide +kernel
theorem dX7_votes_39 : decode cX7_votes 39 = .ok (.iload_n 3, 1) := by decide +kernel
theorem dX7_votes_40 : decode cX7_votes 40 = .ok (.ifCond .ge 11, 3) := by decide +kernel
theorem dX7_votes_43 : decode cX7_votes 43 = .ok (.aload_n 0, 1) := by decide +kernel
theorem dX7_votes_44 : decode cX7_votes 44 = .ok (.iload_n 2, 1) := by decide +kernel
theorem dX7_votes_45 : decode cX7_votes 45 = .ok (.invokevirtual 67, 3) := by decide +kernel
theorem dX7_votes_48 : decode cX7_votes 48 = .ok (.goto 4, 3) := by decide +kernel
theorem dX7_votes_51 : decode cX7_votes 51 = .ok (.iload_n 3, 1) := by decide +kernel
theorem dX7_votes_52 : decode cX7_votes 52 = .ok (.iastore, 1) := by decide +kernel
theorem dX7_votes_53 : decode cX7_votes 53 = .ok (.goto 27, 3) := by decide +kernel
theorem dX7_votes_56 : decode cX7_votes 56 = .ok (.aload_n 0, 1) := by decide +kernel
theorem dX7_votes_57 : decode cX7_votes 57 = .ok (.getfield 28, 3) := by decide +kernel
theorem dX7_votes_60 : decode cX7_votes 60 = .ok (.iload_n 2, 1) := by decide +kernel
theorem dX7_votes_61 : decode cX7_votes 61 = .ok (.aload_n 0, 1) := by decide +kernel
theorem dX7_votes_62 : decode cX7_votes 62 = .ok (.getfield 28, 3) := by decide +kernel
theorem dX7_votes_65 : decode cX7_votes 65 = .ok (.aload_n 0, 1) := by decide +kernel
theorem dX7_votes_66 : decode cX7_votes 66 = .ok (.getfield 22, 3) := by decide +kernel
theorem dX7_votes_69 : decode cX7_votes 69 = .ok (.iload_n 2, 1) := by decide +kernel
theorem dX7_votes_70 : decode cX7_votes 70 = .ok (.iaload, 1) := by decide +kernel
theorem dX7_votes_71 : decode cX7_votes 71 = .ok (.iaload, 1) := by decide +kernel
theorem dX7_votes_72 : decode cX7_votes 72 = .ok (.aload_n 0, 1) := by decide +kernel
theorem dX7_votes_73 : decode cX7_votes 73 = .ok (.getfield 25, 3) := by decide +kernel
theorem dX7_votes_76 : decode cX7_votes 76 = .ok (.iload_n 2, 1) := by decide +kernel
theorem dX7_votes_77 : decode cX7_votes 77 = .ok (.iaload, 1) := by decide +kernel
theorem dX7_votes_78 : decode cX7_votes 78 = .ok (.ixor, 1) := by decide +kernel
theorem dX7_votes_79 : decode cX7_votes 79 = .ok (.iastore, 1) := by decide +kernel
theorem dX7_votes_80 : decode cX7_votes 80 = .ok (.iload_n 1, 1) := by decide +kernel
theorem dX7_votes_81 : decode cX7_votes 81 = .ok (.aload_n 0, 1) := by decide +kernel
theorem dX7_votes_82 : decode cX7_votes 82 = .ok (.getfield 28, 3) := by decide +kernel
theorem dX7_votes_85 : decode cX7_votes 85 = .ok (.iload_n 2, 1) := by decide +kernel
theorem dX7_votes_86 : decode cX7_votes 86 = .ok (.iaload, 1) := by decide +kernel
theorem dX7_votes_87 : decode cX7_votes 87 = .ok (.iconst 1, 1) := by decide +kernel
theorem dX7_votes_88 : decode cX7_votes 88 = .ok (.if_icmp .ne 12, 3) := by decide +kernel
theorem dX7_votes_91 : decode cX7_votes 91 = .ok (.aload_n 0, 1) := by decide +kernel
theorem dX7_votes_92 : decode cX7_votes 92 = .ok (.iload_n 2, 1) := by decide +kernel
theorem dX7_votes_93 : decode cX7_votes 93 = .ok (.iconst 0, 1) := by decide +kernel
theorem dX7_votes_94 : decode cX7_votes 94 = .ok (.invokevirtual 61, 3) := by decide +kernel
theorem dX7_votes_97 : decode cX7_votes 97 = .ok (.goto 4, 3) := by decide +kernel
theorem dX7_votes_100 : decode cX7_votes 100 = .ok (.iconst 0, 1) := by decide +kernel
theorem dX7_votes_101 : decode cX7_votes 101 = .ok (.iadd, 1) := by decide +kernel
theorem dX7_votes_102 : decode cX7_votes 102 = .ok (.istore_n 1, 1) := by decide +kernel
theorem dX7_votes_103 : decode cX7_votes 103 = .ok (.iinc 2 1, 3) := by decide +kernel
theorem dX7_votes_106 : decode cX7_votes 106 = .ok (.goto (-102), 3) := by decide +kernel
theorem dX7_votes_109 : decode cX7_votes 109 = .ok (.iload_n 1, 1) := by decide +kernel
theorem dX7_votes_110 : decode cX7_votes 110 = .ok (.ireturn, 1) := by decide +kernel
theorem dX7_yesNow_0 : decode cX7_yesNow 0 = .ok (.aload_n 0, 1) := by decide +kernel
theorem dX7_yesNow_1 : decode cX7_yesNow 1 = .ok (.ldc 60, 2) := by decide +kernel
theorem dX7_yesNow_3 : decode cX7_yesNow 3 = .ok (.invokevirtual 71, 3) := by decide +kernel
theorem dX7_yesNow_6 : decode cX7_yesNow 6 = .ok (.aload_n 0, 1) := by decide +kernel
theorem dX7_yesNow_7 : decode cX7_yesNow 7 = .ok (.invokevirtual 75, 3) := by decide +kernel
theorem dX7_yesNow_10 : decode cX7_yesNow 10 = .ok (.ireturn, 1) := by decide +kernel
theorem dX7_seats_0 : decode cX7_seats 0 = .ok (.iconst 0, 1) := by decide +kernel
theorem dX7_seats_1 : decode cX7_seats 1 = .ok (.istore_n 1, 1) := by decide +kernel
theorem dX7_seats_2 : decode cX7_seats 2 = .ok (.iconst 0, 1) := by decide +kernel
theorem dX7_seats_3 : decode cX7_seats 3 = .ok (.istore_n 2, 1) := by decide +kernel
theorem dX7_seats_4 : decode cX7_seats 4 = .ok (.iload_n 2, 1) := by decide +kernel
theorem dX7_seats_5 : decode cX7_seats 5 = .ok (.aload_n 0, 1) := by decide +kernel
theorem dX7_seats_6 : decode cX7_seats 6 = .ok (.getfield 7, 3) := by decide +kernel
theorem dX7_seats_9 : decode cX7_seats 9 = .ok (.sipush 148, 3) := by decide +kernel
theorem dX7_seats_12 : decode cX7_seats 12 = .ok (.iaload, 1) := by decide +kernel
theorem dX7_seats_13 : decode cX7_seats 13 = .ok (.if_icmp .ge 18, 3) := by decide +kernel
theorem dX7_seats_16 : decode cX7_seats 16 = .ok (.iload_n 1, 1) := by decide +kernel
theorem dX7_seats_17 : decode cX7_seats 17 = .ok (.aload_n 0, 1) := by decide +kernel
theorem dX7_seats_18 : decode cX7_seats 18 = .ok (.iload_n 2, 1) := by decide +kernel
theorem dX7_seats_19 : decode cX7_seats 19 = .ok (.iconst 0, 1) := by decide +kernel
theorem dX7_seats_20 : decode cX7_seats 20 = .ok (.invokevirtual 61, 3) := by decide +kernel
theorem dX7_seats_23 : decode cX7_seats 23 = .ok (.iadd, 1) := by decide +kernel
theorem dX7_seats_24 : decode cX7_seats 24 = .ok (.istore_n 1, 1) := by decide +kernel
theorem dX7_seats_25 : decode cX7_seats 25 = .ok (.iinc 2 1, 3) := by decide +kernel
theorem dX7_seats_28 : decode cX7_seats 28 = .ok (.goto (-24), 3) := by decide +kernel
theorem dX7_seats_31 : decode cX7_seats 31 = .ok (.iload_n 1, 1) := by decide +kernel
theorem dX7_seats_32 : decode cX7_seats 32 = .ok (.ireturn, 1) := by decide +kernel
theorem dX7_groups_0 : decode cX7_groups 0 = .ok (.iconst 0, 1) := by decide +kernel
theorem dX7_groups_1 : decode cX7_groups 1 = .ok (.istore_n 1, 1) := by decide +kernel
theorem dX7_groups_2 : decode cX7_groups 2 = .ok (.iconst 0, 1) := by decide +kernel
theorem dX7_groups_3 : decode cX7_groups 3 = .ok (.istore_n 2, 1) := by decide +kernel
theorem dX7_groups_4 : decode cX7_groups 4 = .ok (.iload_n 2, 1) := by decide +kernel
theorem dX7_groups_5 : decode cX7_groups 5 = .ok (.aload_n 0, 1) := by decide +kernel
theorem dX7_groups_6 : decode cX7_groups 6 = .ok (.getfield 7, 3) := by decide +kernel
theorem dX7_groups_9 : decode cX7_groups 9 = .ok (.sipush 148, 3) := by decide +kernel
theorem dX7_groups_12 : decode cX7_groups 12 = .ok (.iaload, 1) := by decide +kernel
theorem dX7_groups_13 : decode cX7_groups 13 = .ok (.if_icmp .ge 27, 3) := by decide +kernel
theorem dX7_groups_16 : decode cX7_groups 16 = .ok (.iload_n 1, 1) := by decide +kernel
theorem dX7_groups_17 : decode cX7_groups 17 = .ok (.aload_n 0, 1) := by decide +kernel
theorem dX7_groups_18 : decode cX7_groups 18 = .ok (.getfield 22, 3) := by decide +kernel
theorem dX7_groups_21 : decode cX7_groups 21 = .ok (.iload_n 2, 1) := by decide +kernel
theorem dX7_groups_22 : decode cX7_groups 22 = .ok (.iaload, 1) := by decide +kernel
theorem dX7_groups_23 : decode cX7_groups 23 = .ok (.iload_n 2, 1) := by decide +kernel
theorem dX7_groups_24 : decode cX7_groups 24 = .ok (.if_icmp .ne 7, 3) := by decide +kernel
theorem dX7_groups_27 : decode cX7_groups 27 = .ok (.iconst 1, 1) := by decide +kernel
theorem dX7_groups_28 : decode cX7_groups 28 = .ok (.goto 4, 3) := by decide +kernel
theorem dX7_groups_31 : decode cX7_groups 31 = .ok (.iconst 0, 1) := by decide +kernel
theorem dX7_groups_32 : decode cX7_groups 32 = .ok (.iadd, 1) := by decide +kernel
theorem dX7_groups_33 : decode cX7_groups 33 = .ok (.istore_n 1, 1) := by decide +kernel
theorem dX7_groups_34 : decode cX7_groups 34 = .ok (.iinc 2 1, 3) := by decide +kernel
theorem dX7_groups_37 : decode cX7_groups 37 = .ok (.goto (-33), 3) := by decide +kernel
theorem dX7_groups_40 : decode cX7_groups 40 = .ok (.iload_n 1, 1) := by decide +kernel
theorem dX7_groups_41 : decode cX7_groups 41 = .ok (.ireturn, 1) := by decide +kernel
theorem dX7_isPassed_0 : decode cX7_isPassed 0 = .ok (.aload_n 0, 1) := by decide +kernel
theorem dX7_isPassed_1 : decode cX7_isPassed 1 = .ok (.invokevirtual 79, 3) := by decide +kernel
theorem dX7_isPassed_4 : decode cX7_isPassed 4 = .ok (.istore_n 1, 1) := by decide +kernel
theorem dX7_isPassed_5 : decode cX7_isPassed 5 = .ok (.aload_n 0, 1) := by decide +kernel
theorem dX7_isPassed_6 : decode cX7_isPassed 6 = .ok (.invokevirtual 82, 3) := by decide +kernel
theorem dX7_isPassed_9 : decode cX7_isPassed 9 = .ok (.iload_n 1, 1) := by decide +kernel
theorem dX7_isPassed_10 : decode cX7_isPassed 10 = .ok (.isub, 1) := by decide +kernel
theorem dX7_isPassed_11 : decode cX7_isPassed 11 = .ok (.istore_n 2, 1) := by decide +kernel
theorem dX7_isPassed_12 : decode cX7_isPassed 12 = .ok (.iload_n 1, 1) := by decide +kernel
theorem dX7_isPassed_13 : decode cX7_isPassed 13 = .ok (.iload_n 2, 1) := by decide +kernel
theorem dX7_isPassed_14 : decode cX7_isPassed 14 = .ok (.if_icmp .gt 25, 3) := by decide +kernel
theorem dX7_isPassed_17 : decode cX7_isPassed 17 = .ok (.iload_n 1, 1) := by decide +kernel
theorem dX7_isPassed_18 : decode cX7_isPassed 18 = .ok (.iload_n 2, 1) := by decide +kernel
theorem dX7_isPassed_19 : decode cX7_isPassed 19 = .ok (.if_icmp .ne 24, 3) := by decide +kernel
theorem dX7_isPassed_22 : decode cX7_isPassed 22 = .ok (.aload_n 0, 1) := by decide +kernel
theorem dX7_isPassed_23 : decode cX7_isPassed 23 = .ok (.getfield 28, 3) := by decide +kernel
theorem dX7_isPassed_26 : decode cX7_isPassed 26 = .ok (.aload_n 0, 1) := by decide +kernel
theorem dX7_isPassed_27 : decode cX7_isPassed 27 = .ok (.getfield 7, 3) := by decide +kernel
theorem dX7_isPassed_30 : decode cX7_isPassed 30 = .ok (.sipush 150, 3) := by decide +kernel
theorem dX7_isPassed_33 : decode cX7_isPassed 33 = .ok (.iaload, 1) := by decide +kernel
theorem dX7_isPassed_34 : decode cX7_isPassed 34 = .ok (.iaload, 1) := by decide +kernel
theorem dX7_isPassed_35 : decode cX7_isPassed 35 = .ok (.iconst 1, 1) := by decide +kernel
theorem dX7_isPassed_36 : decode cX7_isPassed 36 = .ok (.if_icmp .ne 7, 3) := by decide +kernel
theorem dX7_isPassed_39 : decode cX7_isPassed 39 = .ok (.iconst 1, 1) := by decide +kernel
theorem dX7_isPassed_40 : decode cX7_isPassed 40 = .ok (.goto 4, 3) := by decide +kernel
theorem dX7_isPassed_43 : decode cX7_isPassed 43 = .ok (.iconst 0, 1) := by decide +kernel
theorem dX7_isPassed_44 : decode cX7_isPassed 44 = .ok (.ireturn, 1) := by decide +kernel
theorem dX7_stringOfBoth_0 : decode cX7_stringOfBoth 0 = .ok (.iload_n 1, 1) := by decide +kernel
theorem dX7_stringOfBoth_1 : decode cX7_stringOfBoth 1 = .ok (.iload_n 2, 1) := by decide +kernel
theorem dX7_stringOfBoth_2 : decode cX7_stringOfBoth 2 = .ok (.if_icmp .ge 7, 3) := by decide +kernel
theorem dX7_stringOfBoth_5 : decode cX7_stringOfBoth 5 = .ok (.iload_n 1, 1) := by decide +kernel
theorem dX7_stringOfBoth_6 : decode cX7_stringOfBoth 6 = .ok (.goto 4, 3) := by decide +kernel
theorem dX7_stringOfBoth_9 : decode cX7_stringOfBoth 9 = .ok (.iload_n 2, 1) := by decide +kernel
theorem dX7_stringOfBoth_10 : decode cX7_stringOfBoth 10 = .ok (.istore_n 3, 1) := by decide +kernel
theorem dX7_stringOfBoth_11 : decode cX7_stringOfBoth 11 = .ok (.iconst 0, 1) := by decide +kernel
theorem dX7_stringOfBoth_12 : decode cX7_stringOfBoth 12 = .ok (.istore 4, 2) := by decide +kernel
theorem dX7_stringOfBoth_14 : decode cX7_stringOfBoth 14 = .ok (.iload 4, 2) := by decide +kernel
theorem dX7_stringOfBoth_16 : decode cX7_stringOfBoth 16 = .ok (.aload_n 0, 1) := by decide +kernel
theorem dX7_stringOfBoth_17 : decode cX7_stringOfBoth 17 = .ok (.getfield 7, 3) := by decide +kernel
theorem dX7_stringOfBoth_20 : decode cX7_stringOfBoth 20 = .ok (.sipush 149, 3) := by decide +kernel
theorem dX7_stringOfBoth_23 : decode cX7_stringOfBoth 23 = .ok (.iaload, 1) := by decide +kernel
theorem dX7_stringOfBoth_24 : decode cX7_stringOfBoth 24 = .ok (.if_icmp .ge 38, 3) := by decide +kernel
theorem dX7_stringOfBoth_27 : decode cX7_stringOfBoth 27 = .ok (.aload_n 0, 1) := by decide +kernel
theorem dX7_stringOfBoth_28 : decode cX7_stringOfBoth 28 = .ok (.iload 4, 2) := by decide +kernel
theorem dX7_stringOfBoth_30 : decode cX7_stringOfBoth 30 = .ok (.iconst 0, 1) := by decide +kernel
theorem dX7_stringOfBoth_31 : decode cX7_stringOfBoth 31 = .ok (.invokevirtual 53, 3) := by decide +kernel
theorem dX7_stringOfBoth_34 : decode cX7_stringOfBoth 34 = .ok (.iload_n 3, 1) := by decide +kernel
theorem dX7_stringOfBoth_35 : decode cX7_stringOfBoth 35 = .ok (.if_icmp .ne 21, 3) := by decide +kernel
theorem dX7_stringOfBoth_38 : decode cX7_stringOfBoth 38 = .ok (.aload_n 0, 1) := by decide +kernel
theorem dX7_stringOfBoth_39 : decode cX7_stringOfBoth 39 = .ok (.iload 4, 2) := by decide +kernel
theorem dX7_stringOfBoth_41 : decode cX7_stringOfBoth 41 = .ok (.iconst 1, 1) := by decide +kernel
theorem dX7_stringOfBoth_42 : decode cX7_stringOfBoth 42 = .ok (.invokevirtual 53, 3) := by decide +kernel
theorem dX7_stringOfBoth_45 : decode cX7_stringOfBoth 45 = .ok (.iload_n 1, 1) := by decide +kernel
theorem dX7_stringOfBoth_46 : decode cX7_stringOfBoth 46 = .ok (.iload_n 2, 1) := by decide +kernel
theorem dX7_stringOfBoth_47 : decode cX7_stringOfBoth 47 = .ok (.iadd, 1) := by decide +kernel
theorem dX7_stringOfBoth_48 : decode cX7_stringOfBoth 48 = .ok (.iload_n 3, 1) := by decide +kernel
theorem dX7_stringOfBoth_49 : decode cX7_stringOfBoth 49 = .ok (.isub, 1) := by decide +kernel
theorem dX7_stringOfBoth_50 : decode cX7_stringOfBoth 50 = .ok (.if_icmp .ne 6, 3) := by decide +kernel
theorem dX7_stringOfBoth_53 : decode cX7_stringOfBoth 53 = .ok (.iload 4, 2) := by decide +kernel
theorem dX7_stringOfBoth_55 : decode cX7_stringOfBoth 55 = .ok (.ireturn, 1) := by decide +kernel
theorem dX7_stringOfBoth_56 : decode cX7_stringOfBoth 56 = .ok (.iinc 4 1, 3) := by decide +kernel
theorem dX7_stringOfBoth_59 : decode cX7_stringOfBoth 59 = .ok (.goto (-45), 3) := by decide +kernel
theorem dX7_stringOfBoth_62 : decode cX7_stringOfBoth 62 = .ok (.ldc 60, 2) := by decide +kernel
theorem dX7_stringOfBoth_64 : decode cX7_stringOfBoth 64 = .ok (.ireturn, 1) := by decide +kernel
theorem dX7_refused_0 : decode cX7_refused 0 = .ok (.aload_n 0, 1) := by decide +kernel
theorem dX7_refused_1 : decode cX7_refused 1 = .ok (.iload_n 1, 1) := by decide +kernel
theorem dX7_refused_2 : decode cX7_refused 2 = .ok (.iload_n 2, 1) := by decide +kernel
theorem dX7_refused_3 : decode cX7_refused 3 = .ok (.invokevirtual 85, 3) := by decide +kernel
theorem dX7_refused_6 : decode cX7_refused 6 = .ok (.ifCond .lt 5, 3) := by decide +kernel
theorem dX7_refused_9 : decode cX7_refused 9 = .ok (.iconst 1, 1) := by decide +kernel
theorem dX7_refused_10 : decode cX7_refused 10 = .ok (.ireturn, 1) := by decide +kernel
theorem dX7_refused_11 : decode cX7_refused 11 = .ok (.aload_n 0, 1) := by decide +kernel
theorem dX7_refused_12 : decode cX7_refused 12 = .ok (.ldc 60, 2) := by decide +kernel
theorem dX7_refused_14 : decode cX7_refused 14 = .ok (.invokevirtual 71, 3) := by decide +kernel
theorem dX7_refused_17 : decode cX7_refused 17 = .ok (.aload_n 0, 1) := by decide +kernel
theorem dX7_refused_18 : decode cX7_refused 18 = .ok (.getfield 22, 3) := by decide +kernel
theorem dX7_refused_21 : decode cX7_refused 21 = .ok (.iload_n 1, 1) := by decide +kernel
theorem dX7_refused_22 : decode cX7_refused 22 = .ok (.iaload, 1) := by decide +kernel
theorem dX7_refused_23 : decode cX7_refused 23 = .ok (.aload_n 0, 1) := by decide +kernel
theorem dX7_refused_24 : decode cX7_refused 24 = .ok (.getfield 22, 3) := by decide +kernel
theorem dX7_refused_27 : decode cX7_refused 27 = .ok (.iload_n 2, 1) := by decide +kernel
theorem dX7_refused_28 : decode cX7_refused 28 = .ok (.iaload, 1) := by decide +kernel
theorem dX7_refused_29 : decode cX7_refused 29 = .ok (.if_icmp .ne 26, 3) := by decide +kernel
theorem dX7_refused_32 : decode cX7_refused 32 = .ok (.aload_n 0, 1) := by decide +kernel
theorem dX7_refused_33 : decode cX7_refused 33 = .ok (.getfield 25, 3) := by decide +kernel
theorem dX7_refused_36 : decode cX7_refused 36 = .ok (.iload_n 1, 1) := by decide +kernel
theorem dX7_refused_37 : decode cX7_refused 37 = .ok (.iaload, 1) := by decide +kernel
theorem dX7_refused_38 : decode cX7_refused 38 = .ok (.aload_n 0, 1) := by decide +kernel
theorem dX7_refused_39 : decode cX7_refused 39 = .ok (.getfield 25, 3) := by decide +kernel
theorem dX7_refused_42 : decode cX7_refused 42 = .ok (.iload_n 2, 1) := by decide +kernel
theorem dX7_refused_43 : decode cX7_refused 43 = .ok (.iaload, 1) := by decide +kernel
theorem dX7_refused_44 : decode cX7_refused 44 = .ok (.ixor, 1) := by decide +kernel
theorem dX7_refused_45 : decode cX7_refused 45 = .ok (.iload_n 3, 1) := by decide +kernel
theorem dX7_refused_46 : decode cX7_refused 46 = .ok (.if_icmp .ne 7, 3) := by decide +kernel
theorem dX7_refused_49 : decode cX7_refused 49 = .ok (.iconst 0, 1) := by decide +kernel
theorem dX7_refused_50 : decode cX7_refused 50 = .ok (.goto 4, 3) := by decide +kernel
theorem dX7_refused_53 : decode cX7_refused 53 = .ok (.iconst 2, 1) := by decide +kernel
theorem dX7_refused_54 : decode cX7_refused 54 = .ok (.ireturn, 1) := by decide +kernel
theorem dX7_refused_55 : decode cX7_refused 55 = .ok (.aload_n 0, 1) := by decide +kernel
theorem dX7_refused_56 : decode cX7_refused 56 = .ok (.aload_n 0, 1) := by decide +kernel
theorem dX7_refused_57 : decode cX7_refused 57 = .ok (.getfield 22, 3) := by decide +kernel
theorem dX7_refused_60 : decode cX7_refused 60 = .ok (.iload_n 1, 1) := by decide +kernel
theorem dX7_refused_61 : decode cX7_refused 61 = .ok (.iaload, 1) := by decide +kernel
theorem dX7_refused_62 : decode cX7_refused 62 = .ok (.ldc 60, 2) := by decide +kernel
theorem dX7_refused_64 : decode cX7_refused 64 = .ok (.invokevirtual 64, 3) := by decide +kernel
theorem dX7_refused_67 : decode cX7_refused 67 = .ok (.istore 4, 2) := by decide +kernel
theorem dX7_refused_69 : decode cX7_refused 69 = .ok (.aload_n 0, 1) := by decide +kernel
theorem dX7_refused_70 : decode cX7_refused 70 = .ok (.aload_n 0, 1) := by decide +kernel
theorem dX7_refused_71 : decode cX7_refused 71 = .ok (.getfield 22, 3) := by decide +kernel
theorem dX7_refused_74 : decode cX7_refused 74 = .ok (.iload_n 2, 1) := by decide +kernel
theorem dX7_refused_75 : decode cX7_refused 75 = .ok (.iaload, 1) := by decide +kernel
theorem dX7_refused_76 : decode cX7_refused 76 = .ok (.ldc 60, 2) := by decide +kernel
theorem dX7_refused_78 : decode cX7_refused 78 = .ok (.invokevirtual 64, 3) := by decide +kernel
theorem dX7_refused_81 : decode cX7_refused 81 = .ok (.istore 5, 2) := by decide +kernel
theorem dX7_refused_83 : decode cX7_refused 83 = .ok (.iload 4, 2) := by decide +kernel
theorem dX7_refused_85 : decode cX7_refused 85 = .ok (.ifCond .lt 35, 3) := by decide +kernel
theorem dX7_refused_88 : decode cX7_refused 88 = .ok (.iload 5, 2) := by decide +kernel
theorem dX7_refused_90 : decode cX7_refused 90 = .ok (.ifCond .lt 30, 3) := by decide +kernel
theorem dX7_refused_93 : decode cX7_refused 93 = .ok (.iload 4, 2) := by decide +kernel
theorem dX7_refused_95 : decode cX7_refused 95 = .ok (.aload_n 0, 1) := by decide +kernel
theorem dX7_refused_96 : decode cX7_refused 96 = .ok (.getfield 25, 3) := by decide +kernel
theorem dX7_refused_99 : decode cX7_refused 99 = .ok (.iload_n 1, 1) := by decide +kernel
theorem dX7_refused_100 : decode cX7_refused 100 = .ok (.iaload, 1) := by decide +kernel
theorem dX7_refused_101 : decode cX7_refused 101 = .ok (.ixor, 1) := by decide +kernel
theorem dX7_refused_102 : decode cX7_refused 102 = .ok (.iload 5, 2) := by decide +kernel
theorem dX7_refused_104 : decode cX7_refused 104 = .ok (.ixor, 1) := by decide +kernel
theorem dX7_refused_105 : decode cX7_refused 105 = .ok (.aload_n 0, 1) := by decide +kernel
theorem dX7_refused_106 : decode cX7_refused 106 = .ok (.getfield 25, 3) := by decide +kernel
theorem dX7_refused_109 : decode cX7_refused 109 = .ok (.iload_n 2, 1) := by decide +kernel
theorem dX7_refused_110 : decode cX7_refused 110 = .ok (.iaload, 1) := by decide +kernel
theorem dX7_refused_111 : decode cX7_refused 111 = .ok (.ixor, 1) := by decide +kernel
theorem dX7_refused_112 : decode cX7_refused 112 = .ok (.iload_n 3, 1) := by decide +kernel
theorem dX7_refused_113 : decode cX7_refused 113 = .ok (.if_icmp .eq 7, 3) := by decide +kernel
theorem dX7_refused_116 : decode cX7_refused 116 = .ok (.iconst 3, 1) := by decide +kernel
theorem dX7_refused_117 : decode cX7_refused 117 = .ok (.goto 4, 3) := by decide +kernel
theorem dX7_refused_120 : decode cX7_refused 120 = .ok (.iconst 0, 1) := by decide +kernel
theorem dX7_refused_121 : decode cX7_refused 121 = .ok (.ireturn, 1) := by decide +kernel
theorem dX7_whyTie_0 : decode cX7_whyTie 0 = .ok (.aload_n 0, 1) := by decide +kernel
theorem dX7_whyTie_1 : decode cX7_whyTie 1 = .ok (.iload_n 1, 1) := by decide +kernel
theorem dX7_whyTie_2 : decode cX7_whyTie 2 = .ok (.iload_n 2, 1) := by decide +kernel
theorem dX7_whyTie_3 : decode cX7_whyTie 3 = .ok (.invokevirtual 88, 3) := by decide +kernel
theorem dX7_whyTie_6 : decode cX7_whyTie 6 = .ok (.ifCond .eq 21, 3) := by decide +kernel
theorem dX7_whyTie_9 : decode cX7_whyTie 9 = .ok (.aload_n 0, 1) := by decide +kernel
theorem dX7_whyTie_10 : decode cX7_whyTie 10 = .ok (.iload_n 1, 1) := by decide +kernel
theorem dX7_whyTie_11 : decode cX7_whyTie 11 = .ok (.iload_n 2, 1) := by decide +kernel
theorem dX7_whyTie_12 : decode cX7_whyTie 12 = .ok (.iload_n 3, 1) := by decide +kernel
theorem dX7_whyTie_13 : decode cX7_whyTie 13 = .ok (.ifCond .eq 7, 3) := by decide +kernel
theorem dX7_whyTie_16 : decode cX7_whyTie 16 = .ok (.iconst 1, 1) := by decide +kernel
theorem dX7_whyTie_17 : decode cX7_whyTie 17 = .ok (.goto 4, 3) := by decide +kernel
theorem dX7_whyTie_20 : decode cX7_whyTie 20 = .ok (.iconst 0, 1) := by decide +kernel
theorem dX7_whyTie_21 : decode cX7_whyTie 21 = .ok (.invokevirtual 92, 3) := by decide +kernel
theorem dX7_whyTie_24 : decode cX7_whyTie 24 = .ok (.goto 5, 3) := by decide +kernel
theorem dX7_whyTie_27 : decode cX7_whyTie 27 = .ok (.ldc 96, 2) := by decide +kernel
theorem dX7_whyTie_29 : decode cX7_whyTie 29 = .ok (.ireturn, 1) := by decide +kernel
theorem dX7_puppet_0 : decode cX7_puppet 0 = .ok (.iload_n 1, 1) := by decide +kernel
theorem dX7_puppet_1 : decode cX7_puppet 1 = .ok (.iconst 1, 1) := by decide +kernel
theorem dX7_puppet_2 : decode cX7_puppet 2 = .ok (.bipush 9, 2) := by decide +kernel
theorem dX7_puppet_4 : decode cX7_puppet 4 = .ok (.invokestatic 45, 3) := by decide +kernel
theorem dX7_puppet_7 : decode cX7_puppet 7 = .ok (.ifCond .eq 12, 3) := by decide +kernel
theorem dX7_puppet_10 : decode cX7_puppet 10 = .ok (.iload_n 2, 1) := by decide +kernel
theorem dX7_puppet_11 : decode cX7_puppet 11 = .ok (.iconst 0, 1) := by decide +kernel
theorem dX7_puppet_12 : decode cX7_puppet 12 = .ok (.iconst 1, 1) := by decide +kernel
theorem dX7_puppet_13 : decode cX7_puppet 13 = .ok (.invokestatic 45, 3) := by decide +kernel
theorem dX7_puppet_16 : decode cX7_puppet 16 = .ok (.ifCond .ne 6, 3) := by decide +kernel
theorem dX7_puppet_19 : decode cX7_puppet 19 = .ok (.ldc 96, 2) := by decide +kernel
theorem dX7_puppet_21 : decode cX7_puppet 21 = .ok (.ireturn, 1) := by decide +kernel
theorem dX7_puppet_22 : decode cX7_puppet 22 = .ok (.aload_n 0, 1) := by decide +kernel
theorem dX7_puppet_23 : decode cX7_puppet 23 = .ok (.getfield 7, 3) := by decide +kernel
theorem dX7_puppet_26 : decode cX7_puppet 26 = .ok (.sipush 148, 3) := by decide +kernel
theorem dX7_puppet_29 : decode cX7_puppet 29 = .ok (.iaload, 1) := by decide +kernel
theorem dX7_puppet_30 : decode cX7_puppet 30 = .ok (.bipush 12, 2) := by decide +kernel
theorem dX7_puppet_32 : decode cX7_puppet 32 = .ok (.if_icmp .ne 6, 3) := by decide +kernel
theorem dX7_puppet_35 : decode cX7_puppet 35 = .ok (.ldc 97, 2) := by decide +kernel
theorem dX7_puppet_37 : decode cX7_puppet 37 = .ok (.ireturn, 1) := by decide +kernel
theorem dX7_puppet_38 : decode cX7_puppet 38 = .ok (.aload_n 0, 1) := by decide +kernel
theorem dX7_puppet_39 : decode cX7_puppet 39 = .ok (.invokevirtual 98, 3) := by decide +kernel
theorem dX7_puppet_42 : decode cX7_puppet 42 = .ok (.aload_n 0, 1) := by decide +kernel
theorem dX7_puppet_43 : decode cX7_puppet 43 = .ok (.getfield 7, 3) := by decide +kernel
theorem dX7_puppet_46 : decode cX7_puppet 46 = .ok (.sipush 148, 3) := by decide +kernel
theorem dX7_puppet_49 : decode cX7_puppet 49 = .ok (.iaload, 1) := by decide +kernel
theorem dX7_puppet_50 : decode cX7_puppet 50 = .ok (.istore_n 3, 1) := by decide +kernel
theorem dX7_puppet_51 : decode cX7_puppet 51 = .ok (.aload_n 0, 1) := by decide +kernel
theorem dX7_puppet_52 : decode cX7_puppet 52 = .ok (.getfield 7, 3) := by decide +kernel
theorem dX7_puppet_55 : decode cX7_puppet 55 = .ok (.iconst 3, 1) := by decide +kernel
theorem dX7_puppet_56 : decode cX7_puppet 56 = .ok (.iload_n 3, 1) := by decide +kernel
theorem dX7_puppet_57 : decode cX7_puppet 57 = .ok (.imul, 1) := by decide +kernel
theorem dX7_puppet_58 : decode cX7_puppet 58 = .ok (.iconst 0, 1) := by decide +kernel
theorem dX7_puppet_59 : decode cX7_puppet 59 = .ok (.iadd, 1) := by decide +kernel
theorem dX7_puppet_60 : decode cX7_puppet 60 = .ok (.iload_n 1, 1) := by decide +kernel
theorem dX7_puppet_61 : decode cX7_puppet 61 = .ok (.iastore, 1) := by decide +kernel
theorem dX7_puppet_62 : decode cX7_puppet 62 = .ok (.aload_n 0, 1) := by decide +kernel
theorem dX7_puppet_63 : decode cX7_puppet 63 = .ok (.getfield 7, 3) := by decide +kernel
theorem dX7_puppet_66 : decode cX7_puppet 66 = .ok (.iconst 3, 1) := by decide +kernel
theorem dX7_puppet_67 : decode cX7_puppet 67 = .ok (.iload_n 3, 1) := by decide +kernel
theorem dX7_puppet_68 : decode cX7_puppet 68 = .ok (.imul, 1) := by decide +kernel
theorem dX7_puppet_69 : decode cX7_puppet 69 = .ok (.iconst 1, 1) := by decide +kernel
theorem dX7_puppet_70 : decode cX7_puppet 70 = .ok (.iadd, 1) := by decide +kernel
theorem dX7_puppet_71 : decode cX7_puppet 71 = .ok (.iload_n 2, 1) := by decide +kernel
theorem dX7_puppet_72 : decode cX7_puppet 72 = .ok (.iastore, 1) := by decide +kernel
theorem dX7_puppet_73 : decode cX7_puppet 73 = .ok (.aload_n 0, 1) := by decide +kernel
theorem dX7_puppet_74 : decode cX7_puppet 74 = .ok (.getfield 7, 3) := by decide +kernel
theorem dX7_puppet_77 : decode cX7_puppet 77 = .ok (.sipush 148, 3) := by decide +kernel
theorem dX7_puppet_80 : decode cX7_puppet 80 = .ok (.dup2, 1) := by decide +kernel
theorem dX7_puppet_81 : decode cX7_puppet 81 = .ok (.iaload, 1) := by decide +kernel
theorem dX7_puppet_82 : decode cX7_puppet 82 = .ok (.iconst 1, 1) := by decide +kernel
theorem dX7_puppet_83 : decode cX7_puppet 83 = .ok (.iadd, 1) := by decide +kernel
theorem dX7_puppet_84 : decode cX7_puppet 84 = .ok (.iastore, 1) := by decide +kernel
theorem dX7_puppet_85 : decode cX7_puppet 85 = .ok (.iload_n 3, 1) := by decide +kernel
theorem dX7_puppet_86 : decode cX7_puppet 86 = .ok (.ireturn, 1) := by decide +kernel
theorem dX7_tie_0 : decode cX7_tie 0 = .ok (.aload_n 0, 1) := by decide +kernel
theorem dX7_tie_1 : decode cX7_tie 1 = .ok (.iload_n 1, 1) := by decide +kernel
theorem dX7_tie_2 : decode cX7_tie 2 = .ok (.iload_n 2, 1) := by decide +kernel
theorem dX7_tie_3 : decode cX7_tie 3 = .ok (.invokevirtual 88, 3) := by decide +kernel
theorem dX7_tie_6 : decode cX7_tie 6 = .ok (.ifCond .eq 13, 3) := by decide +kernel
theorem dX7_tie_9 : decode cX7_tie 9 = .ok (.iload 4, 2) := by decide +kernel
theorem dX7_tie_11 : decode cX7_tie 11 = .ok (.iconst 0, 1) := by decide +kernel
theorem dX7_tie_12 : decode cX7_tie 12 = .ok (.iconst 5, 1) := by decide +kernel
theorem dX7_tie_13 : decode cX7_tie 13 = .ok (.invokestatic 45, 3) := by decide +kernel
theorem dX7_tie_16 : decode cX7_tie 16 = .ok (.ifCond .ne 6, 3) := by decide +kernel
theorem dX7_tie_19 : decode cX7_tie 19 = .ok (.ldc 96, 2) := by decide +kernel
theorem dX7_tie_21 : decode cX7_tie 21 = .ok (.ireturn, 1) := by decide +kernel
theorem dX7_tie_22 : decode cX7_tie 22 = .ok (.aload_n 0, 1) := by decide +kernel
theorem dX7_tie_23 : decode cX7_tie 23 = .ok (.iload_n 1, 1) := by decide +kernel
theorem dX7_tie_24 : decode cX7_tie 24 = .ok (.iload_n 2, 1) := by decide +kernel
theorem dX7_tie_25 : decode cX7_tie 25 = .ok (.iload_n 3, 1) := by decide +kernel
theorem dX7_tie_26 : decode cX7_tie 26 = .ok (.ifCond .eq 7, 3) := by decide +kernel
theorem dX7_tie_29 : decode cX7_tie 29 = .ok (.iconst 1, 1) := by decide +kernel
theorem dX7_tie_30 : decode cX7_tie 30 = .ok (.goto 4, 3) := by decide +kernel
theorem dX7_tie_33 : decode cX7_tie 33 = .ok (.iconst 0, 1) := by decide +kernel
theorem dX7_tie_34 : decode cX7_tie 34 = .ok (.invokevirtual 92, 3) := by decide +kernel
theorem dX7_tie_37 : decode cX7_tie 37 = .ok (.ifCond .le 6, 3) := by decide +kernel
theorem dX7_tie_40 : decode cX7_tie 40 = .ok (.ldc 101, 2) := by decide +kernel
theorem dX7_tie_42 : decode cX7_tie 42 = .ok (.ireturn, 1) := by decide +kernel
theorem dX7_tie_43 : decode cX7_tie 43 = .ok (.aload_n 0, 1) := by decide +kernel
theorem dX7_tie_44 : decode cX7_tie 44 = .ok (.getfield 7, 3) := by decide +kernel
theorem dX7_tie_47 : decode cX7_tie 47 = .ok (.sipush 149, 3) := by decide +kernel
theorem dX7_tie_50 : decode cX7_tie 50 = .ok (.iaload, 1) := by decide +kernel
theorem dX7_tie_51 : decode cX7_tie 51 = .ok (.bipush 20, 2) := by decide +kernel
theorem dX7_tie_53 : decode cX7_tie 53 = .ok (.if_icmp .ne 6, 3) := by decide +kernel
theorem dX7_tie_56 : decode cX7_tie 56 = .ok (.ldc 97, 2) := by decide +kernel
theorem dX7_tie_58 : decode cX7_tie 58 = .ok (.ireturn, 1) := by decide +kernel
theorem dX7_tie_59 : decode cX7_tie 59 = .ok (.aload_n 0, 1) := by decide +kernel
theorem dX7_tie_60 : decode cX7_tie 60 = .ok (.invokevirtual 98, 3) := by decide +kernel
theorem dX7_tie_63 : decode cX7_tie 63 = .ok (.bipush 36, 2) := by decide +kernel
theorem dX7_tie_65 : decode cX7_tie 65 = .ok (.iconst 4, 1) := by decide +kernel
theorem dX7_tie_66 : decode cX7_tie 66 = .ok (.aload_n 0, 1) := by decide +kernel
theorem dX7_tie_67 : decode cX7_tie 67 = .ok (.getfield 7, 3) := by decide +kernel
theorem dX7_tie_70 : decode cX7_tie 70 = .ok (.sipush 149, 3) := by decide +kernel
theorem dX7_tie_73 : decode cX7_tie 73 = .ok (.iaload, 1) := by decide +kernel
theorem dX7_tie_74 : decode cX7_tie 74 = .ok (.imul, 1) := by decide +kernel
theorem dX7_tie_75 : decode cX7_tie 75 = .ok (.iadd, 1) := by decide +kernel
theorem dX7_tie_76 : decode cX7_tie 76 = .ok (.istore 5, 2) := by decide +kernel
theorem dX7_tie_78 : decode cX7_tie 78 = .ok (.aload_n 0, 1) := by decide +kernel
theorem dX7_tie_79 : decode cX7_tie 79 = .ok (.getfield 7, 3) := by decide +kernel
theorem dX7_tie_82 : decode cX7_tie 82 = .ok (.iload 5, 2) := by decide +kernel
theorem dX7_tie_84 : decode cX7_tie 84 = .ok (.iconst 0, 1) := by decide +kernel
theorem dX7_tie_85 : decode cX7_tie 85 = .ok (.iadd, 1) := by decide +kernel
theorem dX7_tie_86 : decode cX7_tie 86 = .ok (.iload_n 1, 1) := by decide +kernel
theorem dX7_tie_87 : decode cX7_tie 87 = .ok (.iload_n 2, 1) := by decide +kernel
theorem dX7_tie_88 : decode cX7_tie 88 = .ok (.if_icmp .ge 7, 3) := by decide +kernel
theorem dX7_tie_91 : decode cX7_tie 91 = .ok (.iload_n 1, 1) := by decide +kernel
theorem dX7_tie_92 : decode cX7_tie 92 = .ok (.goto 4, 3) := by decide +kernel
theorem dX7_tie_95 : decode cX7_tie 95 = .ok (.iload_n 2, 1) := by decide +kernel
theorem dX7_tie_96 : decode cX7_tie 96 = .ok (.iastore, 1) := by decide +kernel
theorem dX7_tie_97 : decode cX7_tie 97 = .ok (.aload_n 0, 1) := by decide +kernel
theorem dX7_tie_98 : decode cX7_tie 98 = .ok (.getfield 7, 3) := by decide +kernel
theorem dX7_tie_101 : decode cX7_tie 101 = .ok (.iload 5, 2) := by decide +kernel
theorem dX7_tie_103 : decode cX7_tie 103 = .ok (.iconst 1, 1) := by decide +kernel
theorem dX7_tie_104 : decode cX7_tie 104 = .ok (.iadd, 1) := by decide +kernel
theorem dX7_tie_105 : decode cX7_tie 105 = .ok (.iload_n 1, 1) := by decide +kernel
theorem dX7_tie_106 : decode cX7_tie 106 = .ok (.iload_n 2, 1) := by decide +kernel
theorem dX7_tie_107 : decode cX7_tie 107 = .ok (.if_icmp .ge 7, 3) := by decide +kernel
theorem dX7_tie_110 : decode cX7_tie 110 = .ok (.iload_n 2, 1) := by decide +kernel
theorem dX7_tie_111 : decode cX7_tie 111 = .ok (.goto 4, 3) := by decide +kernel
theorem dX7_tie_114 : decode cX7_tie 114 = .ok (.iload_n 1, 1) := by decide +kernel
theorem dX7_tie_115 : decode cX7_tie 115 = .ok (.iastore, 1) := by decide +kernel
theorem dX7_tie_116 : decode cX7_tie 116 = .ok (.aload_n 0, 1) := by decide +kernel
theorem dX7_tie_117 : decode cX7_tie 117 = .ok (.getfield 7, 3) := by decide +kernel
theorem dX7_tie_120 : decode cX7_tie 120 = .ok (.iload 5, 2) := by decide +kernel
theorem dX7_tie_122 : decode cX7_tie 122 = .ok (.iconst 2, 1) := by decide +kernel
theorem dX7_tie_123 : decode cX7_tie 123 = .ok (.iadd, 1) := by decide +kernel
theorem dX7_tie_124 : decode cX7_tie 124 = .ok (.iload_n 3, 1) := by decide +kernel
theorem dX7_tie_125 : decode cX7_tie 125 = .ok (.ifCond .eq 7, 3) := by decide +kernel
theorem dX7_tie_128 : decode cX7_tie 128 = .ok (.iconst 1, 1) := by decide +kernel
theorem dX7_tie_129 : decode cX7_tie 129 = .ok (.goto 4, 3) := by decide +kernel
theorem dX7_tie_132 : decode cX7_tie 132 = .ok (.iconst 0, 1) := by decide +kernel
theorem dX7_tie_133 : decode cX7_tie 133 = .ok (.iastore, 1) := by decide +kernel
theorem dX7_tie_134 : decode cX7_tie 134 = .ok (.aload_n 0, 1) := by decide +kernel
theorem dX7_tie_135 : decode cX7_tie 135 = .ok (.getfield 7, 3) := by decide +kernel
theorem dX7_tie_138 : decode cX7_tie 138 = .ok (.iload 5, 2) := by decide +kernel
theorem dX7_tie_140 : decode cX7_tie 140 = .ok (.iconst 3, 1) := by decide +kernel
theorem dX7_tie_141 : decode cX7_tie 141 = .ok (.iadd, 1) := by decide +kernel
theorem dX7_tie_142 : decode cX7_tie 142 = .ok (.iload 4, 2) := by decide +kernel
theorem dX7_tie_144 : decode cX7_tie 144 = .ok (.iastore, 1) := by decide +kernel
theorem dX7_tie_145 : decode cX7_tie 145 = .ok (.aload_n 0, 1) := by decide +kernel
theorem dX7_tie_146 : decode cX7_tie 146 = .ok (.getfield 7, 3) := by decide +kernel
theorem dX7_tie_149 : decode cX7_tie 149 = .ok (.sipush 149, 3) := by decide +kernel
theorem dX7_tie_152 : decode cX7_tie 152 = .ok (.dup2, 1) := by decide +kernel
theorem dX7_tie_153 : decode cX7_tie 153 = .ok (.iaload, 1) := by decide +kernel
theorem dX7_tie_154 : decode cX7_tie 154 = .ok (.iconst 1, 1) := by decide +kernel
theorem dX7_tie_155 : decode cX7_tie 155 = .ok (.iadd, 1) := by decide +kernel
theorem dX7_tie_156 : decode cX7_tie 156 = .ok (.iastore, 1) := by decide +kernel
theorem dX7_tie_157 : decode cX7_tie 157 = .ok (.aload_n 0, 1) := by decide +kernel
theorem dX7_tie_158 : decode cX7_tie 158 = .ok (.getfield 7, 3) := by decide +kernel
theorem dX7_tie_161 : decode cX7_tie 161 = .ok (.sipush 149, 3) := by decide +kernel
theorem dX7_tie_164 : decode cX7_tie 164 = .ok (.iaload, 1) := by decide +kernel
theorem dX7_tie_165 : decode cX7_tie 165 = .ok (.iconst 1, 1) := by decide +kernel
theorem dX7_tie_166 : decode cX7_tie 166 = .ok (.isub, 1) := by decide +kernel
theorem dX7_tie_167 : decode cX7_tie 167 = .ok (.ireturn, 1) := by decide +kernel
theorem dX7_cuts_0 : decode cX7_cuts 0 = .ok (.aload_n 0, 1) := by decide +kernel
theorem dX7_cuts_1 : decode cX7_cuts 1 = .ok (.getfield 7, 3) := by decide +kernel
theorem dX7_cuts_4 : decode cX7_cuts 4 = .ok (.sipush 149, 3) := by decide +kernel
theorem dX7_cuts_7 : decode cX7_cuts 7 = .ok (.dup2, 1) := by decide +kernel
theorem dX7_cuts_8 : decode cX7_cuts 8 = .ok (.iaload, 1) := by decide +kernel
theorem dX7_cuts_9 : decode cX7_cuts 9 = .ok (.iconst 1, 1) := by decide +kernel
theorem dX7_cuts_10 : decode cX7_cuts 10 = .ok (.isub, 1) := by decide +kernel
theorem dX7_cuts_11 : decode cX7_cuts 11 = .ok (.iastore, 1) := by decide +kernel
theorem dX7_cuts_12 : decode cX7_cuts 12 = .ok (.aload_n 0, 1) := by decide +kernel
theorem dX7_cuts_13 : decode cX7_cuts 13 = .ok (.getfield 7, 3) := by decide +kernel
theorem dX7_cuts_16 : decode cX7_cuts 16 = .ok (.sipush 154, 3) := by decide +kernel
theorem dX7_cuts_19 : decode cX7_cuts 19 = .ok (.dup2, 1) := by decide +kernel
theorem dX7_cuts_20 : decode cX7_cuts 20 = .ok (.iaload, 1) := by decide +kernel
theorem dX7_cuts_21 : decode cX7_cuts 21 = .ok (.iconst 1, 1) := by decide +kernel
theorem dX7_cuts_22 : decode cX7_cuts 22 = .ok (.iadd, 1) := by decide +kernel
theorem dX7_cuts_23 : decode cX7_cuts 23 = .ok (.iastore, 1) := by decide +kernel
theorem dX7_cuts_24 : decode cX7_cuts 24 = .ok (.bipush 36, 2) := by decide +kernel
theorem dX7_cuts_26 : decode cX7_cuts 26 = .ok (.iconst 4, 1) := by decide +kernel
theorem dX7_cuts_27 : decode cX7_cuts 27 = .ok (.iload_n 1, 1) := by decide +kernel
theorem dX7_cuts_28 : decode cX7_cuts 28 = .ok (.imul, 1) := by decide +kernel
theorem dX7_cuts_29 : decode cX7_cuts 29 = .ok (.iadd, 1) := by decide +kernel
theorem dX7_cuts_30 : decode cX7_cuts 30 = .ok (.istore_n 2, 1) := by decide +kernel
theorem dX7_cuts_31 : decode cX7_cuts 31 = .ok (.iload_n 2, 1) := by decide +kernel
theorem dX7_cuts_32 : decode cX7_cuts 32 = .ok (.bipush 36, 2) := by decide +kernel
theorem dX7_cuts_34 : decode cX7_cuts 34 = .ok (.iconst 4, 1) := by decide +kernel
theorem dX7_cuts_35 : decode cX7_cuts 35 = .ok (.aload_n 0, 1) := by decide +kernel
theorem dX7_cuts_36 : decode cX7_cuts 36 = .ok (.getfield 7, 3) := by decide +kernel
theorem dX7_cuts_39 : decode cX7_cuts 39 = .ok (.sipush 149, 3) := by decide +kernel
theorem dX7_cuts_42 : decode cX7_cuts 42 = .ok (.iaload, 1) := by decide +kernel
theorem dX7_cuts_43 : decode cX7_cuts 43 = .ok (.imul, 1) := by decide +kernel
theorem dX7_cuts_44 : decode cX7_cuts 44 = .ok (.iadd, 1) := by decide +kernel
theorem dX7_cuts_45 : decode cX7_cuts 45 = .ok (.if_icmp .ge 23, 3) := by decide +kernel
theorem dX7_cuts_48 : decode cX7_cuts 48 = .ok (.aload_n 0, 1) := by decide +kernel
theorem dX7_cuts_49 : decode cX7_cuts 49 = .ok (.getfield 7, 3) := by decide +kernel
theorem dX7_cuts_52 : decode cX7_cuts 52 = .ok (.iload_n 2, 1) := by decide +kernel
theorem dX7_cuts_53 : decode cX7_cuts 53 = .ok (.aload_n 0, 1) := by decide +kernel
theorem dX7_cuts_54 : decode cX7_cuts 54 = .ok (.getfield 7, 3) := by decide +kernel
theorem dX7_cuts_57 : decode cX7_cuts 57 = .ok (.iload_n 2, 1) := by decide +kernel
theorem dX7_cuts_58 : decode cX7_cuts 58 = .ok (.iconst 4, 1) := by decide +kernel
theorem dX7_cuts_59 : decode cX7_cuts 59 = .ok (.iadd, 1) := by decide +kernel
theorem dX7_cuts_60 : decode cX7_cuts 60 = .ok (.iaload, 1) := by decide +kernel
theorem dX7_cuts_61 : decode cX7_cuts 61 = .ok (.iastore, 1) := by decide +kernel
theorem dX7_cuts_62 : decode cX7_cuts 62 = .ok (.iinc 2 1, 3) := by decide +kernel
theorem dX7_cuts_65 : decode cX7_cuts 65 = .ok (.goto (-34), 3) := by decide +kernel
theorem dX7_cuts_68 : decode cX7_cuts 68 = .ok (.return_, 1) := by decide +kernel
theorem dX7_cut_0 : decode cX7_cut 0 = .ok (.aload_n 0, 1) := by decide +kernel
theorem dX7_cut_1 : decode cX7_cut 1 = .ok (.iload_n 1, 1) := by decide +kernel
theorem dX7_cut_2 : decode cX7_cut 2 = .ok (.invokevirtual 102, 3) := by decide +kernel
theorem dX7_cut_5 : decode cX7_cut 5 = .ok (.ifCond .ne 6, 3) := by decide +kernel
theorem dX7_cut_8 : decode cX7_cut 8 = .ok (.ldc 96, 2) := by decide +kernel
theorem dX7_cut_10 : decode cX7_cut 10 = .ok (.ireturn, 1) := by decide +kernel
theorem dX7_cut_11 : decode cX7_cut 11 = .ok (.aload_n 0, 1) := by decide +kernel
theorem dX7_cut_12 : decode cX7_cut 12 = .ok (.invokevirtual 98, 3) := by decide +kernel
theorem dX7_cut_15 : decode cX7_cut 15 = .ok (.aload_n 0, 1) := by decide +kernel
theorem dX7_cut_16 : decode cX7_cut 16 = .ok (.iload_n 1, 1) := by decide +kernel
theorem dX7_cut_17 : decode cX7_cut 17 = .ok (.invokevirtual 105, 3) := by decide +kernel
theorem dX7_cut_20 : decode cX7_cut 20 = .ok (.aload_n 0, 1) := by decide +kernel
theorem dX7_cut_21 : decode cX7_cut 21 = .ok (.getfield 7, 3) := by decide +kernel
theorem dX7_cut_24 : decode cX7_cut 24 = .ok (.sipush 149, 3) := by decide +kernel
theorem dX7_cut_27 : decode cX7_cut 27 = .ok (.iaload, 1) := by decide +kernel
theorem dX7_cut_28 : decode cX7_cut 28 = .ok (.ireturn, 1) := by decide +kernel
theorem dX7_ofDeal_0 : decode cX7_ofDeal 0 = .ok (.iconst 0, 1) := by decide +kernel
theorem dX7_ofDeal_1 : decode cX7_ofDeal 1 = .ok (.istore_n 2, 1) := by decide +kernel
theorem dX7_ofDeal_2 : decode cX7_ofDeal 2 = .ok (.iconst 0, 1) := by decide +kernel
theorem dX7_ofDeal_3 : decode cX7_ofDeal 3 = .ok (.istore_n 3, 1) := by decide +kernel
theorem dX7_ofDeal_4 : decode cX7_ofDeal 4 = .ok (.iload_n 3, 1) := by decide +kernel
theorem dX7_ofDeal_5 : decode cX7_ofDeal 5 = .ok (.aload_n 0, 1) := by decide +kernel
theorem dX7_ofDeal_6 : decode cX7_ofDeal 6 = .ok (.getfield 7, 3) := by decide +kernel
theorem dX7_ofDeal_9 : decode cX7_ofDeal 9 = .ok (.sipush 149, 3) := by decide +kernel
theorem dX7_ofDeal_12 : decode cX7_ofDeal 12 = .ok (.iaload, 1) := by decide +kernel
theorem dX7_ofDeal_13 : decode cX7_ofDeal 13 = .ok (.if_icmp .ge 27, 3) := by decide +kernel
theorem dX7_ofDeal_16 : decode cX7_ofDeal 16 = .ok (.iload_n 2, 1) := by decide +kernel
theorem dX7_ofDeal_17 : decode cX7_ofDeal 17 = .ok (.aload_n 0, 1) := by decide +kernel
theorem dX7_ofDeal_18 : decode cX7_ofDeal 18 = .ok (.iload_n 3, 1) := by decide +kernel
theorem dX7_ofDeal_19 : decode cX7_ofDeal 19 = .ok (.iconst 3, 1) := by decide +kernel
theorem dX7_ofDeal_20 : decode cX7_ofDeal 20 = .ok (.invokevirtual 53, 3) := by decide +kernel
theorem dX7_ofDeal_23 : decode cX7_ofDeal 23 = .ok (.iload_n 1, 1) := by decide +kernel
theorem dX7_ofDeal_24 : decode cX7_ofDeal 24 = .ok (.if_icmp .ne 7, 3) := by decide +kernel
theorem dX7_ofDeal_27 : decode cX7_ofDeal 27 = .ok (.iconst 1, 1) := by decide +kernel
theorem dX7_ofDeal_28 : decode cX7_ofDeal 28 = .ok (.goto 4, 3) := by decide +kernel
theorem dX7_ofDeal_31 : decode cX7_ofDeal 31 = .ok (.iconst 0, 1) := by decide +kernel
theorem dX7_ofDeal_32 : decode cX7_ofDeal 32 = .ok (.iadd, 1) := by decide +kernel
theorem dX7_ofDeal_33 : decode cX7_ofDeal 33 = .ok (.istore_n 2, 1) := by decide +kernel
theorem dX7_ofDeal_34 : decode cX7_ofDeal 34 = .ok (.iinc 3 1, 3) := by decide +kernel
theorem dX7_ofDeal_37 : decode cX7_ofDeal 37 = .ok (.goto (-33), 3) := by decide +kernel
theorem dX7_ofDeal_40 : decode cX7_ofDeal 40 = .ok (.iload_n 2, 1) := by decide +kernel
theorem dX7_ofDeal_41 : decode cX7_ofDeal 41 = .ok (.ireturn, 1) := by decide +kernel
theorem dX7_cutDeal_0 : decode cX7_cutDeal 0 = .ok (.iload_n 1, 1) := by decide +kernel
theorem dX7_cutDeal_1 : decode cX7_cutDeal 1 = .ok (.iconst 0, 1) := by decide +kernel
theorem dX7_cutDeal_2 : decode cX7_cutDeal 2 = .ok (.iconst 5, 1) := by decide +kernel
theorem dX7_cutDeal_3 : decode cX7_cutDeal 3 = .ok (.invokestatic 45, 3) := by decide +kernel
theorem dX7_cutDeal_6 : decode cX7_cutDeal 6 = .ok (.ifCond .ne 6, 3) := by decide +kernel
theorem dX7_cutDeal_9 : decode cX7_cutDeal 9 = .ok (.ldc 96, 2) := by decide +kernel
theorem dX7_cutDeal_11 : decode cX7_cutDeal 11 = .ok (.ireturn, 1) := by decide +kernel
theorem dX7_cutDeal_12 : decode cX7_cutDeal 12 = .ok (.aload_n 0, 1) := by decide +kernel
theorem dX7_cutDeal_13 : decode cX7_cutDeal 13 = .ok (.iload_n 1, 1) := by decide +kernel
theorem dX7_cutDeal_14 : decode cX7_cutDeal 14 = .ok (.invokevirtual 108, 3) := by decide +kernel
theorem dX7_cutDeal_17 : decode cX7_cutDeal 17 = .ok (.istore_n 2, 1) := by decide +kernel
theorem dX7_cutDeal_18 : decode cX7_cutDeal 18 = .ok (.iload_n 2, 1) := by decide +kernel
theorem dX7_cutDeal_19 : decode cX7_cutDeal 19 = .ok (.ifCond .ne 6, 3) := by decide +kernel
theorem dX7_cutDeal_22 : decode cX7_cutDeal 22 = .ok (.ldc 101, 2) := by decide +kernel
theorem dX7_cutDeal_24 : decode cX7_cutDeal 24 = .ok (.ireturn, 1) := by decide +kernel
theorem dX7_cutDeal_25 : decode cX7_cutDeal 25 = .ok (.aload_n 0, 1) := by decide +kernel
theorem dX7_cutDeal_26 : decode cX7_cutDeal 26 = .ok (.invokevirtual 98, 3) := by decide +kernel
theorem dX7_cutDeal_29 : decode cX7_cutDeal 29 = .ok (.aload_n 0, 1) := by decide +kernel
theorem dX7_cutDeal_30 : decode cX7_cutDeal 30 = .ok (.getfield 7, 3) := by decide +kernel
theorem dX7_cutDeal_33 : decode cX7_cutDeal 33 = .ok (.sipush 149, 3) := by decide +kernel
theorem dX7_cutDeal_36 : decode cX7_cutDeal 36 = .ok (.iaload, 1) := by decide +kernel
theorem dX7_cutDeal_37 : decode cX7_cutDeal 37 = .ok (.iconst 1, 1) := by decide +kernel
theorem dX7_cutDeal_38 : decode cX7_cutDeal 38 = .ok (.isub, 1) := by decide +kernel
theorem dX7_cutDeal_39 : decode cX7_cutDeal 39 = .ok (.istore_n 3, 1) := by decide +kernel
theorem dX7_cutDeal_40 : decode cX7_cutDeal 40 = .ok (.iload_n 3, 1) := by decide +kernel
theorem dX7_cutDeal_41 : decode cX7_cutDeal 41 = .ok (.ifCond .lt 24, 3) := by decide +kernel
theorem dX7_cutDeal_44 : decode cX7_cutDeal 44 = .ok (.aload_n 0, 1) := by decide +kernel
theorem dX7_cutDeal_45 : decode cX7_cutDeal 45 = .ok (.iload_n 3, 1) := by decide +kernel
theorem dX7_cutDeal_46 : decode cX7_cutDeal 46 = .ok (.iconst 3, 1) := by decide +kernel
theorem dX7_cutDeal_47 : decode cX7_cutDeal 47 = .ok (.invokevirtual 53, 3) := by decide +kernel
theorem dX7_cutDeal_50 : decode cX7_cutDeal 50 = .ok (.iload_n 1, 1) := by decide +kernel
theorem dX7_cutDeal_51 : decode cX7_cutDeal 51 = .ok (.if_icmp .ne 8, 3) := by decide +kernel
theorem dX7_cutDeal_54 : decode cX7_cutDeal 54 = .ok (.aload_n 0, 1) := by decide +kernel
theorem dX7_cutDeal_55 : decode cX7_cutDeal 55 = .ok (.iload_n 3, 1) := by decide +kernel
theorem dX7_cutDeal_56 : decode cX7_cutDeal 56 = .ok (.invokevirtual 105, 3) := by decide +kernel
theorem dX7_cutDeal_59 : decode cX7_cutDeal 59 = .ok (.iinc 3 (-1), 3) := by decide +kernel
theorem dX7_cutDeal_62 : decode cX7_cutDeal 62 = .ok (.goto (-22), 3) := by decide +kernel
theorem dX7_cutDeal_65 : decode cX7_cutDeal 65 = .ok (.iload_n 2, 1) := by decide +kernel
theorem dX7_cutDeal_66 : decode cX7_cutDeal 66 = .ok (.ireturn, 1) := by decide +kernel
theorem dX7_manyPulled_0 : decode cX7_manyPulled 0 = .ok (.iconst 0, 1) := by decide +kernel
theorem dX7_manyPulled_1 : decode cX7_manyPulled 1 = .ok (.istore_n 2, 1) := by decide +kernel
theorem dX7_manyPulled_2 : decode cX7_manyPulled 2 = .ok (.iconst 0, 1) := by decide +kernel
theorem dX7_manyPulled_3 : decode cX7_manyPulled 3 = .ok (.istore_n 3, 1) := by decide +kernel
theorem dX7_manyPulled_4 : decode cX7_manyPulled 4 = .ok (.iload_n 3, 1) := by decide +kernel
theorem dX7_manyPulled_5 : decode cX7_manyPulled 5 = .ok (.aload_n 0, 1) := by decide +kernel
theorem dX7_manyPulled_6 : decode cX7_manyPulled 6 = .ok (.getfield 7, 3) := by decide +kernel
theorem dX7_manyPulled_9 : decode cX7_manyPulled 9 = .ok (.sipush 148, 3) := by decide +kernel
theorem dX7_manyPulled_12 : decode cX7_manyPulled 12 = .ok (.iaload, 1) := by decide +kernel
theorem dX7_manyPulled_13 : decode cX7_manyPulled 13 = .ok (.if_icmp .ge 31, 3) := by decide +kernel
theorem dX7_manyPulled_16 : decode cX7_manyPulled 16 = .ok (.iload_n 2, 1) := by decide +kernel
theorem dX7_manyPulled_17 : decode cX7_manyPulled 17 = .ok (.iload_n 3, 1) := by decide +kernel
theorem dX7_manyPulled_18 : decode cX7_manyPulled 18 = .ok (.iload_n 1, 1) := by decide +kernel
theorem dX7_manyPulled_19 : decode cX7_manyPulled 19 = .ok (.if_icmp .eq 16, 3) := by decide +kernel
theorem dX7_manyPulled_22 : decode cX7_manyPulled 22 = .ok (.aload_n 0, 1) := by decide +kernel
theorem dX7_manyPulled_23 : decode cX7_manyPulled 23 = .ok (.iload_n 3, 1) := by decide +kernel
theorem dX7_manyPulled_24 : decode cX7_manyPulled 24 = .ok (.iconst 2, 1) := by decide +kernel
theorem dX7_manyPulled_25 : decode cX7_manyPulled 25 = .ok (.invokevirtual 61, 3) := by decide +kernel
theorem dX7_manyPulled_28 : decode cX7_manyPulled 28 = .ok (.ifCond .le 7, 3) := by decide +kernel
theorem dX7_manyPulled_31 : decode cX7_manyPulled 31 = .ok (.iconst 1, 1) := by decide +kernel
theorem dX7_manyPulled_32 : decode cX7_manyPulled 32 = .ok (.goto 4, 3) := by decide +kernel
theorem dX7_manyPulled_35 : decode cX7_manyPulled 35 = .ok (.iconst 0, 1) := by decide +kernel
theorem dX7_manyPulled_36 : decode cX7_manyPulled 36 = .ok (.iadd, 1) := by decide +kernel
theorem dX7_manyPulled_37 : decode cX7_manyPulled 37 = .ok (.istore_n 2, 1) := by decide +kernel
theorem dX7_manyPulled_38 : decode cX7_manyPulled 38 = .ok (.iinc 3 1, 3) := by decide +kernel
theorem dX7_manyPulled_41 : decode cX7_manyPulled 41 = .ok (.goto (-37), 3) := by decide +kernel
theorem dX7_manyPulled_44 : decode cX7_manyPulled 44 = .ok (.iload_n 2, 1) := by decide +kernel
theorem dX7_manyPulled_45 : decode cX7_manyPulled 45 = .ok (.ireturn, 1) := by decide +kernel
theorem dX7_barred_0 : decode cX7_barred 0 = .ok (.iload_n 1, 1) := by decide +kernel
theorem dX7_barred_1 : decode cX7_barred 1 = .ok (.aload_n 0, 1) := by decide +kernel
theorem dX7_barred_2 : decode cX7_barred 2 = .ok (.getfield 7, 3) := by decide +kernel
theorem dX7_barred_5 : decode cX7_barred 5 = .ok (.sipush 150, 3) := by decide +kernel
theorem dX7_barred_8 : decode cX7_barred 8 = .ok (.iaload, 1) := by decide +kernel
theorem dX7_barred_9 : decode cX7_barred 9 = .ok (.if_icmp .ne 5, 3) := by decide +kernel
theorem dX7_barred_12 : decode cX7_barred 12 = .ok (.iconst 1, 1) := by decide +kernel
theorem dX7_barred_13 : decode cX7_barred 13 = .ok (.ireturn, 1) := by decide +kernel
theorem dX7_barred_14 : decode cX7_barred 14 = .ok (.aload_n 0, 1) := by decide +kernel
theorem dX7_barred_15 : decode cX7_barred 15 = .ok (.ldc 60, 2) := by decide +kernel
theorem dX7_barred_17 : decode cX7_barred 17 = .ok (.invokevirtual 71, 3) := by decide +kernel
theorem dX7_barred_20 : decode cX7_barred 20 = .ok (.aload_n 0, 1) := by decide +kernel
theorem dX7_barred_21 : decode cX7_barred 21 = .ok (.aload_n 0, 1) := by decide +kernel
theorem dX7_barred_22 : decode cX7_barred 22 = .ok (.getfield 22, 3) := by decide +kernel
theorem dX7_barred_25 : decode cX7_barred 25 = .ok (.iload_n 1, 1) := by decide +kernel
theorem dX7_barred_26 : decode cX7_barred 26 = .ok (.iaload, 1) := by decide +kernel
theorem dX7_barred_27 : decode cX7_barred 27 = .ok (.iload_n 1, 1) := by decide +kernel
theorem dX7_barred_28 : decode cX7_barred 28 = .ok (.invokevirtual 64, 3) := by decide +kernel
theorem dX7_barred_31 : decode cX7_barred 31 = .ok (.istore_n 3, 1) := by decide +kernel
theorem dX7_barred_32 : decode cX7_barred 32 = .ok (.iload_n 3, 1) := by decide +kernel
theorem dX7_barred_33 : decode cX7_barred 33 = .ok (.ifCond .lt 19, 3) := by decide +kernel
theorem dX7_barred_36 : decode cX7_barred 36 = .ok (.iload_n 3, 1) := by decide +kernel
theorem dX7_barred_37 : decode cX7_barred 37 = .ok (.aload_n 0, 1) := by decide +kernel
theorem dX7_barred_38 : decode cX7_barred 38 = .ok (.getfield 25, 3) := by decide +kernel
theorem dX7_barred_41 : decode cX7_barred 41 = .ok (.iload_n 1, 1) := by decide +kernel
theorem dX7_barred_42 : decode cX7_barred 42 = .ok (.iaload, 1) := by decide +kernel
theorem dX7_barred_43 : decode cX7_barred 43 = .ok (.ixor, 1) := by decide +kernel
theorem dX7_barred_44 : decode cX7_barred 44 = .ok (.iload_n 2, 1) := by decide +kernel
theorem dX7_barred_45 : decode cX7_barred 45 = .ok (.if_icmp .eq 7, 3) := by decide +kernel
theorem dX7_barred_48 : decode cX7_barred 48 = .ok (.iconst 2, 1) := by decide +kernel
theorem dX7_barred_49 : decode cX7_barred 49 = .ok (.goto 24, 3) := by decide +kernel
theorem dX7_barred_52 : decode cX7_barred 52 = .ok (.aload_n 0, 1) := by decide +kernel
theorem dX7_barred_53 : decode cX7_barred 53 = .ok (.iload_n 1, 1) := by decide +kernel
theorem dX7_barred_54 : decode cX7_barred 54 = .ok (.invokevirtual 111, 3) := by decide +kernel
theorem dX7_barred_57 : decode cX7_barred 57 = .ok (.aload_n 0, 1) := by decide +kernel
theorem dX7_barred_58 : decode cX7_barred 58 = .ok (.getfield 7, 3) := by decide +kernel
theorem dX7_barred_61 : decode cX7_barred 61 = .ok (.sipush 155, 3) := by decide +kernel
theorem dX7_barred_64 : decode cX7_barred 64 = .ok (.iaload, 1) := by decide +kernel
theorem dX7_barred_65 : decode cX7_barred 65 = .ok (.if_icmp .lt 7, 3) := by decide +kernel
theorem dX7_barred_68 : decode cX7_barred 68 = .ok (.iconst 3, 1) := by decide +kernel
theorem dX7_barred_69 : decode cX7_barred 69 = .ok (.goto 4, 3) := by decide +kernel
theorem dX7_barred_72 : decode cX7_barred 72 = .ok (.iconst 0, 1) := by decide +kernel
theorem dX7_barred_73 : decode cX7_barred 73 = .ok (.ireturn, 1) := by decide +kernel
theorem dX7_whyPull_0 : decode cX7_whyPull 0 = .ok (.aload_n 0, 1) := by decide +kernel
theorem dX7_whyPull_1 : decode cX7_whyPull 1 = .ok (.iload_n 1, 1) := by decide +kernel
theorem dX7_whyPull_2 : decode cX7_whyPull 2 = .ok (.invokevirtual 49, 3) := by decide +kernel
theorem dX7_whyPull_5 : decode cX7_whyPull 5 = .ok (.ifCond .eq 21, 3) := by decide +kernel
theorem dX7_whyPull_8 : decode cX7_whyPull 8 = .ok (.iload_n 2, 1) := by decide +kernel
theorem dX7_whyPull_9 : decode cX7_whyPull 9 = .ok (.iconst 0, 1) := by decide +kernel
theorem dX7_whyPull_10 : decode cX7_whyPull 10 = .ok (.iconst 1, 1) := by decide +kernel
theorem dX7_whyPull_11 : decode cX7_whyPull 11 = .ok (.invokestatic 45, 3) := by decide +kernel
theorem dX7_whyPull_14 : decode cX7_whyPull 14 = .ok (.ifCond .eq 12, 3) := by decide +kernel
theorem dX7_whyPull_17 : decode cX7_whyPull 17 = .ok (.aload_n 0, 1) := by decide +kernel
theorem dX7_whyPull_18 : decode cX7_whyPull 18 = .ok (.iload_n 1, 1) := by decide +kernel
theorem dX7_whyPull_19 : decode cX7_whyPull 19 = .ok (.iload_n 2, 1) := by decide +kernel
theorem dX7_whyPull_20 : decode cX7_whyPull 20 = .ok (.invokevirtual 114, 3) := by decide +kernel
theorem dX7_whyPull_23 : decode cX7_whyPull 23 = .ok (.goto 5, 3) := by decide +kernel
theorem dX7_whyPull_26 : decode cX7_whyPull 26 = .ok (.ldc 96, 2) := by decide +kernel
theorem dX7_whyPull_28 : decode cX7_whyPull 28 = .ok (.ireturn, 1) := by decide +kernel
theorem dX7_pull_0 : decode cX7_pull 0 = .ok (.aload_n 0, 1) := by decide +kernel
theorem dX7_pull_1 : decode cX7_pull 1 = .ok (.iload_n 1, 1) := by decide +kernel
theorem dX7_pull_2 : decode cX7_pull 2 = .ok (.invokevirtual 49, 3) := by decide +kernel
theorem dX7_pull_5 : decode cX7_pull 5 = .ok (.ifCond .eq 12, 3) := by decide +kernel
theorem dX7_pull_8 : decode cX7_pull 8 = .ok (.iload_n 2, 1) := by decide +kernel
theorem dX7_pull_9 : decode cX7_pull 9 = .ok (.iconst 0, 1) := by decide +kernel
theorem dX7_pull_10 : decode cX7_pull 10 = .ok (.iconst 1, 1) := by decide +kernel
theorem dX7_pull_11 : decode cX7_pull 11 = .ok (.invokestatic 45, 3) := by decide +kernel
theorem dX7_pull_14 : decode cX7_pull 14 = .ok (.ifCond .ne 6, 3) := by decide +kernel
theorem dX7_pull_17 : decode cX7_pull 17 = .ok (.ldc 96, 2) := by decide +kernel
theorem dX7_pull_19 : decode cX7_pull 19 = .ok (.ireturn, 1) := by decide +kernel
theorem dX7_pull_20 : decode cX7_pull 20 = .ok (.aload_n 0, 1) := by decide +kernel
theorem dX7_pull_21 : decode cX7_pull 21 = .ok (.iload_n 1, 1) := by decide +kernel
theorem dX7_pull_22 : decode cX7_pull 22 = .ok (.iload_n 2, 1) := by decide +kernel
theorem dX7_pull_23 : decode cX7_pull 23 = .ok (.invokevirtual 114, 3) := by decide +kernel
theorem dX7_pull_26 : decode cX7_pull 26 = .ok (.ifCond .le 6, 3) := by decide +kernel
theorem dX7_pull_29 : decode cX7_pull 29 = .ok (.ldc 101, 2) := by decide +kernel
theorem dX7_pull_31 : decode cX7_pull 31 = .ok (.ireturn, 1) := by decide +kernel
theorem dX7_pull_32 : decode cX7_pull 32 = .ok (.aload_n 0, 1) := by decide +kernel
theorem dX7_pull_33 : decode cX7_pull 33 = .ok (.invokevirtual 98, 3) := by decide +kernel
theorem dX7_pull_36 : decode cX7_pull 36 = .ok (.aload_n 0, 1) := by decide +kernel
theorem dX7_pull_37 : decode cX7_pull 37 = .ok (.getfield 7, 3) := by decide +kernel
theorem dX7_pull_40 : decode cX7_pull 40 = .ok (.iconst 3, 1) := by decide +kernel
theorem dX7_pull_41 : decode cX7_pull 41 = .ok (.iload_n 1, 1) := by decide +kernel
theorem dX7_pull_42 : decode cX7_pull 42 = .ok (.imul, 1) := by decide +kernel
theorem dX7_pull_43 : decode cX7_pull 43 = .ok (.iconst 2, 1) := by decide +kernel
theorem dX7_pull_44 : decode cX7_pull 44 = .ok (.iadd, 1) := by decide +kernel
theorem dX7_pull_45 : decode cX7_pull 45 = .ok (.iload_n 2, 1) := by decide +kernel
theorem dX7_pull_46 : decode cX7_pull 46 = .ok (.iconst 1, 1) := by decide +kernel
theorem dX7_pull_47 : decode cX7_pull 47 = .ok (.iadd, 1) := by decide +kernel
theorem dX7_pull_48 : decode cX7_pull 48 = .ok (.iastore, 1) := by decide +kernel
theorem dX7_pull_49 : decode cX7_pull 49 = .ok (.aload_n 0, 1) := by decide +kernel
theorem dX7_pull_50 : decode cX7_pull 50 = .ok (.invokevirtual 79, 3) := by decide +kernel
theorem dX7_pull_53 : decode cX7_pull 53 = .ok (.ireturn, 1) := by decide +kernel
theorem dX7_release_0 : decode cX7_release 0 = .ok (.aload_n 0, 1) := by decide +kernel
theorem dX7_release_1 : decode cX7_release 1 = .ok (.iload_n 1, 1) := by decide +kernel
theorem dX7_release_2 : decode cX7_release 2 = .ok (.invokevirtual 49, 3) := by decide +kernel
theorem dX7_release_5 : decode cX7_release 5 = .ok (.ifCond .ne 6, 3) := by decide +kernel
theorem dX7_release_8 : decode cX7_release 8 = .ok (.ldc 96, 2) := by decide +kernel
theorem dX7_release_10 : decode cX7_release 10 = .ok (.ireturn, 1) := by decide +kernel
theorem dX7_release_11 : decode cX7_release 11 = .ok (.aload_n 0, 1) := by decide +kernel
theorem dX7_release_12 : decode cX7_release 12 = .ok (.iload_n 1, 1) := by decide +kernel
theorem dX7_release_13 : decode cX7_release 13 = .ok (.iconst 2, 1) := by decide +kernel
theorem dX7_release_14 : decode cX7_release 14 = .ok (.invokevirtual 61, 3) := by decide +kernel
theorem dX7_release_17 : decode cX7_release 17 = .ok (.ifCond .ne 6, 3) := by decide +kernel
theorem dX7_release_20 : decode cX7_release 20 = .ok (.ldc 101, 2) := by decide +kernel
theorem dX7_release_22 : decode cX7_release 22 = .ok (.ireturn, 1) := by decide +kernel
theorem dX7_release_23 : decode cX7_release 23 = .ok (.aload_n 0, 1) := by decide +kernel
theorem dX7_release_24 : decode cX7_release 24 = .ok (.invokevirtual 98, 3) := by decide +kernel
theorem dX7_release_27 : decode cX7_release 27 = .ok (.aload_n 0, 1) := by decide +kernel
theorem dX7_release_28 : decode cX7_release 28 = .ok (.iload_n 1, 1) := by decide +kernel
theorem dX7_release_29 : decode cX7_release 29 = .ok (.iconst 2, 1) := by decide +kernel
theorem dX7_release_30 : decode cX7_release 30 = .ok (.invokevirtual 61, 3) := by decide +kernel
theorem dX7_release_33 : decode cX7_release 33 = .ok (.iconst 1, 1) := by decide +kernel
theorem dX7_release_34 : decode cX7_release 34 = .ok (.isub, 1) := by decide +kernel
theorem dX7_release_35 : decode cX7_release 35 = .ok (.istore_n 2, 1) := by decide +kernel
theorem dX7_release_36 : decode cX7_release 36 = .ok (.aload_n 0, 1) := by decide +kernel
theorem dX7_release_37 : decode cX7_release 37 = .ok (.getfield 7, 3) := by decide +kernel
theorem dX7_release_40 : decode cX7_release 40 = .ok (.iconst 3, 1) := by decide +kernel
theorem dX7_release_41 : decode cX7_release 41 = .ok (.iload_n 1, 1) := by decide +kernel
theorem dX7_release_42 : decode cX7_release 42 = .ok (.imul, 1) := by decide +kernel
theorem dX7_release_43 : decode cX7_release 43 = .ok (.iconst 2, 1) := by decide +kernel
theorem dX7_release_44 : decode cX7_release 44 = .ok (.iadd, 1) := by decide +kernel
theorem dX7_release_45 : decode cX7_release 45 = .ok (.iconst 0, 1) := by decide +kernel
theorem dX7_release_46 : decode cX7_release 46 = .ok (.iastore, 1) := by decide +kernel
theorem dX7_release_47 : decode cX7_release 47 = .ok (.iload_n 2, 1) := by decide +kernel
theorem dX7_release_48 : decode cX7_release 48 = .ok (.ireturn, 1) := by decide +kernel
theorem dX7_session_0 : decode cX7_session 0 = .ok (.aload_n 0, 1) := by decide +kernel
theorem dX7_session_1 : decode cX7_session 1 = .ok (.getfield 7, 3) := by decide +kernel
theorem dX7_session_4 : decode cX7_session 4 = .ok (.sipush 148, 3) := by decide +kernel
theorem dX7_session_7 : decode cX7_session 7 = .ok (.iaload, 1) := by decide +kernel
theorem dX7_session_8 : decode cX7_session 8 = .ok (.ifCond .ne 6, 3) := by decide +kernel
theorem dX7_session_11 : decode cX7_session 11 = .ok (.ldc 101, 2) := by decide +kernel
theorem dX7_session_13 : decode cX7_session 13 = .ok (.ireturn, 1) := by decide +kernel
theorem dX7_session_14 : decode cX7_session 14 = .ok (.aload_n 0, 1) := by decide +kernel
theorem dX7_session_15 : decode cX7_session 15 = .ok (.getfield 7, 3) := by decide +kernel
theorem dX7_session_18 : decode cX7_session 18 = .ok (.sipush 151, 3) := by decide +kernel
theorem dX7_session_21 : decode cX7_session 21 = .ok (.iaload, 1) := by decide +kernel
theorem dX7_session_22 : decode cX7_session 22 = .ok (.sipush 999, 3) := by decide +kernel
theorem dX7_session_25 : decode cX7_session 25 = .ok (.if_icmp .ne 6, 3) := by decide +kernel
theorem dX7_session_28 : decode cX7_session 28 = .ok (.ldc 97, 2) := by decide +kernel
theorem dX7_session_30 : decode cX7_session 30 = .ok (.ireturn, 1) := by decide +kernel
theorem dX7_session_31 : decode cX7_session 31 = .ok (.aload_n 0, 1) := by decide +kernel
theorem dX7_session_32 : decode cX7_session 32 = .ok (.invokevirtual 98, 3) := by decide +kernel
theorem dX7_session_35 : decode cX7_session 35 = .ok (.aload_n 0, 1) := by decide +kernel
theorem dX7_session_36 : decode cX7_session 36 = .ok (.invokevirtual 117, 3) := by decide +kernel
theorem dX7_session_39 : decode cX7_session 39 = .ok (.istore_n 1, 1) := by decide +kernel
theorem dX7_session_40 : decode cX7_session 40 = .ok (.aload_n 0, 1) := by decide +kernel
theorem dX7_session_41 : decode cX7_session 41 = .ok (.invokevirtual 75, 3) := by decide +kernel
theorem dX7_session_44 : decode cX7_session 44 = .ok (.istore_n 2, 1) := by decide +kernel
theorem dX7_session_45 : decode cX7_session 45 = .ok (.bipush 31, 2) := by decide +kernel
theorem dX7_session_47 : decode cX7_session 47 = .ok (.istore_n 3, 1) := by decide +kernel
theorem dX7_session_48 : decode cX7_session 48 = .ok (.iload_n 3, 1) := by decide +kernel
theorem dX7_session_49 : decode cX7_session 49 = .ok (.iconst 4, 1) := by decide +kernel
theorem dX7_session_50 : decode cX7_session 50 = .ok (.if_icmp .lt 29, 3) := by decide +kernel
theorem dX7_session_53 : decode cX7_session 53 = .ok (.aload_n 0, 1) := by decide +kernel
theorem dX7_session_54 : decode cX7_session 54 = .ok (.getfield 7, 3) := by decide +kernel
theorem dX7_session_57 : decode cX7_session 57 = .ok (.bipush 116, 2) := by decide +kernel
theorem dX7_session_59 : decode cX7_session 59 = .ok (.iload_n 3, 1) := by decide +kernel
theorem dX7_session_60 : decode cX7_session 60 = .ok (.iadd, 1) := by decide +kernel
theorem dX7_session_61 : decode cX7_session 61 = .ok (.aload_n 0, 1) := by decide +kernel
theorem dX7_session_62 : decode cX7_session 62 = .ok (.getfield 7, 3) := by decide +kernel
theorem dX7_session_65 : decode cX7_session 65 = .ok (.bipush 116, 2) := by decide +kernel
theorem dX7_session_67 : decode cX7_session 67 = .ok (.iload_n 3, 1) := by decide +kernel
theorem dX7_session_68 : decode cX7_session 68 = .ok (.iadd, 1) := by decide +kernel
theorem dX7_session_69 : decode cX7_session 69 = .ok (.iconst 4, 1) := by decide +kernel
theorem dX7_session_70 : decode cX7_session 70 = .ok (.isub, 1) := by decide +kernel
theorem dX7_session_71 : decode cX7_session 71 = .ok (.iaload, 1) := by decide +kernel
theorem dX7_session_72 : decode cX7_session 72 = .ok (.iastore, 1) := by decide +kernel
theorem dX7_session_73 : decode cX7_session 73 = .ok (.iinc 3 (-1), 3) := by decide +kernel
theorem dX7_session_76 : decode cX7_session 76 = .ok (.goto (-28), 3) := by decide +kernel
theorem dX7_session_79 : decode cX7_session 79 = .ok (.aload_n 0, 1) := by decide +kernel
theorem dX7_session_80 : decode cX7_session 80 = .ok (.getfield 7, 3) := by decide +kernel
theorem dX7_session_83 : decode cX7_session 83 = .ok (.bipush 116, 2) := by decide +kernel
theorem dX7_session_85 : decode cX7_session 85 = .ok (.iload_n 2, 1) := by decide +kernel
theorem dX7_session_86 : decode cX7_session 86 = .ok (.iastore, 1) := by decide +kernel
theorem dX7_session_87 : decode cX7_session 87 = .ok (.aload_n 0, 1) := by decide +kernel
theorem dX7_session_88 : decode cX7_session 88 = .ok (.getfield 7, 3) := by decide +kernel
theorem dX7_session_91 : decode cX7_session 91 = .ok (.bipush 117, 2) := by decide +kernel
theorem dX7_session_93 : decode cX7_session 93 = .ok (.aload_n 0, 1) := by decide +kernel
theorem dX7_session_94 : decode cX7_session 94 = .ok (.invokevirtual 82, 3) := by decide +kernel
theorem dX7_session_97 : decode cX7_session 97 = .ok (.iload_n 2, 1) := by decide +kernel
theorem dX7_session_98 : decode cX7_session 98 = .ok (.isub, 1) := by decide +kernel
theorem dX7_session_99 : decode cX7_session 99 = .ok (.iastore, 1) := by decide +kernel
theorem dX7_session_100 : decode cX7_session 100 = .ok (.aload_n 0, 1) := by decide +kernel
theorem dX7_session_101 : decode cX7_session 101 = .ok (.getfield 7, 3) := by decide +kernel
theorem dX7_session_104 : decode cX7_session 104 = .ok (.bipush 118, 2) := by decide +kernel
theorem dX7_session_106 : decode cX7_session 106 = .ok (.iload_n 1, 1) := by decide +kernel
theorem dX7_session_107 : decode cX7_session 107 = .ok (.ifCond .eq 7, 3) := by decide +kernel
theorem dX7_session_110 : decode cX7_session 110 = .ok (.iconst 1, 1) := by decide +kernel
theorem dX7_session_111 : decode cX7_session 111 = .ok (.goto 4, 3) := by decide +kernel
theorem dX7_session_114 : decode cX7_session 114 = .ok (.iconst 0, 1) := by decide +kernel
theorem dX7_session_115 : decode cX7_session 115 = .ok (.iastore, 1) := by decide +kernel
theorem dX7_session_116 : decode cX7_session 116 = .ok (.aload_n 0, 1) := by decide +kernel
theorem dX7_session_117 : decode cX7_session 117 = .ok (.getfield 7, 3) := by decide +kernel
theorem dX7_session_120 : decode cX7_session 120 = .ok (.bipush 119, 2) := by decide +kernel
theorem dX7_session_122 : decode cX7_session 122 = .ok (.aload_n 0, 1) := by decide +kernel
theorem dX7_session_123 : decode cX7_session 123 = .ok (.getfield 7, 3) := by decide +kernel
theorem dX7_session_126 : decode cX7_session 126 = .ok (.sipush 150, 3) := by decide +kernel
theorem dX7_session_129 : decode cX7_session 129 = .ok (.iaload, 1) := by decide +kernel
theorem dX7_session_130 : decode cX7_session 130 = .ok (.iastore, 1) := by decide +kernel
theorem dX7_session_131 : decode cX7_session 131 = .ok (.aload_n 0, 1) := by decide +kernel
theorem dX7_session_132 : decode cX7_session 132 = .ok (.getfield 7, 3) := by decide +kernel
theorem dX7_session_135 : decode cX7_session 135 = .ok (.sipush 153, 3) := by decide +kernel
theorem dX7_session_138 : decode cX7_session 138 = .ok (.dup2, 1) := by decide +kernel
theorem dX7_session_139 : decode cX7_session 139 = .ok (.iaload, 1) := by decide +kernel
theorem dX7_session_140 : decode cX7_session 140 = .ok (.aload_n 0, 1) := by decide +kernel
theorem dX7_session_141 : decode cX7_session 141 = .ok (.getfield 7, 3) := by decide +kernel
theorem dX7_session_144 : decode cX7_session 144 = .ok (.sipush 153, 3) := by decide +kernel
theorem dX7_session_147 : decode cX7_session 147 = .ok (.iaload, 1) := by decide +kernel
theorem dX7_session_148 : decode cX7_session 148 = .ok (.bipush 8, 2) := by decide +kernel
theorem dX7_session_150 : decode cX7_session 150 = .ok (.if_icmp .ge 7, 3) := by decide +kernel
theorem dX7_session_153 : decode cX7_session 153 = .ok (.iconst 1, 1) := by decide +kernel
theorem dX7_session_154 : decode cX7_session 154 = .ok (.goto 4, 3) := by decide +kernel
theorem dX7_session_157 : decode cX7_session 157 = .ok (.iconst 0, 1) := by decide +kernel
theorem dX7_session_158 : decode cX7_session 158 = .ok (.iadd, 1) := by decide +kernel
theorem dX7_session_159 : decode cX7_session 159 = .ok (.iastore, 1) := by decide +kernel
theorem dX7_session_160 : decode cX7_session 160 = .ok (.aload_n 0, 1) := by decide +kernel
theorem dX7_session_161 : decode cX7_session 161 = .ok (.getfield 7, 3) := by decide +kernel
theorem dX7_session_164 : decode cX7_session 164 = .ok (.sipush 151, 3) := by decide +kernel
theorem dX7_session_167 : decode cX7_session 167 = .ok (.dup2, 1) := by decide +kernel
theorem dX7_session_168 : decode cX7_session 168 = .ok (.iaload, 1) := by decide +kernel
theorem dX7_session_169 : decode cX7_session 169 = .ok (.iconst 1, 1) := by decide +kernel
theorem dX7_session_170 : decode cX7_session 170 = .ok (.iadd, 1) := by decide +kernel
theorem dX7_session_171 : decode cX7_session 171 = .ok (.iastore, 1) := by decide +kernel
theorem dX7_session_172 : decode cX7_session 172 = .ok (.aload_n 0, 1) := by decide +kernel
theorem dX7_session_173 : decode cX7_session 173 = .ok (.getfield 7, 3) := by decide +kernel
theorem dX7_session_176 : decode cX7_session 176 = .ok (.sipush 152, 3) := by decide +kernel
theorem dX7_session_179 : decode cX7_session 179 = .ok (.dup2, 1) := by decide +kernel
theorem dX7_session_180 : decode cX7_session 180 = .ok (.iaload, 1) := by decide +kernel
theorem dX7_session_181 : decode cX7_session 181 = .ok (.iload_n 1, 1) := by decide +kernel
theorem dX7_session_182 : decode cX7_session 182 = .ok (.ifCond .eq 7, 3) := by decide +kernel
theorem dX7_session_185 : decode cX7_session 185 = .ok (.iconst 1, 1) := by decide +kernel
theorem dX7_session_186 : decode cX7_session 186 = .ok (.goto 4, 3) := by decide +kernel
theorem dX7_session_189 : decode cX7_session 189 = .ok (.iconst 0, 1) := by decide +kernel
theorem dX7_session_190 : decode cX7_session 190 = .ok (.iadd, 1) := by decide +kernel
theorem dX7_session_191 : decode cX7_session 191 = .ok (.iastore, 1) := by decide +kernel
theorem dX7_session_192 : decode cX7_session 192 = .ok (.aload_n 0, 1) := by decide +kernel
theorem dX7_session_193 : decode cX7_session 193 = .ok (.getfield 7, 3) := by decide +kernel
theorem dX7_session_196 : decode cX7_session 196 = .ok (.sipush 150, 3) := by decide +kernel
theorem dX7_session_199 : decode cX7_session 199 = .ok (.aload_n 0, 1) := by decide +kernel
theorem dX7_session_200 : decode cX7_session 200 = .ok (.getfield 7, 3) := by decide +kernel
theorem dX7_session_203 : decode cX7_session 203 = .ok (.sipush 150, 3) := by decide +kernel
theorem dX7_session_206 : decode cX7_session 206 = .ok (.iaload, 1) := by decide +kernel
theorem dX7_session_207 : decode cX7_session 207 = .ok (.iconst 1, 1) := by decide +kernel
theorem dX7_session_208 : decode cX7_session 208 = .ok (.iadd, 1) := by decide +kernel
theorem dX7_session_209 : decode cX7_session 209 = .ok (.aload_n 0, 1) := by decide +kernel
theorem dX7_session_210 : decode cX7_session 210 = .ok (.getfield 7, 3) := by decide +kernel
theorem dX7_session_213 : decode cX7_session 213 = .ok (.sipush 148, 3) := by decide +kernel
theorem dX7_session_216 : decode cX7_session 216 = .ok (.iaload, 1) := by decide +kernel
theorem dX7_session_217 : decode cX7_session 217 = .ok (.irem, 1) := by decide +kernel
theorem dX7_session_218 : decode cX7_session 218 = .ok (.iastore, 1) := by decide +kernel
theorem dX7_session_219 : decode cX7_session 219 = .ok (.iconst 0, 1) := by decide +kernel
theorem dX7_session_220 : decode cX7_session 220 = .ok (.istore_n 3, 1) := by decide +kernel
theorem dX7_session_221 : decode cX7_session 221 = .ok (.iload_n 3, 1) := by decide +kernel
theorem dX7_session_222 : decode cX7_session 222 = .ok (.aload_n 0, 1) := by decide +kernel
theorem dX7_session_223 : decode cX7_session 223 = .ok (.getfield 7, 3) := by decide +kernel
theorem dX7_session_226 : decode cX7_session 226 = .ok (.sipush 148, 3) := by decide +kernel
theorem dX7_session_229 : decode cX7_session 229 = .ok (.iaload, 1) := by decide +kernel
theorem dX7_session_230 : decode cX7_session 230 = .ok (.if_icmp .ge 20, 3) := by decide +kernel
theorem dX7_session_233 : decode cX7_session 233 = .ok (.aload_n 0, 1) := by decide +kernel
theorem dX7_session_234 : decode cX7_session 234 = .ok (.getfield 7, 3) := by decide +kernel
theorem dX7_session_237 : decode cX7_session 237 = .ok (.iconst 3, 1) := by decide +kernel
theorem dX7_session_238 : decode cX7_session 238 = .ok (.iload_n 3, 1) := by decide +kernel
theorem dX7_session_239 : decode cX7_session 239 = .ok (.imul, 1) := by decide +kernel
theorem dX7_session_240 : decode cX7_session 240 = .ok (.iconst 2, 1) := by decide +kernel
theorem dX7_session_241 : decode cX7_session 241 = .ok (.iadd, 1) := by decide +kernel
theorem dX7_session_242 : decode cX7_session 242 = .ok (.iconst 0, 1) := by decide +kernel
theorem dX7_session_243 : decode cX7_session 243 = .ok (.iastore, 1) := by decide +kernel
theorem dX7_session_244 : decode cX7_session 244 = .ok (.iinc 3 1, 3) := by decide +kernel
theorem dX7_session_247 : decode cX7_session 247 = .ok (.goto (-26), 3) := by decide +kernel
theorem dX7_session_250 : decode cX7_session 250 = .ok (.iload_n 1, 1) := by decide +kernel
theorem dX7_session_251 : decode cX7_session 251 = .ok (.ifCond .eq 7, 3) := by decide +kernel
theorem dX7_session_254 : decode cX7_session 254 = .ok (.iconst 1, 1) := by decide +kernel
theorem dX7_session_255 : decode cX7_session 255 = .ok (.goto 4, 3) := by decide +kernel
theorem dX7_session_258 : decode cX7_session 258 = .ok (.iconst 0, 1) := by decide +kernel
theorem dX7_session_259 : decode cX7_session 259 = .ok (.ireturn, 1) := by decide +kernel
theorem dX7_set_0 : decode cX7_set 0 = .ok (.iload_n 1, 1) := by decide +kernel
theorem dX7_set_1 : decode cX7_set 1 = .ok (.ifCond .ne 13, 3) := by decide +kernel
theorem dX7_set_4 : decode cX7_set 4 = .ok (.iload_n 2, 1) := by decide +kernel
theorem dX7_set_5 : decode cX7_set 5 = .ok (.iconst 0, 1) := by decide +kernel
theorem dX7_set_6 : decode cX7_set 6 = .ok (.bipush 12, 2) := by decide +kernel
theorem dX7_set_8 : decode cX7_set 8 = .ok (.invokestatic 45, 3) := by decide +kernel
theorem dX7_set_11 : decode cX7_set 11 = .ok (.ifCond .ne 6, 3) := by decide +kernel
theorem dX7_set_14 : decode cX7_set 14 = .ok (.ldc 96, 2) := by decide +kernel
theorem dX7_set_16 : decode cX7_set 16 = .ok (.ireturn, 1) := by decide +kernel
theorem dX7_set_17 : decode cX7_set 17 = .ok (.aload_n 0, 1) := by decide +kernel
theorem dX7_set_18 : decode cX7_set 18 = .ok (.invokevirtual 98, 3) := by decide +kernel
theorem dX7_set_21 : decode cX7_set 21 = .ok (.aload_n 0, 1) := by decide +kernel
theorem dX7_set_22 : decode cX7_set 22 = .ok (.getfield 7, 3) := by decide +kernel
theorem dX7_set_25 : decode cX7_set 25 = .ok (.sipush 155, 3) := by decide +kernel
theorem dX7_set_28 : decode cX7_set 28 = .ok (.iaload, 1) := by decide +kernel
theorem dX7_set_29 : decode cX7_set 29 = .ok (.istore_n 3, 1) := by decide +kernel
theorem dX7_set_30 : decode cX7_set 30 = .ok (.aload_n 0, 1) := by decide +kernel
theorem dX7_set_31 : decode cX7_set 31 = .ok (.getfield 7, 3) := by decide +kernel
theorem dX7_set_34 : decode cX7_set 34 = .ok (.sipush 155, 3) := by decide +kernel
theorem dX7_set_37 : decode cX7_set 37 = .ok (.iload_n 2, 1) := by decide +kernel
theorem dX7_set_38 : decode cX7_set 38 = .ok (.iastore, 1) := by decide +kernel
theorem dX7_set_39 : decode cX7_set 39 = .ok (.iload_n 3, 1) := by decide +kernel
theorem dX7_set_40 : decode cX7_set 40 = .ok (.ireturn, 1) := by decide +kernel
theorem dX7_tiesOf_0 : decode cX7_tiesOf 0 = .ok (.iconst 0, 1) := by decide +kernel
theorem dX7_tiesOf_1 : decode cX7_tiesOf 1 = .ok (.istore_n 2, 1) := by decide +kernel
theorem dX7_tiesOf_2 : decode cX7_tiesOf 2 = .ok (.iconst 0, 1) := by decide +kernel
theorem dX7_tiesOf_3 : decode cX7_tiesOf 3 = .ok (.istore_n 3, 1) := by decide +kernel
theorem dX7_tiesOf_4 : decode cX7_tiesOf 4 = .ok (.iload_n 3, 1) := by decide +kernel
theorem dX7_tiesOf_5 : decode cX7_tiesOf 5 = .ok (.aload_n 0, 1) := by decide +kernel
theorem dX7_tiesOf_6 : decode cX7_tiesOf 6 = .ok (.getfield 7, 3) := by decide +kernel
theorem dX7_tiesOf_9 : decode cX7_tiesOf 9 = .ok (.sipush 149, 3) := by decide +kernel
theorem dX7_tiesOf_12 : decode cX7_tiesOf 12 = .ok (.iaload, 1) := by decide +kernel
theorem dX7_tiesOf_13 : decode cX7_tiesOf 13 = .ok (.if_icmp .ge 37, 3) := by decide +kernel
theorem dX7_tiesOf_16 : decode cX7_tiesOf 16 = .ok (.iload_n 2, 1) := by decide +kernel
theorem dX7_tiesOf_17 : decode cX7_tiesOf 17 = .ok (.aload_n 0, 1) := by decide +kernel
theorem dX7_tiesOf_18 : decode cX7_tiesOf 18 = .ok (.iload_n 3, 1) := by decide +kernel
theorem dX7_tiesOf_19 : decode cX7_tiesOf 19 = .ok (.iconst 0, 1) := by decide +kernel
theorem dX7_tiesOf_20 : decode cX7_tiesOf 20 = .ok (.invokevirtual 53, 3) := by decide +kernel
theorem dX7_tiesOf_23 : decode cX7_tiesOf 23 = .ok (.iload_n 1, 1) := by decide +kernel
theorem dX7_tiesOf_24 : decode cX7_tiesOf 24 = .ok (.if_icmp .eq 13, 3) := by decide +kernel
theorem dX7_tiesOf_27 : decode cX7_tiesOf 27 = .ok (.aload_n 0, 1) := by decide +kernel
theorem dX7_tiesOf_28 : decode cX7_tiesOf 28 = .ok (.iload_n 3, 1) := by decide +kernel
theorem dX7_tiesOf_29 : decode cX7_tiesOf 29 = .ok (.iconst 1, 1) := by decide +kernel
theorem dX7_tiesOf_30 : decode cX7_tiesOf 30 = .ok (.invokevirtual 53, 3) := by decide +kernel
theorem dX7_tiesOf_33 : decode cX7_tiesOf 33 = .ok (.iload_n 1, 1) := by decide +kernel
theorem dX7_tiesOf_34 : decode cX7_tiesOf 34 = .ok (.if_icmp .ne 7, 3) := by decide +kernel
theorem dX7_tiesOf_37 : decode cX7_tiesOf 37 = .ok (.iconst 1, 1) := by decide +kernel
theorem dX7_tiesOf_38 : decode cX7_tiesOf 38 = .ok (.goto 4, 3) := by decide +kernel
theorem dX7_tiesOf_41 : decode cX7_tiesOf 41 = .ok (.iconst 0, 1) := by decide +kernel
theorem dX7_tiesOf_42 : decode cX7_tiesOf 42 = .ok (.iadd, 1) := by decide +kernel
theorem dX7_tiesOf_43 : decode cX7_tiesOf 43 = .ok (.istore_n 2, 1) := by decide +kernel
theorem dX7_tiesOf_44 : decode cX7_tiesOf 44 = .ok (.iinc 3 1, 3) := by decide +kernel
theorem dX7_tiesOf_47 : decode cX7_tiesOf 47 = .ok (.goto (-43), 3) := by decide +kernel
theorem dX7_tiesOf_50 : decode cX7_tiesOf 50 = .ok (.iload_n 2, 1) := by decide +kernel
theorem dX7_tiesOf_51 : decode cX7_tiesOf 51 = .ok (.ireturn, 1) := by decide +kernel
theorem dX7_groupOf_0 : decode cX7_groupOf 0 = .ok (.iconst 0, 1) := by decide +kernel
theorem dX7_groupOf_1 : decode cX7_groupOf 1 = .ok (.istore_n 2, 1) := by decide +kernel
theorem dX7_groupOf_2 : decode cX7_groupOf 2 = .ok (.iconst 0, 1) := by decide +kernel
theorem dX7_groupOf_3 : decode cX7_groupOf 3 = .ok (.istore_n 3, 1) := by decide +kernel
theorem dX7_groupOf_4 : decode cX7_groupOf 4 = .ok (.iload_n 3, 1) := by decide +kernel
theorem dX7_groupOf_5 : decode cX7_groupOf 5 = .ok (.aload_n 0, 1) := by decide +kernel
theorem dX7_groupOf_6 : decode cX7_groupOf 6 = .ok (.getfield 7, 3) := by decide +kernel
theorem dX7_groupOf_9 : decode cX7_groupOf 9 = .ok (.sipush 148, 3) := by decide +kernel
theorem dX7_groupOf_12 : decode cX7_groupOf 12 = .ok (.iaload, 1) := by decide +kernel
theorem dX7_groupOf_13 : decode cX7_groupOf 13 = .ok (.if_icmp .ge 34, 3) := by decide +kernel
theorem dX7_groupOf_16 : decode cX7_groupOf 16 = .ok (.iload_n 2, 1) := by decide +kernel
theorem dX7_groupOf_17 : decode cX7_groupOf 17 = .ok (.aload_n 0, 1) := by decide +kernel
theorem dX7_groupOf_18 : decode cX7_groupOf 18 = .ok (.getfield 22, 3) := by decide +kernel
theorem dX7_groupOf_21 : decode cX7_groupOf 21 = .ok (.iload_n 3, 1) := by decide +kernel
theorem dX7_groupOf_22 : decode cX7_groupOf 22 = .ok (.iaload, 1) := by decide +kernel
theorem dX7_groupOf_23 : decode cX7_groupOf 23 = .ok (.aload_n 0, 1) := by decide +kernel
theorem dX7_groupOf_24 : decode cX7_groupOf 24 = .ok (.getfield 22, 3) := by decide +kernel
theorem dX7_groupOf_27 : decode cX7_groupOf 27 = .ok (.iload_n 1, 1) := by decide +kernel
theorem dX7_groupOf_28 : decode cX7_groupOf 28 = .ok (.iaload, 1) := by decide +kernel
theorem dX7_groupOf_29 : decode cX7_groupOf 29 = .ok (.if_icmp .ne 9, 3) := by decide +kernel
theorem dX7_groupOf_32 : decode cX7_groupOf 32 = .ok (.iconst 1, 1) := by decide +kernel
theorem dX7_groupOf_33 : decode cX7_groupOf 33 = .ok (.iload_n 3, 1) := by decide +kernel
theorem dX7_groupOf_34 : decode cX7_groupOf 34 = .ok (.ishl, 1) := by decide +kernel
theorem dX7_groupOf_35 : decode cX7_groupOf 35 = .ok (.goto 4, 3) := by decide +kernel
theorem dX7_groupOf_38 : decode cX7_groupOf 38 = .ok (.iconst 0, 1) := by decide +kernel
theorem dX7_groupOf_39 : decode cX7_groupOf 39 = .ok (.ior, 1) := by decide +kernel
theorem dX7_groupOf_40 : decode cX7_groupOf 40 = .ok (.istore_n 2, 1) := by decide +kernel
theorem dX7_groupOf_41 : decode cX7_groupOf 41 = .ok (.iinc 3 1, 3) := by decide +kernel
theorem dX7_groupOf_44 : decode cX7_groupOf 44 = .ok (.goto (-40), 3) := by decide +kernel
theorem dX7_groupOf_47 : decode cX7_groupOf 47 = .ok (.iload_n 2, 1) := by decide +kernel
theorem dX7_groupOf_48 : decode cX7_groupOf 48 = .ok (.ireturn, 1) := by decide +kernel
theorem dX7_groupSeats_0 : decode cX7_groupSeats 0 = .ok (.iconst 0, 1) := by decide +kernel
theorem dX7_groupSeats_1 : decode cX7_groupSeats 1 = .ok (.istore_n 2, 1) := by decide +kernel
theorem dX7_groupSeats_2 : decode cX7_groupSeats 2 = .ok (.iconst 0, 1) := by decide +kernel
theorem dX7_groupSeats_3 : decode cX7_groupSeats 3 = .ok (.istore_n 3, 1) := by decide +kernel
theorem dX7_groupSeats_4 : decode cX7_groupSeats 4 = .ok (.iload_n 3, 1) := by decide +kernel
theorem dX7_groupSeats_5 : decode cX7_groupSeats 5 = .ok (.aload_n 0, 1) := by decide +kernel
theorem dX7_groupSeats_6 : decode cX7_groupSeats 6 = .ok (.getfield 7, 3) := by decide +kernel
theorem dX7_groupSeats_9 : decode cX7_groupSeats 9 = .ok (.sipush 148, 3) := by decide +kernel
theorem dX7_groupSeats_12 : decode cX7_groupSeats 12 = .ok (.iaload, 1) := by decide +kernel
theorem dX7_groupSeats_13 : decode cX7_groupSeats 13 = .ok (.if_icmp .ge 37, 3) := by decide +kernel
theorem dX7_groupSeats_16 : decode cX7_groupSeats 16 = .ok (.iload_n 2, 1) := by decide +kernel
theorem dX7_groupSeats_17 : decode cX7_groupSeats 17 = .ok (.aload_n 0, 1) := by decide +kernel
theorem dX7_groupSeats_18 : decode cX7_groupSeats 18 = .ok (.getfield 22, 3) := by decide +kernel
theorem dX7_groupSeats_21 : decode cX7_groupSeats 21 = .ok (.iload_n 3, 1) := by decide +kernel
theorem dX7_groupSeats_22 : decode cX7_groupSeats 22 = .ok (.iaload, 1) := by decide +kernel
theorem dX7_groupSeats_23 : decode cX7_groupSeats 23 = .ok (.aload_n 0, 1) := by decide +kernel
theorem dX7_groupSeats_24 : decode cX7_groupSeats 24 = .ok (.getfield 22, 3) := by decide +kernel
theorem dX7_groupSeats_27 : decode cX7_groupSeats 27 = .ok (.iload_n 1, 1) := by decide +kernel
theorem dX7_groupSeats_28 : decode cX7_groupSeats 28 = .ok (.iaload, 1) := by decide +kernel
theorem dX7_groupSeats_29 : decode cX7_groupSeats 29 = .ok (.if_icmp .ne 12, 3) := by decide +kernel
theorem dX7_groupSeats_32 : decode cX7_groupSeats 32 = .ok (.aload_n 0, 1) := by decide +kernel
theorem dX7_groupSeats_33 : decode cX7_groupSeats 33 = .ok (.iload_n 3, 1) := by decide +kernel
theorem dX7_groupSeats_34 : decode cX7_groupSeats 34 = .ok (.iconst 0, 1) := by decide +kernel
theorem dX7_groupSeats_35 : decode cX7_groupSeats 35 = .ok (.invokevirtual 61, 3) := by decide +kernel
theorem dX7_groupSeats_38 : decode cX7_groupSeats 38 = .ok (.goto 4, 3) := by decide +kernel
theorem dX7_groupSeats_41 : decode cX7_groupSeats 41 = .ok (.iconst 0, 1) := by decide +kernel
theorem dX7_groupSeats_42 : decode cX7_groupSeats 42 = .ok (.iadd, 1) := by decide +kernel
theorem dX7_groupSeats_43 : decode cX7_groupSeats 43 = .ok (.istore_n 2, 1) := by decide +kernel
theorem dX7_groupSeats_44 : decode cX7_groupSeats 44 = .ok (.iinc 3 1, 3) := by decide +kernel
theorem dX7_groupSeats_47 : decode cX7_groupSeats 47 = .ok (.goto (-43), 3) := by decide +kernel
theorem dX7_groupSeats_50 : decode cX7_groupSeats 50 = .ok (.iload_n 2, 1) := by decide +kernel
theorem dX7_groupSeats_51 : decode cX7_groupSeats 51 = .ok (.ireturn, 1) := by decide +kernel
theorem dX7_puppetOf_0 : decode cX7_puppetOf 0 = .ok (.aload_n 0, 1) := by decide +kernel
theorem dX7_puppetOf_1 : decode cX7_puppetOf 1 = .ok (.iload_n 1, 1) := by decide +kernel
theorem dX7_puppetOf_2 : decode cX7_puppetOf 2 = .ok (.invokevirtual 49, 3) := by decide +kernel
theorem dX7_puppetOf_5 : decode cX7_puppetOf 5 = .ok (.ifCond .eq 13, 3) := by decide +kernel
theorem dX7_puppetOf_8 : decode cX7_puppetOf 8 = .ok (.iload_n 2, 1) := by decide +kernel
theorem dX7_puppetOf_9 : decode cX7_puppetOf 9 = .ok (.iconst 0, 1) := by decide +kernel
theorem dX7_puppetOf_10 : decode cX7_puppetOf 10 = .ok (.bipush 8, 2) := by decide +kernel
theorem dX7_puppetOf_12 : decode cX7_puppetOf 12 = .ok (.invokestatic 45, 3) := by decide +kernel
theorem dX7_puppetOf_15 : decode cX7_puppetOf 15 = .ok (.ifCond .ne 6, 3) := by decide +kernel
theorem dX7_puppetOf_18 : decode cX7_puppetOf 18 = .ok (.ldc 96, 2) := by decide +kernel
theorem dX7_puppetOf_20 : decode cX7_puppetOf 20 = .ok (.ireturn, 1) := by decide +kernel
theorem dX7_puppetOf_21 : decode cX7_puppetOf 21 = .ok (.aload_n 0, 1) := by decide +kernel
theorem dX7_puppetOf_22 : decode cX7_puppetOf 22 = .ok (.invokevirtual 79, 3) := by decide +kernel
theorem dX7_puppetOf_25 : decode cX7_puppetOf 25 = .ok (.ifCond .ge 6, 3) := by decide +kernel
theorem dX7_puppetOf_28 : decode cX7_puppetOf 28 = .ok (.ldc 60, 2) := by decide +kernel
theorem dX7_puppetOf_30 : decode cX7_puppetOf 30 = .ok (.ireturn, 1) := by decide +kernel
theorem dX7_puppetOf_31 : decode cX7_puppetOf 31 = .ok (.iload_n 2, 1) := by decide +kernel
theorem dX7_puppetOf_32 : decode cX7_puppetOf 32 = .ok (.tableswitch 106 2 8 #[44, 67, 74, 81, 88, 94, 100], 44) := by decide +kernel
theorem dX7_puppetOf_76 : decode cX7_puppetOf 76 = .ok (.aload_n 0, 1) := by decide +kernel
theorem dX7_puppetOf_77 : decode cX7_puppetOf 77 = .ok (.iload_n 1, 1) := by decide +kernel
theorem dX7_puppetOf_78 : decode cX7_puppetOf 78 = .ok (.iconst 2, 1) := by decide +kernel
theorem dX7_puppetOf_79 : decode cX7_puppetOf 79 = .ok (.invokevirtual 61, 3) := by decide +kernel
theorem dX7_puppetOf_82 : decode cX7_puppetOf 82 = .ok (.ifCond .le 14, 3) := by decide +kernel
theorem dX7_puppetOf_85 : decode cX7_puppetOf 85 = .ok (.aload_n 0, 1) := by decide +kernel
theorem dX7_puppetOf_86 : decode cX7_puppetOf 86 = .ok (.iload_n 1, 1) := by decide +kernel
theorem dX7_puppetOf_87 : decode cX7_puppetOf 87 = .ok (.iconst 2, 1) := by decide +kernel
theorem dX7_puppetOf_88 : decode cX7_puppetOf 88 = .ok (.invokevirtual 61, 3) := by decide +kernel
theorem dX7_puppetOf_91 : decode cX7_puppetOf 91 = .ok (.iconst 1, 1) := by decide +kernel
theorem dX7_puppetOf_92 : decode cX7_puppetOf 92 = .ok (.isub, 1) := by decide +kernel
theorem dX7_puppetOf_93 : decode cX7_puppetOf 93 = .ok (.goto 5, 3) := by decide +kernel
theorem dX7_puppetOf_96 : decode cX7_puppetOf 96 = .ok (.ldc 60, 2) := by decide +kernel
theorem dX7_puppetOf_98 : decode cX7_puppetOf 98 = .ok (.ireturn, 1) := by decide +kernel
theorem dX7_puppetOf_99 : decode cX7_puppetOf 99 = .ok (.aload_n 0, 1) := by decide +kernel
theorem dX7_puppetOf_100 : decode cX7_puppetOf 100 = .ok (.getfield 28, 3) := by decide +kernel
theorem dX7_puppetOf_103 : decode cX7_puppetOf 103 = .ok (.iload_n 1, 1) := by decide +kernel
theorem dX7_puppetOf_104 : decode cX7_puppetOf 104 = .ok (.iaload, 1) := by decide +kernel
theorem dX7_puppetOf_105 : decode cX7_puppetOf 105 = .ok (.ireturn, 1) := by decide +kernel
theorem dX7_puppetOf_106 : decode cX7_puppetOf 106 = .ok (.aload_n 0, 1) := by decide +kernel
theorem dX7_puppetOf_107 : decode cX7_puppetOf 107 = .ok (.getfield 22, 3) := by decide +kernel
theorem dX7_puppetOf_110 : decode cX7_puppetOf 110 = .ok (.iload_n 1, 1) := by decide +kernel
theorem dX7_puppetOf_111 : decode cX7_puppetOf 111 = .ok (.iaload, 1) := by decide +kernel
theorem dX7_puppetOf_112 : decode cX7_puppetOf 112 = .ok (.ireturn, 1) := by decide +kernel
theorem dX7_puppetOf_113 : decode cX7_puppetOf 113 = .ok (.aload_n 0, 1) := by decide +kernel
theorem dX7_puppetOf_114 : decode cX7_puppetOf 114 = .ok (.getfield 25, 3) := by decide +kernel
theorem dX7_puppetOf_117 : decode cX7_puppetOf 117 = .ok (.iload_n 1, 1) := by decide +kernel
theorem dX7_puppetOf_118 : decode cX7_puppetOf 118 = .ok (.iaload, 1) := by decide +kernel
theorem dX7_puppetOf_119 : decode cX7_puppetOf 119 = .ok (.ireturn, 1) := by decide +kernel
theorem dX7_puppetOf_120 : decode cX7_puppetOf 120 = .ok (.aload_n 0, 1) := by decide +kernel
theorem dX7_puppetOf_121 : decode cX7_puppetOf 121 = .ok (.iload_n 1, 1) := by decide +kernel
theorem dX7_puppetOf_122 : decode cX7_puppetOf 122 = .ok (.invokevirtual 121, 3) := by decide +kernel
theorem dX7_puppetOf_125 : decode cX7_puppetOf 125 = .ok (.ireturn, 1) := by decide +kernel
theorem dX7_puppetOf_126 : decode cX7_puppetOf 126 = .ok (.aload_n 0, 1) := by decide +kernel
theorem dX7_puppetOf_127 : decode cX7_puppetOf 127 = .ok (.iload_n 1, 1) := by decide +kernel
theorem dX7_puppetOf_128 : decode cX7_puppetOf 128 = .ok (.invokevirtual 124, 3) := by decide +kernel
theorem dX7_puppetOf_131 : decode cX7_puppetOf 131 = .ok (.ireturn, 1) := by decide +kernel
theorem dX7_puppetOf_132 : decode cX7_puppetOf 132 = .ok (.aload_n 0, 1) := by decide +kernel
theorem dX7_puppetOf_133 : decode cX7_puppetOf 133 = .ok (.iload_n 1, 1) := by decide +kernel
theorem dX7_puppetOf_134 : decode cX7_puppetOf 134 = .ok (.invokevirtual 127, 3) := by decide +kernel
theorem dX7_puppetOf_137 : decode cX7_puppetOf 137 = .ok (.ireturn, 1) := by decide +kernel
theorem dX7_puppetOf_138 : decode cX7_puppetOf 138 = .ok (.aload_n 0, 1) := by decide +kernel
theorem dX7_puppetOf_139 : decode cX7_puppetOf 139 = .ok (.iload_n 1, 1) := by decide +kernel
theorem dX7_puppetOf_140 : decode cX7_puppetOf 140 = .ok (.iload_n 2, 1) := by decide +kernel
theorem dX7_puppetOf_141 : decode cX7_puppetOf 141 = .ok (.invokevirtual 61, 3) := by decide +kernel
theorem dX7_puppetOf_144 : decode cX7_puppetOf 144 = .ok (.ireturn, 1) := by decide +kernel
theorem dX7_stringOf_0 : decode cX7_stringOf 0 = .ok (.aload_n 0, 1) := by decide +kernel
theorem dX7_stringOf_1 : decode cX7_stringOf 1 = .ok (.iload_n 1, 1) := by decide +kernel
theorem dX7_stringOf_2 : decode cX7_stringOf 2 = .ok (.invokevirtual 102, 3) := by decide +kernel
theorem dX7_stringOf_5 : decode cX7_stringOf 5 = .ok (.ifCond .eq 12, 3) := by decide +kernel
theorem dX7_stringOf_8 : decode cX7_stringOf 8 = .ok (.iload_n 2, 1) := by decide +kernel
theorem dX7_stringOf_9 : decode cX7_stringOf 9 = .ok (.iconst 0, 1) := by decide +kernel
theorem dX7_stringOf_10 : decode cX7_stringOf 10 = .ok (.iconst 4, 1) := by decide +kernel
theorem dX7_stringOf_11 : decode cX7_stringOf 11 = .ok (.invokestatic 45, 3) := by decide +kernel
theorem dX7_stringOf_14 : decode cX7_stringOf 14 = .ok (.ifCond .ne 6, 3) := by decide +kernel
theorem dX7_stringOf_17 : decode cX7_stringOf 17 = .ok (.ldc 96, 2) := by decide +kernel
theorem dX7_stringOf_19 : decode cX7_stringOf 19 = .ok (.ireturn, 1) := by decide +kernel
theorem dX7_stringOf_20 : decode cX7_stringOf 20 = .ok (.iload_n 2, 1) := by decide +kernel
theorem dX7_stringOf_21 : decode cX7_stringOf 21 = .ok (.iconst 4, 1) := by decide +kernel
theorem dX7_stringOf_22 : decode cX7_stringOf 22 = .ok (.if_icmp .ge 10, 3) := by decide +kernel
theorem dX7_stringOf_25 : decode cX7_stringOf 25 = .ok (.aload_n 0, 1) := by decide +kernel
theorem dX7_stringOf_26 : decode cX7_stringOf 26 = .ok (.iload_n 1, 1) := by decide +kernel
theorem dX7_stringOf_27 : decode cX7_stringOf 27 = .ok (.iload_n 2, 1) := by decide +kernel
theorem dX7_stringOf_28 : decode cX7_stringOf 28 = .ok (.invokevirtual 53, 3) := by decide +kernel
theorem dX7_stringOf_31 : decode cX7_stringOf 31 = .ok (.ireturn, 1) := by decide +kernel
theorem dX7_stringOf_32 : decode cX7_stringOf 32 = .ok (.aload_n 0, 1) := by decide +kernel
theorem dX7_stringOf_33 : decode cX7_stringOf 33 = .ok (.iload_n 1, 1) := by decide +kernel
theorem dX7_stringOf_34 : decode cX7_stringOf 34 = .ok (.invokevirtual 71, 3) := by decide +kernel
theorem dX7_stringOf_37 : decode cX7_stringOf 37 = .ok (.aload_n 0, 1) := by decide +kernel
theorem dX7_stringOf_38 : decode cX7_stringOf 38 = .ok (.getfield 22, 3) := by decide +kernel
theorem dX7_stringOf_41 : decode cX7_stringOf 41 = .ok (.aload_n 0, 1) := by decide +kernel
theorem dX7_stringOf_42 : decode cX7_stringOf 42 = .ok (.iload_n 1, 1) := by decide +kernel
theorem dX7_stringOf_43 : decode cX7_stringOf 43 = .ok (.iconst 0, 1) := by decide +kernel
theorem dX7_stringOf_44 : decode cX7_stringOf 44 = .ok (.invokevirtual 53, 3) := by decide +kernel
theorem dX7_stringOf_47 : decode cX7_stringOf 47 = .ok (.iaload, 1) := by decide +kernel
theorem dX7_stringOf_48 : decode cX7_stringOf 48 = .ok (.aload_n 0, 1) := by decide +kernel
theorem dX7_stringOf_49 : decode cX7_stringOf 49 = .ok (.getfield 22, 3) := by decide +kernel
theorem dX7_stringOf_52 : decode cX7_stringOf 52 = .ok (.aload_n 0, 1) := by decide +kernel
theorem dX7_stringOf_53 : decode cX7_stringOf 53 = .ok (.iload_n 1, 1) := by decide +kernel
theorem dX7_stringOf_54 : decode cX7_stringOf 54 = .ok (.iconst 1, 1) := by decide +kernel
theorem dX7_stringOf_55 : decode cX7_stringOf 55 = .ok (.invokevirtual 53, 3) := by decide +kernel
theorem dX7_stringOf_58 : decode cX7_stringOf 58 = .ok (.iaload, 1) := by decide +kernel
theorem dX7_stringOf_59 : decode cX7_stringOf 59 = .ok (.if_icmp .ne 7, 3) := by decide +kernel
theorem dX7_stringOf_62 : decode cX7_stringOf 62 = .ok (.iconst 1, 1) := by decide +kernel
theorem dX7_stringOf_63 : decode cX7_stringOf 63 = .ok (.goto 4, 3) := by decide +kernel
theorem dX7_stringOf_66 : decode cX7_stringOf 66 = .ok (.iconst 0, 1) := by decide +kernel
theorem dX7_stringOf_67 : decode cX7_stringOf 67 = .ok (.ireturn, 1) := by decide +kernel
theorem dX7_reached_0 : decode cX7_reached 0 = .ok (.iload_n 1, 1) := by decide +kernel
theorem dX7_reached_1 : decode cX7_reached 1 = .ok (.istore_n 2, 1) := by decide +kernel
theorem dX7_reached_2 : decode cX7_reached 2 = .ok (.iconst 0, 1) := by decide +kernel
theorem dX7_reached_3 : decode cX7_reached 3 = .ok (.istore_n 3, 1) := by decide +kernel
theorem dX7_reached_4 : decode cX7_reached 4 = .ok (.iload_n 3, 1) := by decide +kernel
theorem dX7_reached_5 : decode cX7_reached 5 = .ok (.aload_n 0, 1) := by decide +kernel
theorem dX7_reached_6 : decode cX7_reached 6 = .ok (.getfield 7, 3) := by decide +kernel
theorem dX7_reached_9 : decode cX7_reached 9 = .ok (.sipush 149, 3) := by decide +kernel
theorem dX7_reached_12 : decode cX7_reached 12 = .ok (.iaload, 1) := by decide +kernel
theorem dX7_reached_13 : decode cX7_reached 13 = .ok (.if_icmp .ge 44, 3) := by decide +kernel
theorem dX7_reached_16 : decode cX7_reached 16 = .ok (.iconst 1, 1) := by decide +kernel
theorem dX7_reached_17 : decode cX7_reached 17 = .ok (.aload_n 0, 1) := by decide +kernel
theorem dX7_reached_18 : decode cX7_reached 18 = .ok (.iload_n 3, 1) := by decide +kernel
theorem dX7_reached_19 : decode cX7_reached 19 = .ok (.iconst 0, 1) := by decide +kernel
theorem dX7_reached_20 : decode cX7_reached 20 = .ok (.invokevirtual 53, 3) := by decide +kernel
theorem dX7_reached_23 : decode cX7_reached 23 = .ok (.ishl, 1) := by decide +kernel
theorem dX7_reached_24 : decode cX7_reached 24 = .ok (.iconst 1, 1) := by decide +kernel
theorem dX7_reached_25 : decode cX7_reached 25 = .ok (.aload_n 0, 1) := by decide +kernel
theorem dX7_reached_26 : decode cX7_reached 26 = .ok (.iload_n 3, 1) := by decide +kernel
theorem dX7_reached_27 : decode cX7_reached 27 = .ok (.iconst 1, 1) := by decide +kernel
theorem dX7_reached_28 : decode cX7_reached 28 = .ok (.invokevirtual 53, 3) := by decide +kernel
theorem dX7_reached_31 : decode cX7_reached 31 = .ok (.ishl, 1) := by decide +kernel
theorem dX7_reached_32 : decode cX7_reached 32 = .ok (.ior, 1) := by decide +kernel
theorem dX7_reached_33 : decode cX7_reached 33 = .ok (.istore 4, 2) := by decide +kernel
theorem dX7_reached_35 : decode cX7_reached 35 = .ok (.iload_n 2, 1) := by decide +kernel
theorem dX7_reached_36 : decode cX7_reached 36 = .ok (.iload_n 1, 1) := by decide +kernel
theorem dX7_reached_37 : decode cX7_reached 37 = .ok (.iload 4, 2) := by decide +kernel
theorem dX7_reached_39 : decode cX7_reached 39 = .ok (.iand, 1) := by decide +kernel
theorem dX7_reached_40 : decode cX7_reached 40 = .ok (.ifCond .eq 8, 3) := by decide +kernel
theorem dX7_reached_43 : decode cX7_reached 43 = .ok (.iload 4, 2) := by decide +kernel
theorem dX7_reached_45 : decode cX7_reached 45 = .ok (.goto 4, 3) := by decide +kernel
theorem dX7_reached_48 : decode cX7_reached 48 = .ok (.iconst 0, 1) := by decide +kernel
theorem dX7_reached_49 : decode cX7_reached 49 = .ok (.ior, 1) := by decide +kernel
theorem dX7_reached_50 : decode cX7_reached 50 = .ok (.istore_n 2, 1) := by decide +kernel
theorem dX7_reached_51 : decode cX7_reached 51 = .ok (.iinc 3 1, 3) := by decide +kernel
theorem dX7_reached_54 : decode cX7_reached 54 = .ok (.goto (-50), 3) := by decide +kernel
theorem dX7_reached_57 : decode cX7_reached 57 = .ok (.iload_n 2, 1) := by decide +kernel
theorem dX7_reached_58 : decode cX7_reached 58 = .ok (.ireturn, 1) := by decide +kernel
theorem dX7_between_0 : decode cX7_between 0 = .ok (.aload_n 0, 1) := by decide +kernel
theorem dX7_between_1 : decode cX7_between 1 = .ok (.iload_n 1, 1) := by decide +kernel
theorem dX7_between_2 : decode cX7_between 2 = .ok (.invokevirtual 49, 3) := by decide +kernel
theorem dX7_between_5 : decode cX7_between 5 = .ok (.ifCond .eq 11, 3) := by decide +kernel
theorem dX7_between_8 : decode cX7_between 8 = .ok (.aload_n 0, 1) := by decide +kernel
theorem dX7_between_9 : decode cX7_between 9 = .ok (.iload_n 2, 1) := by decide +kernel
theorem dX7_between_10 : decode cX7_between 10 = .ok (.invokevirtual 49, 3) := by decide +kernel
theorem dX7_between_13 : decode cX7_between 13 = .ok (.ifCond .ne 6, 3) := by decide +kernel
theorem dX7_between_16 : decode cX7_between 16 = .ok (.ldc 96, 2) := by decide +kernel
theorem dX7_between_18 : decode cX7_between 18 = .ok (.ireturn, 1) := by decide +kernel
theorem dX7_between_19 : decode cX7_between 19 = .ok (.iconst 1, 1) := by decide +kernel
theorem dX7_between_20 : decode cX7_between 20 = .ok (.iload_n 1, 1) := by decide +kernel
theorem dX7_between_21 : decode cX7_between 21 = .ok (.ishl, 1) := by decide +kernel
theorem dX7_between_22 : decode cX7_between 22 = .ok (.istore_n 3, 1) := by decide +kernel
theorem dX7_between_23 : decode cX7_between 23 = .ok (.iconst 0, 1) := by decide +kernel
theorem dX7_between_24 : decode cX7_between 24 = .ok (.istore 4, 2) := by decide +kernel
theorem dX7_between_26 : decode cX7_between 26 = .ok (.iload_n 3, 1) := by decide +kernel
theorem dX7_between_27 : decode cX7_between 27 = .ok (.iload_n 2, 1) := by decide +kernel
theorem dX7_between_28 : decode cX7_between 28 = .ok (.ishr, 1) := by decide +kernel
theorem dX7_between_29 : decode cX7_between 29 = .ok (.iconst 1, 1) := by decide +kernel
theorem dX7_between_30 : decode cX7_between 30 = .ok (.iand, 1) := by decide +kernel
theorem dX7_between_31 : decode cX7_between 31 = .ok (.ifCond .ne 28, 3) := by decide +kernel
theorem dX7_between_34 : decode cX7_between 34 = .ok (.aload_n 0, 1) := by decide +kernel
theorem dX7_between_35 : decode cX7_between 35 = .ok (.iload_n 3, 1) := by decide +kernel
theorem dX7_between_36 : decode cX7_between 36 = .ok (.invokevirtual 130, 3) := by decide +kernel
theorem dX7_between_39 : decode cX7_between 39 = .ok (.istore 5, 2) := by decide +kernel
theorem dX7_between_41 : decode cX7_between 41 = .ok (.iload 5, 2) := by decide +kernel
theorem dX7_between_43 : decode cX7_between 43 = .ok (.iload_n 3, 1) := by decide +kernel
theorem dX7_between_44 : decode cX7_between 44 = .ok (.if_icmp .ne 6, 3) := by decide +kernel
theorem dX7_between_47 : decode cX7_between 47 = .ok (.ldc 60, 2) := by decide +kernel
theorem dX7_between_49 : decode cX7_between 49 = .ok (.ireturn, 1) := by decide +kernel
theorem dX7_between_50 : decode cX7_between 50 = .ok (.iload 5, 2) := by decide +kernel
theorem dX7_between_52 : decode cX7_between 52 = .ok (.istore_n 3, 1) := by decide +kernel
theorem dX7_between_53 : decode cX7_between 53 = .ok (.iinc 4 1, 3) := by decide +kernel
theorem dX7_between_56 : decode cX7_between 56 = .ok (.goto (-30), 3) := by decide +kernel
theorem dX7_between_59 : decode cX7_between 59 = .ok (.iload 4, 2) := by decide +kernel
theorem dX7_between_61 : decode cX7_between 61 = .ok (.ireturn, 1) := by decide +kernel
theorem dX7_book_0 : decode cX7_book 0 = .ok (.iload_n 1, 1) := by decide +kernel
theorem dX7_book_1 : decode cX7_book 1 = .ok (.ifCond .lt 12, 3) := by decide +kernel
theorem dX7_book_4 : decode cX7_book 4 = .ok (.iload_n 2, 1) := by decide +kernel
theorem dX7_book_5 : decode cX7_book 5 = .ok (.iconst 0, 1) := by decide +kernel
theorem dX7_book_6 : decode cX7_book 6 = .ok (.iconst 3, 1) := by decide +kernel
theorem dX7_book_7 : decode cX7_book 7 = .ok (.invokestatic 45, 3) := by decide +kernel
theorem dX7_book_10 : decode cX7_book 10 = .ok (.ifCond .ne 6, 3) := by decide +kernel
theorem dX7_book_13 : decode cX7_book 13 = .ok (.ldc 96, 2) := by decide +kernel
theorem dX7_book_15 : decode cX7_book 15 = .ok (.ireturn, 1) := by decide +kernel
theorem dX7_book_16 : decode cX7_book 16 = .ok (.iload_n 1, 1) := by decide +kernel
theorem dX7_book_17 : decode cX7_book 17 = .ok (.aload_n 0, 1) := by decide +kernel
theorem dX7_book_18 : decode cX7_book 18 = .ok (.getfield 7, 3) := by decide +kernel
theorem dX7_book_21 : decode cX7_book 21 = .ok (.sipush 153, 3) := by decide +kernel
theorem dX7_book_24 : decode cX7_book 24 = .ok (.iaload, 1) := by decide +kernel
theorem dX7_book_25 : decode cX7_book 25 = .ok (.if_icmp .ge 19, 3) := by decide +kernel
theorem dX7_book_28 : decode cX7_book 28 = .ok (.aload_n 0, 1) := by decide +kernel
theorem dX7_book_29 : decode cX7_book 29 = .ok (.getfield 7, 3) := by decide +kernel
theorem dX7_book_32 : decode cX7_book 32 = .ok (.bipush 116, 2) := by decide +kernel
theorem dX7_book_34 : decode cX7_book 34 = .ok (.iconst 4, 1) := by decide +kernel
theorem dX7_book_35 : decode cX7_book 35 = .ok (.iload_n 1, 1) := by decide +kernel
theorem dX7_book_36 : decode cX7_book 36 = .ok (.imul, 1) := by decide +kernel
theorem dX7_book_37 : decode cX7_book 37 = .ok (.iadd, 1) := by decide +kernel
theorem dX7_book_38 : decode cX7_book 38 = .ok (.iload_n 2, 1) := by decide +kernel
theorem dX7_book_39 : decode cX7_book 39 = .ok (.iadd, 1) := by decide +kernel
theorem dX7_book_40 : decode cX7_book 40 = .ok (.iaload, 1) := by decide +kernel
theorem dX7_book_41 : decode cX7_book 41 = .ok (.goto 5, 3) := by decide +kernel
theorem dX7_book_44 : decode cX7_book 44 = .ok (.ldc 60, 2) := by decide +kernel
theorem dX7_book_46 : decode cX7_book 46 = .ok (.ireturn, 1) := by decide +kernel
theorem dX7_yesWith_0 : decode cX7_yesWith 0 = .ok (.aload_n 0, 1) := by decide +kernel
theorem dX7_yesWith_1 : decode cX7_yesWith 1 = .ok (.iload_n 1, 1) := by decide +kernel
theorem dX7_yesWith_2 : decode cX7_yesWith 2 = .ok (.iconst 2, 1) := by decide +kernel
theorem dX7_yesWith_3 : decode cX7_yesWith 3 = .ok (.invokevirtual 61, 3) := by decide +kernel
theorem dX7_yesWith_6 : decode cX7_yesWith 6 = .ok (.istore_n 3, 1) := by decide +kernel
theorem dX7_yesWith_7 : decode cX7_yesWith 7 = .ok (.aload_n 0, 1) := by decide +kernel
theorem dX7_yesWith_8 : decode cX7_yesWith 8 = .ok (.getfield 7, 3) := by decide +kernel
theorem dX7_yesWith_11 : decode cX7_yesWith 11 = .ok (.iconst 3, 1) := by decide +kernel
theorem dX7_yesWith_12 : decode cX7_yesWith 12 = .ok (.iload_n 1, 1) := by decide +kernel
theorem dX7_yesWith_13 : decode cX7_yesWith 13 = .ok (.imul, 1) := by decide +kernel
theorem dX7_yesWith_14 : decode cX7_yesWith 14 = .ok (.iconst 2, 1) := by decide +kernel
theorem dX7_yesWith_15 : decode cX7_yesWith 15 = .ok (.iadd, 1) := by decide +kernel
theorem dX7_yesWith_16 : decode cX7_yesWith 16 = .ok (.iload_n 2, 1) := by decide +kernel
theorem dX7_yesWith_17 : decode cX7_yesWith 17 = .ok (.iconst 1, 1) := by decide +kernel
theorem dX7_yesWith_18 : decode cX7_yesWith 18 = .ok (.iadd, 1) := by decide +kernel
theorem dX7_yesWith_19 : decode cX7_yesWith 19 = .ok (.iastore, 1) := by decide +kernel
theorem dX7_yesWith_20 : decode cX7_yesWith 20 = .ok (.aload_n 0, 1) := by decide +kernel
theorem dX7_yesWith_21 : decode cX7_yesWith 21 = .ok (.invokevirtual 79, 3) := by decide +kernel
theorem dX7_yesWith_24 : decode cX7_yesWith 24 = .ok (.istore 4, 2) := by decide +kernel
theorem dX7_yesWith_26 : decode cX7_yesWith 26 = .ok (.aload_n 0, 1) := by decide +kernel
theorem dX7_yesWith_27 : decode cX7_yesWith 27 = .ok (.getfield 7, 3) := by decide +kernel
theorem dX7_yesWith_30 : decode cX7_yesWith 30 = .ok (.iconst 3, 1) := by decide +kernel
theorem dX7_yesWith_31 : decode cX7_yesWith 31 = .ok (.iload_n 1, 1) := by decide +kernel
theorem dX7_yesWith_32 : decode cX7_yesWith 32 = .ok (.imul, 1) := by decide +kernel
theorem dX7_yesWith_33 : decode cX7_yesWith 33 = .ok (.iconst 2, 1) := by decide +kernel
theorem dX7_yesWith_34 : decode cX7_yesWith 34 = .ok (.iadd, 1) := by decide +kernel
theorem dX7_yesWith_35 : decode cX7_yesWith 35 = .ok (.iload_n 3, 1) := by decide +kernel
theorem dX7_yesWith_36 : decode cX7_yesWith 36 = .ok (.iastore, 1) := by decide +kernel
theorem dX7_yesWith_37 : decode cX7_yesWith 37 = .ok (.iload 4, 2) := by decide +kernel
theorem dX7_yesWith_39 : decode cX7_yesWith 39 = .ok (.ireturn, 1) := by decide +kernel
theorem dX7_bestPull_0 : decode cX7_bestPull 0 = .ok (.iload_n 1, 1) := by decide +kernel
theorem dX7_bestPull_1 : decode cX7_bestPull 1 = .ok (.iconst 0, 1) := by decide +kernel
theorem dX7_bestPull_2 : decode cX7_bestPull 2 = .ok (.iconst 1, 1) := by decide +kernel
theorem dX7_bestPull_3 : decode cX7_bestPull 3 = .ok (.invokestatic 45, 3) := by decide +kernel
theorem dX7_bestPull_6 : decode cX7_bestPull 6 = .ok (.ifCond .ne 6, 3) := by decide +kernel
theorem dX7_bestPull_9 : decode cX7_bestPull 9 = .ok (.ldc 96, 2) := by decide +kernel
theorem dX7_bestPull_11 : decode cX7_bestPull 11 = .ok (.ireturn, 1) := by decide +kernel
theorem dX7_bestPull_12 : decode cX7_bestPull 12 = .ok (.ldc 60, 2) := by decide +kernel
theorem dX7_bestPull_14 : decode cX7_bestPull 14 = .ok (.istore_n 2, 1) := by decide +kernel
theorem dX7_bestPull_15 : decode cX7_bestPull 15 = .ok (.aload_n 0, 1) := by decide +kernel
theorem dX7_bestPull_16 : decode cX7_bestPull 16 = .ok (.invokevirtual 79, 3) := by decide +kernel
theorem dX7_bestPull_19 : decode cX7_bestPull 19 = .ok (.istore_n 3, 1) := by decide +kernel
theorem dX7_bestPull_20 : decode cX7_bestPull 20 = .ok (.iconst 0, 1) := by decide +kernel
theorem dX7_bestPull_21 : decode cX7_bestPull 21 = .ok (.istore 4, 2) := by decide +kernel
theorem dX7_bestPull_23 : decode cX7_bestPull 23 = .ok (.iload 4, 2) := by decide +kernel
theorem dX7_bestPull_25 : decode cX7_bestPull 25 = .ok (.iconst 2, 1) := by decide +kernel
theorem dX7_bestPull_26 : decode cX7_bestPull 26 = .ok (.aload_n 0, 1) := by decide +kernel
theorem dX7_bestPull_27 : decode cX7_bestPull 27 = .ok (.getfield 7, 3) := by decide +kernel
theorem dX7_bestPull_30 : decode cX7_bestPull 30 = .ok (.sipush 148, 3) := by decide +kernel
theorem dX7_bestPull_33 : decode cX7_bestPull 33 = .ok (.iaload, 1) := by decide +kernel
theorem dX7_bestPull_34 : decode cX7_bestPull 34 = .ok (.imul, 1) := by decide +kernel
theorem dX7_bestPull_35 : decode cX7_bestPull 35 = .ok (.if_icmp .ge 70, 3) := by decide +kernel
theorem dX7_bestPull_38 : decode cX7_bestPull 38 = .ok (.aload_n 0, 1) := by decide +kernel
theorem dX7_bestPull_39 : decode cX7_bestPull 39 = .ok (.iload 4, 2) := by decide +kernel
theorem dX7_bestPull_41 : decode cX7_bestPull 41 = .ok (.iconst 2, 1) := by decide +kernel
theorem dX7_bestPull_42 : decode cX7_bestPull 42 = .ok (.idiv, 1) := by decide +kernel
theorem dX7_bestPull_43 : decode cX7_bestPull 43 = .ok (.iload 4, 2) := by decide +kernel
theorem dX7_bestPull_45 : decode cX7_bestPull 45 = .ok (.iconst 2, 1) := by decide +kernel
theorem dX7_bestPull_46 : decode cX7_bestPull 46 = .ok (.irem, 1) := by decide +kernel
theorem dX7_bestPull_47 : decode cX7_bestPull 47 = .ok (.invokevirtual 114, 3) := by decide +kernel
theorem dX7_bestPull_50 : decode cX7_bestPull 50 = .ok (.ifCond .ne 18, 3) := by decide +kernel
theorem dX7_bestPull_53 : decode cX7_bestPull 53 = .ok (.aload_n 0, 1) := by decide +kernel
theorem dX7_bestPull_54 : decode cX7_bestPull 54 = .ok (.iload 4, 2) := by decide +kernel
theorem dX7_bestPull_56 : decode cX7_bestPull 56 = .ok (.iconst 2, 1) := by decide +kernel
theorem dX7_bestPull_57 : decode cX7_bestPull 57 = .ok (.idiv, 1) := by decide +kernel
theorem dX7_bestPull_58 : decode cX7_bestPull 58 = .ok (.iload 4, 2) := by decide +kernel
theorem dX7_bestPull_60 : decode cX7_bestPull 60 = .ok (.iconst 2, 1) := by decide +kernel
theorem dX7_bestPull_61 : decode cX7_bestPull 61 = .ok (.irem, 1) := by decide +kernel
theorem dX7_bestPull_62 : decode cX7_bestPull 62 = .ok (.invokevirtual 133, 3) := by decide +kernel
theorem dX7_bestPull_65 : decode cX7_bestPull 65 = .ok (.goto 4, 3) := by decide +kernel
theorem dX7_bestPull_68 : decode cX7_bestPull 68 = .ok (.iconst (-1), 1) := by decide +kernel
theorem dX7_bestPull_69 : decode cX7_bestPull 69 = .ok (.istore 5, 2) := by decide +kernel
theorem dX7_bestPull_71 : decode cX7_bestPull 71 = .ok (.iload 5, 2) := by decide +kernel
theorem dX7_bestPull_73 : decode cX7_bestPull 73 = .ok (.iload_n 3, 1) := by decide +kernel
theorem dX7_bestPull_74 : decode cX7_bestPull 74 = .ok (.if_icmp .le 10, 3) := by decide +kernel
theorem dX7_bestPull_77 : decode cX7_bestPull 77 = .ok (.iload 4, 2) := by decide +kernel
theorem dX7_bestPull_79 : decode cX7_bestPull 79 = .ok (.iconst 2, 1) := by decide +kernel
theorem dX7_bestPull_80 : decode cX7_bestPull 80 = .ok (.idiv, 1) := by decide +kernel
theorem dX7_bestPull_81 : decode cX7_bestPull 81 = .ok (.goto 4, 3) := by decide +kernel
theorem dX7_bestPull_84 : decode cX7_bestPull 84 = .ok (.iload_n 2, 1) := by decide +kernel
theorem dX7_bestPull_85 : decode cX7_bestPull 85 = .ok (.istore_n 2, 1) := by decide +kernel
theorem dX7_bestPull_86 : decode cX7_bestPull 86 = .ok (.iload 5, 2) := by decide +kernel
theorem dX7_bestPull_88 : decode cX7_bestPull 88 = .ok (.iload_n 3, 1) := by decide +kernel
theorem dX7_bestPull_89 : decode cX7_bestPull 89 = .ok (.if_icmp .le 8, 3) := by decide +kernel
theorem dX7_bestPull_92 : decode cX7_bestPull 92 = .ok (.iload 5, 2) := by decide +kernel
theorem dX7_bestPull_94 : decode cX7_bestPull 94 = .ok (.goto 4, 3) := by decide +kernel
theorem dX7_bestPull_97 : decode cX7_bestPull 97 = .ok (.iload_n 3, 1) := by decide +kernel
theorem dX7_bestPull_98 : decode cX7_bestPull 98 = .ok (.istore_n 3, 1) := by decide +kernel
theorem dX7_bestPull_99 : decode cX7_bestPull 99 = .ok (.iinc 4 1, 3) := by decide +kernel
theorem dX7_bestPull_102 : decode cX7_bestPull 102 = .ok (.goto (-79), 3) := by decide +kernel
theorem dX7_bestPull_105 : decode cX7_bestPull 105 = .ok (.iload_n 2, 1) := by decide +kernel
theorem dX7_bestPull_106 : decode cX7_bestPull 106 = .ok (.ifCond .ge 8, 3) := by decide +kernel
theorem dX7_bestPull_109 : decode cX7_bestPull 109 = .ok (.ldc 60, 2) := by decide +kernel
theorem dX7_bestPull_111 : decode cX7_bestPull 111 = .ok (.goto 12, 3) := by decide +kernel
theorem dX7_bestPull_114 : decode cX7_bestPull 114 = .ok (.iload_n 1, 1) := by decide +kernel
theorem dX7_bestPull_115 : decode cX7_bestPull 115 = .ok (.ifCond .ne 7, 3) := by decide +kernel
theorem dX7_bestPull_118 : decode cX7_bestPull 118 = .ok (.iload_n 2, 1) := by decide +kernel
theorem dX7_bestPull_119 : decode cX7_bestPull 119 = .ok (.goto 4, 3) := by decide +kernel
theorem dX7_bestPull_122 : decode cX7_bestPull 122 = .ok (.iload_n 3, 1) := by decide +kernel
theorem dX7_bestPull_123 : decode cX7_bestPull 123 = .ok (.ireturn, 1) := by decide +kernel
theorem dX7_gains_0 : decode cX7_gains 0 = .ok (.iconst 0, 1) := by decide +kernel
theorem dX7_gains_1 : decode cX7_gains 1 = .ok (.istore_n 1, 1) := by decide +kernel
theorem dX7_gains_2 : decode cX7_gains 2 = .ok (.iconst 0, 1) := by decide +kernel
theorem dX7_gains_3 : decode cX7_gains 3 = .ok (.istore_n 2, 1) := by decide +kernel
theorem dX7_gains_4 : decode cX7_gains 4 = .ok (.iload_n 2, 1) := by decide +kernel
theorem dX7_gains_5 : decode cX7_gains 5 = .ok (.aload_n 0, 1) := by decide +kernel
theorem dX7_gains_6 : decode cX7_gains 6 = .ok (.getfield 7, 3) := by decide +kernel
theorem dX7_gains_9 : decode cX7_gains 9 = .ok (.sipush 148, 3) := by decide +kernel
theorem dX7_gains_12 : decode cX7_gains 12 = .ok (.iaload, 1) := by decide +kernel
theorem dX7_gains_13 : decode cX7_gains 13 = .ok (.if_icmp .ge 98, 3) := by decide +kernel
theorem dX7_gains_16 : decode cX7_gains 16 = .ok (.aload_n 0, 1) := by decide +kernel
theorem dX7_gains_17 : decode cX7_gains 17 = .ok (.getfield 22, 3) := by decide +kernel
theorem dX7_gains_20 : decode cX7_gains 20 = .ok (.iload_n 2, 1) := by decide +kernel
theorem dX7_gains_21 : decode cX7_gains 21 = .ok (.iaload, 1) := by decide +kernel
theorem dX7_gains_22 : decode cX7_gains 22 = .ok (.iload_n 2, 1) := by decide +kernel
theorem dX7_gains_23 : decode cX7_gains 23 = .ok (.if_icmp .ne 82, 3) := by decide +kernel
theorem dX7_gains_26 : decode cX7_gains 26 = .ok (.aload_n 0, 1) := by decide +kernel
theorem dX7_gains_27 : decode cX7_gains 27 = .ok (.getfield 31, 3) := by decide +kernel
theorem dX7_gains_30 : decode cX7_gains 30 = .ok (.iload_n 1, 1) := by decide +kernel
theorem dX7_gains_31 : decode cX7_gains 31 = .ok (.iconst 0, 1) := by decide +kernel
theorem dX7_gains_32 : decode cX7_gains 32 = .ok (.iastore, 1) := by decide +kernel
theorem dX7_gains_33 : decode cX7_gains 33 = .ok (.iload_n 2, 1) := by decide +kernel
theorem dX7_gains_34 : decode cX7_gains 34 = .ok (.istore_n 3, 1) := by decide +kernel
theorem dX7_gains_35 : decode cX7_gains 35 = .ok (.iload_n 3, 1) := by decide +kernel
theorem dX7_gains_36 : decode cX7_gains 36 = .ok (.aload_n 0, 1) := by decide +kernel
theorem dX7_gains_37 : decode cX7_gains 37 = .ok (.getfield 7, 3) := by decide +kernel
theorem dX7_gains_40 : decode cX7_gains 40 = .ok (.sipush 148, 3) := by decide +kernel
theorem dX7_gains_43 : decode cX7_gains 43 = .ok (.iaload, 1) := by decide +kernel
theorem dX7_gains_44 : decode cX7_gains 44 = .ok (.if_icmp .ge 58, 3) := by decide +kernel
theorem dX7_gains_47 : decode cX7_gains 47 = .ok (.aload_n 0, 1) := by decide +kernel
theorem dX7_gains_48 : decode cX7_gains 48 = .ok (.getfield 22, 3) := by decide +kernel
theorem dX7_gains_51 : decode cX7_gains 51 = .ok (.iload_n 3, 1) := by decide +kernel
theorem dX7_gains_52 : decode cX7_gains 52 = .ok (.iaload, 1) := by decide +kernel
theorem dX7_gains_53 : decode cX7_gains 53 = .ok (.iload_n 2, 1) := by decide +kernel
theorem dX7_gains_54 : decode cX7_gains 54 = .ok (.if_icmp .ne 12, 3) := by decide +kernel
theorem dX7_gains_57 : decode cX7_gains 57 = .ok (.aload_n 0, 1) := by decide +kernel
theorem dX7_gains_58 : decode cX7_gains 58 = .ok (.iload_n 3, 1) := by decide +kernel
theorem dX7_gains_59 : decode cX7_gains 59 = .ok (.iconst 0, 1) := by decide +kernel
theorem dX7_gains_60 : decode cX7_gains 60 = .ok (.invokevirtual 61, 3) := by decide +kernel
theorem dX7_gains_63 : decode cX7_gains 63 = .ok (.goto 4, 3) := by decide +kernel
theorem dX7_gains_66 : decode cX7_gains 66 = .ok (.iconst 0, 1) := by decide +kernel
theorem dX7_gains_67 : decode cX7_gains 67 = .ok (.istore 4, 2) := by decide +kernel
theorem dX7_gains_69 : decode cX7_gains 69 = .ok (.aload_n 0, 1) := by decide +kernel
theorem dX7_gains_70 : decode cX7_gains 70 = .ok (.getfield 31, 3) := by decide +kernel
theorem dX7_gains_73 : decode cX7_gains 73 = .ok (.iload_n 1, 1) := by decide +kernel
theorem dX7_gains_74 : decode cX7_gains 74 = .ok (.dup2, 1) := by decide +kernel
theorem dX7_gains_75 : decode cX7_gains 75 = .ok (.iaload, 1) := by decide +kernel
theorem dX7_gains_76 : decode cX7_gains 76 = .ok (.aload_n 0, 1) := by decide +kernel
theorem dX7_gains_77 : decode cX7_gains 77 = .ok (.getfield 28, 3) := by decide +kernel
theorem dX7_gains_80 : decode cX7_gains 80 = .ok (.iload_n 3, 1) := by decide +kernel
theorem dX7_gains_81 : decode cX7_gains 81 = .ok (.iaload, 1) := by decide +kernel
theorem dX7_gains_82 : decode cX7_gains 82 = .ok (.iconst 1, 1) := by decide +kernel
theorem dX7_gains_83 : decode cX7_gains 83 = .ok (.if_icmp .ne 9, 3) := by decide +kernel
theorem dX7_gains_86 : decode cX7_gains 86 = .ok (.iload 4, 2) := by decide +kernel
theorem dX7_gains_88 : decode cX7_gains 88 = .ok (.ineg, 1) := by decide +kernel
theorem dX7_gains_89 : decode cX7_gains 89 = .ok (.goto 5, 3) := by decide +kernel
theorem dX7_gains_92 : decode cX7_gains 92 = .ok (.iload 4, 2) := by decide +kernel
theorem dX7_gains_94 : decode cX7_gains 94 = .ok (.iadd, 1) := by decide +kernel
theorem dX7_gains_95 : decode cX7_gains 95 = .ok (.iastore, 1) := by decide +kernel
theorem dX7_gains_96 : decode cX7_gains 96 = .ok (.iinc 3 1, 3) := by decide +kernel
theorem dX7_gains_99 : decode cX7_gains 99 = .ok (.goto (-64), 3) := by decide +kernel
theorem dX7_gains_102 : decode cX7_gains 102 = .ok (.iinc 1 1, 3) := by decide +kernel
theorem dX7_gains_105 : decode cX7_gains 105 = .ok (.iinc 2 1, 3) := by decide +kernel
theorem dX7_gains_108 : decode cX7_gains 108 = .ok (.goto (-104), 3) := by decide +kernel
theorem dX7_gains_111 : decode cX7_gains 111 = .ok (.iload_n 1, 1) := by decide +kernel
theorem dX7_gains_112 : decode cX7_gains 112 = .ok (.ireturn, 1) := by decide +kernel
theorem dX7_greedy_0 : decode cX7_greedy 0 = .ok (.iconst 0, 1) := by decide +kernel
theorem dX7_greedy_1 : decode cX7_greedy 1 = .ok (.istore_n 3, 1) := by decide +kernel
theorem dX7_greedy_2 : decode cX7_greedy 2 = .ok (.iconst 0, 1) := by decide +kernel
theorem dX7_greedy_3 : decode cX7_greedy 3 = .ok (.istore 4, 2) := by decide +kernel
theorem dX7_greedy_5 : decode cX7_greedy 5 = .ok (.iconst 1, 1) := by decide +kernel
theorem dX7_greedy_6 : decode cX7_greedy 6 = .ok (.iload_n 2, 1) := by decide +kernel
theorem dX7_greedy_7 : decode cX7_greedy 7 = .ok (.ishl, 1) := by decide +kernel
theorem dX7_greedy_8 : decode cX7_greedy 8 = .ok (.iconst 1, 1) := by decide +kernel
theorem dX7_greedy_9 : decode cX7_greedy 9 = .ok (.isub, 1) := by decide +kernel
theorem dX7_greedy_10 : decode cX7_greedy 10 = .ok (.istore 5, 2) := by decide +kernel
theorem dX7_greedy_12 : decode cX7_greedy 12 = .ok (.iload_n 3, 1) := by decide +kernel
theorem dX7_greedy_13 : decode cX7_greedy 13 = .ok (.iload_n 1, 1) := by decide +kernel
theorem dX7_greedy_14 : decode cX7_greedy 14 = .ok (.if_icmp .ge 107, 3) := by decide +kernel
theorem dX7_greedy_17 : decode cX7_greedy 17 = .ok (.ldc 60, 2) := by decide +kernel
theorem dX7_greedy_19 : decode cX7_greedy 19 = .ok (.istore 6, 2) := by decide +kernel
theorem dX7_greedy_21 : decode cX7_greedy 21 = .ok (.iconst 0, 1) := by decide +kernel
theorem dX7_greedy_22 : decode cX7_greedy 22 = .ok (.istore 7, 2) := by decide +kernel
theorem dX7_greedy_24 : decode cX7_greedy 24 = .ok (.iload 7, 2) := by decide +kernel
theorem dX7_greedy_26 : decode cX7_greedy 26 = .ok (.iload_n 2, 1) := by decide +kernel
theorem dX7_greedy_27 : decode cX7_greedy 27 = .ok (.if_icmp .ge 61, 3) := by decide +kernel
theorem dX7_greedy_30 : decode cX7_greedy 30 = .ok (.iload 5, 2) := by decide +kernel
theorem dX7_greedy_32 : decode cX7_greedy 32 = .ok (.iload 7, 2) := by decide +kernel
theorem dX7_greedy_34 : decode cX7_greedy 34 = .ok (.ishr, 1) := by decide +kernel
theorem dX7_greedy_35 : decode cX7_greedy 35 = .ok (.iconst 1, 1) := by decide +kernel
theorem dX7_greedy_36 : decode cX7_greedy 36 = .ok (.iand, 1) := by decide +kernel
theorem dX7_greedy_37 : decode cX7_greedy 37 = .ok (.iconst 1, 1) := by decide +kernel
theorem dX7_greedy_38 : decode cX7_greedy 38 = .ok (.if_icmp .ne 40, 3) := by decide +kernel
theorem dX7_greedy_41 : decode cX7_greedy 41 = .ok (.aload_n 0, 1) := by decide +kernel
theorem dX7_greedy_42 : decode cX7_greedy 42 = .ok (.getfield 31, 3) := by decide +kernel
theorem dX7_greedy_45 : decode cX7_greedy 45 = .ok (.iload 7, 2) := by decide +kernel
theorem dX7_greedy_47 : decode cX7_greedy 47 = .ok (.iaload, 1) := by decide +kernel
theorem dX7_greedy_48 : decode cX7_greedy 48 = .ok (.ifCond .le 30, 3) := by decide +kernel
theorem dX7_greedy_51 : decode cX7_greedy 51 = .ok (.iload 6, 2) := by decide +kernel
theorem dX7_greedy_53 : decode cX7_greedy 53 = .ok (.ifCond .lt 20, 3) := by decide +kernel
theorem dX7_greedy_56 : decode cX7_greedy 56 = .ok (.aload_n 0, 1) := by decide +kernel
theorem dX7_greedy_57 : decode cX7_greedy 57 = .ok (.getfield 31, 3) := by decide +kernel
theorem dX7_greedy_60 : decode cX7_greedy 60 = .ok (.iload 7, 2) := by decide +kernel
theorem dX7_greedy_62 : decode cX7_greedy 62 = .ok (.iaload, 1) := by decide +kernel
theorem dX7_greedy_63 : decode cX7_greedy 63 = .ok (.aload_n 0, 1) := by decide +kernel
theorem dX7_greedy_64 : decode cX7_greedy 64 = .ok (.getfield 31, 3) := by decide +kernel
theorem dX7_greedy_67 : decode cX7_greedy 67 = .ok (.iload 6, 2) := by decide +kernel
theorem dX7_greedy_69 : decode cX7_greedy 69 = .ok (.iaload, 1) := by decide +kernel
theorem dX7_greedy_70 : decode cX7_greedy 70 = .ok (.if_icmp .le 8, 3) := by decide +kernel
theorem dX7_greedy_73 : decode cX7_greedy 73 = .ok (.iload 7, 2) := by decide +kernel
theorem dX7_greedy_75 : decode cX7_greedy 75 = .ok (.goto 5, 3) := by decide +kernel
theorem dX7_greedy_78 : decode cX7_greedy 78 = .ok (.iload 6, 2) := by decide +kernel
theorem dX7_greedy_80 : decode cX7_greedy 80 = .ok (.istore 6, 2) := by decide +kernel
theorem dX7_greedy_82 : decode cX7_greedy 82 = .ok (.iinc 7 1, 3) := by decide +kernel
theorem dX7_greedy_85 : decode cX7_greedy 85 = .ok (.goto (-61), 3) := by decide +kernel
theorem dX7_greedy_88 : decode cX7_greedy 88 = .ok (.iload 6, 2) := by decide +kernel
theorem dX7_greedy_90 : decode cX7_greedy 90 = .ok (.ifCond .ge 6, 3) := by decide +kernel
theorem dX7_greedy_93 : decode cX7_greedy 93 = .ok (.ldc 60, 2) := by decide +kernel
theorem dX7_greedy_95 : decode cX7_greedy 95 = .ok (.ireturn, 1) := by decide +kernel
theorem dX7_greedy_96 : decode cX7_greedy 96 = .ok (.iload 5, 2) := by decide +kernel
theorem dX7_greedy_98 : decode cX7_greedy 98 = .ok (.iconst 1, 1) := by decide +kernel
theorem dX7_greedy_99 : decode cX7_greedy 99 = .ok (.iload 6, 2) := by decide +kernel
theorem dX7_greedy_101 : decode cX7_greedy 101 = .ok (.ishl, 1) := by decide +kernel
theorem dX7_greedy_102 : decode cX7_greedy 102 = .ok (.ixor, 1) := by decide +kernel
theorem dX7_greedy_103 : decode cX7_greedy 103 = .ok (.istore 5, 2) := by decide +kernel
theorem dX7_greedy_105 : decode cX7_greedy 105 = .ok (.iload_n 3, 1) := by decide +kernel
theorem dX7_greedy_106 : decode cX7_greedy 106 = .ok (.aload_n 0, 1) := by decide +kernel
theorem dX7_greedy_107 : decode cX7_greedy 107 = .ok (.getfield 31, 3) := by decide +kernel
theorem dX7_greedy_110 : decode cX7_greedy 110 = .ok (.iload 6, 2) := by decide +kernel
theorem dX7_greedy_112 : decode cX7_greedy 112 = .ok (.iaload, 1) := by decide +kernel
theorem dX7_greedy_113 : decode cX7_greedy 113 = .ok (.iadd, 1) := by decide +kernel
theorem dX7_greedy_114 : decode cX7_greedy 114 = .ok (.istore_n 3, 1) := by decide +kernel
theorem dX7_greedy_115 : decode cX7_greedy 115 = .ok (.iinc 4 1, 3) := by decide +kernel
theorem dX7_greedy_118 : decode cX7_greedy 118 = .ok (.goto (-106), 3) := by decide +kernel
theorem dX7_greedy_121 : decode cX7_greedy 121 = .ok (.iload 4, 2) := by decide +kernel
theorem dX7_greedy_123 : decode cX7_greedy 123 = .ok (.ireturn, 1) := by decide +kernel
theorem dX7_bySets_0 : decode cX7_bySets 0 = .ok (.ldc 60, 2) := by decide +kernel
theorem dX7_bySets_2 : decode cX7_bySets 2 = .ok (.istore_n 3, 1) := by decide +kernel
theorem dX7_bySets_3 : decode cX7_bySets 3 = .ok (.iconst 0, 1) := by decide +kernel
theorem dX7_bySets_4 : decode cX7_bySets 4 = .ok (.istore 4, 2) := by decide +kernel
theorem dX7_bySets_6 : decode cX7_bySets 6 = .ok (.iload 4, 2) := by decide +kernel
theorem dX7_bySets_8 : decode cX7_bySets 8 = .ok (.iconst 1, 1) := by decide +kernel
theorem dX7_bySets_9 : decode cX7_bySets 9 = .ok (.iload_n 2, 1) := by decide +kernel
theorem dX7_bySets_10 : decode cX7_bySets 10 = .ok (.ishl, 1) := by decide +kernel
theorem dX7_bySets_11 : decode cX7_bySets 11 = .ok (.if_icmp .ge 92, 3) := by decide +kernel
theorem dX7_bySets_14 : decode cX7_bySets 14 = .ok (.iconst 0, 1) := by decide +kernel
theorem dX7_bySets_15 : decode cX7_bySets 15 = .ok (.istore 5, 2) := by decide +kernel
theorem dX7_bySets_17 : decode cX7_bySets 17 = .ok (.iconst 0, 1) := by decide +kernel
theorem dX7_bySets_18 : decode cX7_bySets 18 = .ok (.istore 6, 2) := by decide +kernel
theorem dX7_bySets_20 : decode cX7_bySets 20 = .ok (.iconst 0, 1) := by decide +kernel
theorem dX7_bySets_21 : decode cX7_bySets 21 = .ok (.istore 7, 2) := by decide +kernel
theorem dX7_bySets_23 : decode cX7_bySets 23 = .ok (.iload 7, 2) := by decide +kernel
theorem dX7_bySets_25 : decode cX7_bySets 25 = .ok (.iload_n 2, 1) := by decide +kernel
theorem dX7_bySets_26 : decode cX7_bySets 26 = .ok (.if_icmp .ge 48, 3) := by decide +kernel
theorem dX7_bySets_29 : decode cX7_bySets 29 = .ok (.iload 5, 2) := by decide +kernel
theorem dX7_bySets_31 : decode cX7_bySets 31 = .ok (.iload 4, 2) := by decide +kernel
theorem dX7_bySets_33 : decode cX7_bySets 33 = .ok (.iload 7, 2) := by decide +kernel
theorem dX7_bySets_35 : decode cX7_bySets 35 = .ok (.ishr, 1) := by decide +kernel
theorem dX7_bySets_36 : decode cX7_bySets 36 = .ok (.iconst 1, 1) := by decide +kernel
theorem dX7_bySets_37 : decode cX7_bySets 37 = .ok (.iand, 1) := by decide +kernel
theorem dX7_bySets_38 : decode cX7_bySets 38 = .ok (.iconst 1, 1) := by decide +kernel
theorem dX7_bySets_39 : decode cX7_bySets 39 = .ok (.if_icmp .ne 13, 3) := by decide +kernel
theorem dX7_bySets_42 : decode cX7_bySets 42 = .ok (.aload_n 0, 1) := by decide +kernel
theorem dX7_bySets_43 : decode cX7_bySets 43 = .ok (.getfield 31, 3) := by decide +kernel
theorem dX7_bySets_46 : decode cX7_bySets 46 = .ok (.iload 7, 2) := by decide +kernel
theorem dX7_bySets_48 : decode cX7_bySets 48 = .ok (.iaload, 1) := by decide +kernel
theorem dX7_bySets_49 : decode cX7_bySets 49 = .ok (.goto 4, 3) := by decide +kernel
theorem dX7_bySets_52 : decode cX7_bySets 52 = .ok (.iconst 0, 1) := by decide +kernel
theorem dX7_bySets_53 : decode cX7_bySets 53 = .ok (.iadd, 1) := by decide +kernel
theorem dX7_bySets_54 : decode cX7_bySets 54 = .ok (.istore 5, 2) := by decide +kernel
theorem dX7_bySets_56 : decode cX7_bySets 56 = .ok (.iload 6, 2) := by decide +kernel
theorem dX7_bySets_58 : decode cX7_bySets 58 = .ok (.iload 4, 2) := by decide +kernel
theorem dX7_bySets_60 : decode cX7_bySets 60 = .ok (.iload 7, 2) := by decide +kernel
theorem dX7_bySets_62 : decode cX7_bySets 62 = .ok (.ishr, 1) := by decide +kernel
theorem dX7_bySets_63 : decode cX7_bySets 63 = .ok (.iconst 1, 1) := by decide +kernel
theorem dX7_bySets_64 : decode cX7_bySets 64 = .ok (.iand, 1) := by decide +kernel
theorem dX7_bySets_65 : decode cX7_bySets 65 = .ok (.iadd, 1) := by decide +kernel
theorem dX7_bySets_66 : decode cX7_bySets 66 = .ok (.istore 6, 2) := by decide +kernel
theorem dX7_bySets_68 : decode cX7_bySets 68 = .ok (.iinc 7 1, 3) := by decide +kernel
theorem dX7_bySets_71 : decode cX7_bySets 71 = .ok (.goto (-48), 3) := by decide +kernel
theorem dX7_bySets_74 : decode cX7_bySets 74 = .ok (.iload 5, 2) := by decide +kernel
theorem dX7_bySets_76 : decode cX7_bySets 76 = .ok (.iload_n 1, 1) := by decide +kernel
theorem dX7_bySets_77 : decode cX7_bySets 77 = .ok (.if_icmp .lt 18, 3) := by decide +kernel
theorem dX7_bySets_80 : decode cX7_bySets 80 = .ok (.iload_n 3, 1) := by decide +kernel
theorem dX7_bySets_81 : decode cX7_bySets 81 = .ok (.ifCond .lt 9, 3) := by decide +kernel
theorem dX7_bySets_84 : decode cX7_bySets 84 = .ok (.iload 6, 2) := by decide +kernel
theorem dX7_bySets_86 : decode cX7_bySets 86 = .ok (.iload_n 3, 1) := by decide +kernel
theorem dX7_bySets_87 : decode cX7_bySets 87 = .ok (.if_icmp .ge 8, 3) := by decide +kernel
theorem dX7_bySets_90 : decode cX7_bySets 90 = .ok (.iload 6, 2) := by decide +kernel
theorem dX7_bySets_92 : decode cX7_bySets 92 = .ok (.goto 4, 3) := by decide +kernel
theorem dX7_bySets_95 : decode cX7_bySets 95 = .ok (.iload_n 3, 1) := by decide +kernel
theorem dX7_bySets_96 : decode cX7_bySets 96 = .ok (.istore_n 3, 1) := by decide +kernel
theorem dX7_bySets_97 : decode cX7_bySets 97 = .ok (.iinc 4 1, 3) := by decide +kernel
theorem dX7_bySets_100 : decode cX7_bySets 100 = .ok (.goto (-94), 3) := by decide +kernel
theorem dX7_bySets_103 : decode cX7_bySets 103 = .ok (.iload_n 3, 1) := by decide +kernel
theorem dX7_bySets_104 : decode cX7_bySets 104 = .ok (.ireturn, 1) := by decide +kernel
theorem dX7_fewest_0 : decode cX7_fewest 0 = .ok (.iload_n 1, 1) := by decide +kernel
theorem dX7_fewest_1 : decode cX7_fewest 1 = .ok (.iconst 0, 1) := by decide +kernel
theorem dX7_fewest_2 : decode cX7_fewest 2 = .ok (.iconst 1, 1) := by decide +kernel
theorem dX7_fewest_3 : decode cX7_fewest 3 = .ok (.invokestatic 45, 3) := by decide +kernel
theorem dX7_fewest_6 : decode cX7_fewest 6 = .ok (.ifCond .ne 6, 3) := by decide +kernel
theorem dX7_fewest_9 : decode cX7_fewest 9 = .ok (.ldc 96, 2) := by decide +kernel
theorem dX7_fewest_11 : decode cX7_fewest 11 = .ok (.ireturn, 1) := by decide +kernel
theorem dX7_fewest_12 : decode cX7_fewest 12 = .ok (.aload_n 0, 1) := by decide +kernel
theorem dX7_fewest_13 : decode cX7_fewest 13 = .ok (.getfield 7, 3) := by decide +kernel
theorem dX7_fewest_16 : decode cX7_fewest 16 = .ok (.sipush 148, 3) := by decide +kernel
theorem dX7_fewest_19 : decode cX7_fewest 19 = .ok (.iaload, 1) := by decide +kernel
theorem dX7_fewest_20 : decode cX7_fewest 20 = .ok (.ifCond .ne 6, 3) := by decide +kernel
theorem dX7_fewest_23 : decode cX7_fewest 23 = .ok (.ldc 60, 2) := by decide +kernel
theorem dX7_fewest_25 : decode cX7_fewest 25 = .ok (.ireturn, 1) := by decide +kernel
theorem dX7_fewest_26 : decode cX7_fewest 26 = .ok (.aload_n 0, 1) := by decide +kernel
theorem dX7_fewest_27 : decode cX7_fewest 27 = .ok (.invokevirtual 79, 3) := by decide +kernel
theorem dX7_fewest_30 : decode cX7_fewest 30 = .ok (.istore_n 2, 1) := by decide +kernel
theorem dX7_fewest_31 : decode cX7_fewest 31 = .ok (.aload_n 0, 1) := by decide +kernel
theorem dX7_fewest_32 : decode cX7_fewest 32 = .ok (.invokevirtual 82, 3) := by decide +kernel
theorem dX7_fewest_35 : decode cX7_fewest 35 = .ok (.iconst 2, 1) := by decide +kernel
theorem dX7_fewest_36 : decode cX7_fewest 36 = .ok (.idiv, 1) := by decide +kernel
theorem dX7_fewest_37 : decode cX7_fewest 37 = .ok (.iconst 1, 1) := by decide +kernel
theorem dX7_fewest_38 : decode cX7_fewest 38 = .ok (.iadd, 1) := by decide +kernel
theorem dX7_fewest_39 : decode cX7_fewest 39 = .ok (.iload_n 2, 1) := by decide +kernel
theorem dX7_fewest_40 : decode cX7_fewest 40 = .ok (.isub, 1) := by decide +kernel
theorem dX7_fewest_41 : decode cX7_fewest 41 = .ok (.istore_n 3, 1) := by decide +kernel
theorem dX7_fewest_42 : decode cX7_fewest 42 = .ok (.aload_n 0, 1) := by decide +kernel
theorem dX7_fewest_43 : decode cX7_fewest 43 = .ok (.invokevirtual 136, 3) := by decide +kernel
theorem dX7_fewest_46 : decode cX7_fewest 46 = .ok (.istore 4, 2) := by decide +kernel
theorem dX7_fewest_48 : decode cX7_fewest 48 = .ok (.iload_n 1, 1) := by decide +kernel
theorem dX7_fewest_49 : decode cX7_fewest 49 = .ok (.ifCond .ne 13, 3) := by decide +kernel
theorem dX7_fewest_52 : decode cX7_fewest 52 = .ok (.aload_n 0, 1) := by decide +kernel
theorem dX7_fewest_53 : decode cX7_fewest 53 = .ok (.iload_n 3, 1) := by decide +kernel
theorem dX7_fewest_54 : decode cX7_fewest 54 = .ok (.iload 4, 2) := by decide +kernel
theorem dX7_fewest_56 : decode cX7_fewest 56 = .ok (.invokevirtual 139, 3) := by decide +kernel
theorem dX7_fewest_59 : decode cX7_fewest 59 = .ok (.goto 10, 3) := by decide +kernel
theorem dX7_fewest_62 : decode cX7_fewest 62 = .ok (.aload_n 0, 1) := by decide +kernel
theorem dX7_fewest_63 : decode cX7_fewest 63 = .ok (.iload_n 3, 1) := by decide +kernel
theorem dX7_fewest_64 : decode cX7_fewest 64 = .ok (.iload 4, 2) := by decide +kernel
theorem dX7_fewest_66 : decode cX7_fewest 66 = .ok (.invokevirtual 142, 3) := by decide +kernel
theorem dX7_fewest_69 : decode cX7_fewest 69 = .ok (.ireturn, 1) := by decide +kernel
theorem dX7_ifCut_0 : decode cX7_ifCut 0 = .ok (.aload_n 0, 1) := by decide +kernel
theorem dX7_ifCut_1 : decode cX7_ifCut 1 = .ok (.iload_n 1, 1) := by decide +kernel
theorem dX7_ifCut_2 : decode cX7_ifCut 2 = .ok (.invokevirtual 102, 3) := by decide +kernel
theorem dX7_ifCut_5 : decode cX7_ifCut 5 = .ok (.ifCond .eq 12, 3) := by decide +kernel
theorem dX7_ifCut_8 : decode cX7_ifCut 8 = .ok (.iload_n 2, 1) := by decide +kernel
theorem dX7_ifCut_9 : decode cX7_ifCut 9 = .ok (.iconst 0, 1) := by decide +kernel
theorem dX7_ifCut_10 : decode cX7_ifCut 10 = .ok (.iconst 1, 1) := by decide +kernel
theorem dX7_ifCut_11 : decode cX7_ifCut 11 = .ok (.invokestatic 45, 3) := by decide +kernel
theorem dX7_ifCut_14 : decode cX7_ifCut 14 = .ok (.ifCond .ne 6, 3) := by decide +kernel
theorem dX7_ifCut_17 : decode cX7_ifCut 17 = .ok (.ldc 96, 2) := by decide +kernel
theorem dX7_ifCut_19 : decode cX7_ifCut 19 = .ok (.ireturn, 1) := by decide +kernel
theorem dX7_ifCut_20 : decode cX7_ifCut 20 = .ok (.aload_n 0, 1) := by decide +kernel
theorem dX7_ifCut_21 : decode cX7_ifCut 21 = .ok (.iload_n 1, 1) := by decide +kernel
theorem dX7_ifCut_22 : decode cX7_ifCut 22 = .ok (.invokevirtual 71, 3) := by decide +kernel
theorem dX7_ifCut_25 : decode cX7_ifCut 25 = .ok (.iload_n 2, 1) := by decide +kernel
theorem dX7_ifCut_26 : decode cX7_ifCut 26 = .ok (.ifCond .ne 10, 3) := by decide +kernel
theorem dX7_ifCut_29 : decode cX7_ifCut 29 = .ok (.aload_n 0, 1) := by decide +kernel
theorem dX7_ifCut_30 : decode cX7_ifCut 30 = .ok (.invokevirtual 75, 3) := by decide +kernel
theorem dX7_ifCut_33 : decode cX7_ifCut 33 = .ok (.goto 7, 3) := by decide +kernel
theorem dX7_ifCut_36 : decode cX7_ifCut 36 = .ok (.aload_n 0, 1) := by decide +kernel
theorem dX7_ifCut_37 : decode cX7_ifCut 37 = .ok (.invokevirtual 145, 3) := by decide +kernel
theorem dX7_ifCut_40 : decode cX7_ifCut 40 = .ok (.ireturn, 1) := by decide +kernel
theorem dX7_share_0 : decode cX7_share 0 = .ok (.aload_n 0, 1) := by decide +kernel
theorem dX7_share_1 : decode cX7_share 1 = .ok (.invokevirtual 79, 3) := by decide +kernel
theorem dX7_share_4 : decode cX7_share 4 = .ok (.i2f, 1) := by decide +kernel
theorem dX7_share_5 : decode cX7_share 5 = .ok (.fstore_n 1, 1) := by decide +kernel
theorem dX7_share_6 : decode cX7_share 6 = .ok (.aload_n 0, 1) := by decide +kernel
theorem dX7_share_7 : decode cX7_share 7 = .ok (.invokevirtual 82, 3) := by decide +kernel
theorem dX7_share_10 : decode cX7_share 10 = .ok (.i2f, 1) := by decide +kernel
theorem dX7_share_11 : decode cX7_share 11 = .ok (.fstore_n 2, 1) := by decide +kernel
theorem dX7_share_12 : decode cX7_share 12 = .ok (.aload_n 0, 1) := by decide +kernel
theorem dX7_share_13 : decode cX7_share 13 = .ok (.getfield 7, 3) := by decide +kernel
theorem dX7_share_16 : decode cX7_share 16 = .ok (.sipush 148, 3) := by decide +kernel
theorem dX7_share_19 : decode cX7_share 19 = .ok (.iaload, 1) := by decide +kernel
theorem dX7_share_20 : decode cX7_share 20 = .ok (.ifCond .ne 8, 3) := by decide +kernel
theorem dX7_share_23 : decode cX7_share 23 = .ok (.ldc 60, 2) := by decide +kernel
theorem dX7_share_25 : decode cX7_share 25 = .ok (.goto 9, 3) := by decide +kernel
theorem dX7_share_28 : decode cX7_share 28 = .ok (.fload_n 1, 1) := by decide +kernel
theorem dX7_share_29 : decode cX7_share 29 = .ok (.fload_n 2, 1) := by decide +kernel
theorem dX7_share_30 : decode cX7_share 30 = .ok (.fdiv, 1) := by decide +kernel
theorem dX7_share_31 : decode cX7_share 31 = .ok (.invokestatic 148, 3) := by decide +kernel
theorem dX7_share_34 : decode cX7_share 34 = .ok (.ireturn, 1) := by decide +kernel
theorem dX7_pulledSet_0 : decode cX7_pulledSet 0 = .ok (.iconst 0, 1) := by decide +kernel
theorem dX7_pulledSet_1 : decode cX7_pulledSet 1 = .ok (.istore_n 1, 1) := by decide +kernel
theorem dX7_pulledSet_2 : decode cX7_pulledSet 2 = .ok (.iconst 0, 1) := by decide +kernel
theorem dX7_pulledSet_3 : decode cX7_pulledSet 3 = .ok (.istore_n 2, 1) := by decide +kernel
theorem dX7_pulledSet_4 : decode cX7_pulledSet 4 = .ok (.iload_n 2, 1) := by decide +kernel
theorem dX7_pulledSet_5 : decode cX7_pulledSet 5 = .ok (.aload_n 0, 1) := by decide +kernel
theorem dX7_pulledSet_6 : decode cX7_pulledSet 6 = .ok (.getfield 7, 3) := by decide +kernel
theorem dX7_pulledSet_9 : decode cX7_pulledSet 9 = .ok (.sipush 148, 3) := by decide +kernel
theorem dX7_pulledSet_12 : decode cX7_pulledSet 12 = .ok (.iaload, 1) := by decide +kernel
theorem dX7_pulledSet_13 : decode cX7_pulledSet 13 = .ok (.if_icmp .ge 28, 3) := by decide +kernel
theorem dX7_pulledSet_16 : decode cX7_pulledSet 16 = .ok (.iload_n 1, 1) := by decide +kernel
theorem dX7_pulledSet_17 : decode cX7_pulledSet 17 = .ok (.aload_n 0, 1) := by decide +kernel
theorem dX7_pulledSet_18 : decode cX7_pulledSet 18 = .ok (.iload_n 2, 1) := by decide +kernel
theorem dX7_pulledSet_19 : decode cX7_pulledSet 19 = .ok (.iconst 2, 1) := by decide +kernel
theorem dX7_pulledSet_20 : decode cX7_pulledSet 20 = .ok (.invokevirtual 61, 3) := by decide +kernel
theorem dX7_pulledSet_23 : decode cX7_pulledSet 23 = .ok (.ifCond .le 9, 3) := by decide +kernel
theorem dX7_pulledSet_26 : decode cX7_pulledSet 26 = .ok (.iconst 1, 1) := by decide +kernel
theorem dX7_pulledSet_27 : decode cX7_pulledSet 27 = .ok (.iload_n 2, 1) := by decide +kernel
theorem dX7_pulledSet_28 : decode cX7_pulledSet 28 = .ok (.ishl, 1) := by decide +kernel
theorem dX7_pulledSet_29 : decode cX7_pulledSet 29 = .ok (.goto 4, 3) := by decide +kernel
theorem dX7_pulledSet_32 : decode cX7_pulledSet 32 = .ok (.iconst 0, 1) := by decide +kernel
theorem dX7_pulledSet_33 : decode cX7_pulledSet 33 = .ok (.ior, 1) := by decide +kernel
theorem dX7_pulledSet_34 : decode cX7_pulledSet 34 = .ok (.istore_n 1, 1) := by decide +kernel
theorem dX7_pulledSet_35 : decode cX7_pulledSet 35 = .ok (.iinc 2 1, 3) := by decide +kernel
theorem dX7_pulledSet_38 : decode cX7_pulledSet 38 = .ok (.goto (-34), 3) := by decide +kernel
theorem dX7_pulledSet_41 : decode cX7_pulledSet 41 = .ok (.iload_n 1, 1) := by decide +kernel
theorem dX7_pulledSet_42 : decode cX7_pulledSet 42 = .ok (.ireturn, 1) := by decide +kernel
theorem dX7_walked_0 : decode cX7_walked 0 = .ok (.iconst 0, 1) := by decide +kernel
theorem dX7_walked_1 : decode cX7_walked 1 = .ok (.istore_n 1, 1) := by decide +kernel
theorem dX7_walked_2 : decode cX7_walked 2 = .ok (.iconst 0, 1) := by decide +kernel
theorem dX7_walked_3 : decode cX7_walked 3 = .ok (.istore_n 2, 1) := by decide +kernel
theorem dX7_walked_4 : decode cX7_walked 4 = .ok (.iconst 0, 1) := by decide +kernel
theorem dX7_walked_5 : decode cX7_walked 5 = .ok (.istore_n 3, 1) := by decide +kernel
theorem dX7_walked_6 : decode cX7_walked 6 = .ok (.iload_n 3, 1) := by decide +kernel
theorem dX7_walked_7 : decode cX7_walked 7 = .ok (.aload_n 0, 1) := by decide +kernel
theorem dX7_walked_8 : decode cX7_walked 8 = .ok (.getfield 7, 3) := by decide +kernel
theorem dX7_walked_11 : decode cX7_walked 11 = .ok (.sipush 148, 3) := by decide +kernel
theorem dX7_walked_14 : decode cX7_walked 14 = .ok (.iaload, 1) := by decide +kernel
theorem dX7_walked_15 : decode cX7_walked 15 = .ok (.if_icmp .ge 60, 3) := by decide +kernel
theorem dX7_walked_18 : decode cX7_walked 18 = .ok (.iload_n 1, 1) := by decide +kernel
theorem dX7_walked_19 : decode cX7_walked 19 = .ok (.iload_n 3, 1) := by decide +kernel
theorem dX7_walked_20 : decode cX7_walked 20 = .ok (.ishr, 1) := by decide +kernel
theorem dX7_walked_21 : decode cX7_walked 21 = .ok (.iconst 1, 1) := by decide +kernel
theorem dX7_walked_22 : decode cX7_walked 22 = .ok (.iand, 1) := by decide +kernel
theorem dX7_walked_23 : decode cX7_walked 23 = .ok (.ifCond .ne 46, 3) := by decide +kernel
theorem dX7_walked_26 : decode cX7_walked 26 = .ok (.iconst 1, 1) := by decide +kernel
theorem dX7_walked_27 : decode cX7_walked 27 = .ok (.iload_n 3, 1) := by decide +kernel
theorem dX7_walked_28 : decode cX7_walked 28 = .ok (.ishl, 1) := by decide +kernel
theorem dX7_walked_29 : decode cX7_walked 29 = .ok (.istore 4, 2) := by decide +kernel
theorem dX7_walked_31 : decode cX7_walked 31 = .ok (.aload_n 0, 1) := by decide +kernel
theorem dX7_walked_32 : decode cX7_walked 32 = .ok (.iload 4, 2) := by decide +kernel
theorem dX7_walked_34 : decode cX7_walked 34 = .ok (.invokevirtual 130, 3) := by decide +kernel
theorem dX7_walked_37 : decode cX7_walked 37 = .ok (.istore 5, 2) := by decide +kernel
theorem dX7_walked_39 : decode cX7_walked 39 = .ok (.iload 5, 2) := by decide +kernel
theorem dX7_walked_41 : decode cX7_walked 41 = .ok (.iload 4, 2) := by decide +kernel
theorem dX7_walked_43 : decode cX7_walked 43 = .ok (.if_icmp .eq 18, 3) := by decide +kernel
theorem dX7_walked_46 : decode cX7_walked 46 = .ok (.iload 5, 2) := by decide +kernel
theorem dX7_walked_48 : decode cX7_walked 48 = .ok (.istore 4, 2) := by decide +kernel
theorem dX7_walked_50 : decode cX7_walked 50 = .ok (.aload_n 0, 1) := by decide +kernel
theorem dX7_walked_51 : decode cX7_walked 51 = .ok (.iload 4, 2) := by decide +kernel
theorem dX7_walked_53 : decode cX7_walked 53 = .ok (.invokevirtual 130, 3) := by decide +kernel
theorem dX7_walked_56 : decode cX7_walked 56 = .ok (.istore 5, 2) := by decide +kernel
theorem dX7_walked_58 : decode cX7_walked 58 = .ok (.goto (-19), 3) := by decide +kernel
theorem dX7_walked_61 : decode cX7_walked 61 = .ok (.iload_n 1, 1) := by decide +kernel
theorem dX7_walked_62 : decode cX7_walked 62 = .ok (.iload 4, 2) := by decide +kernel
theorem dX7_walked_64 : decode cX7_walked 64 = .ok (.ior, 1) := by decide +kernel
theorem dX7_walked_65 : decode cX7_walked 65 = .ok (.istore_n 1, 1) := by decide +kernel
theorem dX7_walked_66 : decode cX7_walked 66 = .ok (.iinc 2 1, 3) := by decide +kernel
theorem dX7_walked_69 : decode cX7_walked 69 = .ok (.iinc 3 1, 3) := by decide +kernel
theorem dX7_walked_72 : decode cX7_walked 72 = .ok (.goto (-66), 3) := by decide +kernel
theorem dX7_walked_75 : decode cX7_walked 75 = .ok (.iload_n 2, 1) := by decide +kernel
theorem dX7_walked_76 : decode cX7_walked 76 = .ok (.ireturn, 1) := by decide +kernel
theorem dX7_count_0 : decode cX7_count 0 = .ok (.aload_n 0, 1) := by decide +kernel
theorem dX7_count_1 : decode cX7_count 1 = .ok (.invokevirtual 79, 3) := by decide +kernel
theorem dX7_count_4 : decode cX7_count 4 = .ok (.istore_n 2, 1) := by decide +kernel
theorem dX7_count_5 : decode cX7_count 5 = .ok (.iload_n 1, 1) := by decide +kernel
theorem dX7_count_6 : decode cX7_count 6 = .ok (.tableswitch 234 0 20 #[98, 98, 109, 114, 119, 124, 126, 133, 162, 187, 192, 192, 192, 206, 211, 216, 234, 234, 234, 234, 225], 98) := by decide +kernel
theorem dX7_count_104 : decode cX7_count 104 = .ok (.aload_n 0, 1) := by decide +kernel
theorem dX7_count_105 : decode cX7_count 105 = .ok (.getfield 7, 3) := by decide +kernel
theorem dX7_count_108 : decode cX7_count 108 = .ok (.sipush 148, 3) := by decide +kernel
theorem dX7_count_111 : decode cX7_count 111 = .ok (.iload_n 1, 1) := by decide +kernel
theorem dX7_count_112 : decode cX7_count 112 = .ok (.iadd, 1) := by decide +kernel
theorem dX7_count_113 : decode cX7_count 113 = .ok (.iaload, 1) := by decide +kernel
theorem dX7_count_114 : decode cX7_count 114 = .ok (.ireturn, 1) := by decide +kernel
theorem dX7_count_115 : decode cX7_count 115 = .ok (.aload_n 0, 1) := by decide +kernel
theorem dX7_count_116 : decode cX7_count 116 = .ok (.invokevirtual 145, 3) := by decide +kernel
theorem dX7_count_119 : decode cX7_count 119 = .ok (.ireturn, 1) := by decide +kernel
theorem dX7_count_120 : decode cX7_count 120 = .ok (.aload_n 0, 1) := by decide +kernel
theorem dX7_count_121 : decode cX7_count 121 = .ok (.invokevirtual 154, 3) := by decide +kernel
theorem dX7_count_124 : decode cX7_count 124 = .ok (.ireturn, 1) := by decide +kernel
theorem dX7_count_125 : decode cX7_count 125 = .ok (.aload_n 0, 1) := by decide +kernel
theorem dX7_count_126 : decode cX7_count 126 = .ok (.invokevirtual 82, 3) := by decide +kernel
theorem dX7_count_129 : decode cX7_count 129 = .ok (.ireturn, 1) := by decide +kernel
theorem dX7_count_130 : decode cX7_count 130 = .ok (.iload_n 2, 1) := by decide +kernel
theorem dX7_count_131 : decode cX7_count 131 = .ok (.ireturn, 1) := by decide +kernel
theorem dX7_count_132 : decode cX7_count 132 = .ok (.aload_n 0, 1) := by decide +kernel
theorem dX7_count_133 : decode cX7_count 133 = .ok (.invokevirtual 82, 3) := by decide +kernel
theorem dX7_count_136 : decode cX7_count 136 = .ok (.iload_n 2, 1) := by decide +kernel
theorem dX7_count_137 : decode cX7_count 137 = .ok (.isub, 1) := by decide +kernel
theorem dX7_count_138 : decode cX7_count 138 = .ok (.ireturn, 1) := by decide +kernel
theorem dX7_count_139 : decode cX7_count 139 = .ok (.aload_n 0, 1) := by decide +kernel
theorem dX7_count_140 : decode cX7_count 140 = .ok (.getfield 7, 3) := by decide +kernel
theorem dX7_count_143 : decode cX7_count 143 = .ok (.sipush 148, 3) := by decide +kernel
theorem dX7_count_146 : decode cX7_count 146 = .ok (.iaload, 1) := by decide +kernel
theorem dX7_count_147 : decode cX7_count 147 = .ok (.ifCond .ne 8, 3) := by decide +kernel
theorem dX7_count_150 : decode cX7_count 150 = .ok (.ldc 60, 2) := by decide +kernel
theorem dX7_count_152 : decode cX7_count 152 = .ok (.goto 15, 3) := by decide +kernel
theorem dX7_count_155 : decode cX7_count 155 = .ok (.aload_n 0, 1) := by decide +kernel
theorem dX7_count_156 : decode cX7_count 156 = .ok (.invokevirtual 117, 3) := by decide +kernel
theorem dX7_count_159 : decode cX7_count 159 = .ok (.ifCond .eq 7, 3) := by decide +kernel
theorem dX7_count_162 : decode cX7_count 162 = .ok (.iconst 1, 1) := by decide +kernel
theorem dX7_count_163 : decode cX7_count 163 = .ok (.goto 4, 3) := by decide +kernel
theorem dX7_count_166 : decode cX7_count 166 = .ok (.iconst 0, 1) := by decide +kernel
theorem dX7_count_167 : decode cX7_count 167 = .ok (.ireturn, 1) := by decide +kernel
theorem dX7_count_168 : decode cX7_count 168 = .ok (.aload_n 0, 1) := by decide +kernel
theorem dX7_count_169 : decode cX7_count 169 = .ok (.getfield 7, 3) := by decide +kernel
theorem dX7_count_172 : decode cX7_count 172 = .ok (.sipush 148, 3) := by decide +kernel
theorem dX7_count_175 : decode cX7_count 175 = .ok (.iaload, 1) := by decide +kernel
theorem dX7_count_176 : decode cX7_count 176 = .ok (.ifCond .ne 8, 3) := by decide +kernel
theorem dX7_count_179 : decode cX7_count 179 = .ok (.ldc 60, 2) := by decide +kernel
theorem dX7_count_181 : decode cX7_count 181 = .ok (.goto 11, 3) := by decide +kernel
theorem dX7_count_184 : decode cX7_count 184 = .ok (.aload_n 0, 1) := by decide +kernel
theorem dX7_count_185 : decode cX7_count 185 = .ok (.getfield 7, 3) := by decide +kernel
theorem dX7_count_188 : decode cX7_count 188 = .ok (.sipush 150, 3) := by decide +kernel
theorem dX7_count_191 : decode cX7_count 191 = .ok (.iaload, 1) := by decide +kernel
theorem dX7_count_192 : decode cX7_count 192 = .ok (.ireturn, 1) := by decide +kernel
theorem dX7_count_193 : decode cX7_count 193 = .ok (.aload_n 0, 1) := by decide +kernel
theorem dX7_count_194 : decode cX7_count 194 = .ok (.invokevirtual 157, 3) := by decide +kernel
theorem dX7_count_197 : decode cX7_count 197 = .ok (.ireturn, 1) := by decide +kernel
theorem dX7_count_198 : decode cX7_count 198 = .ok (.aload_n 0, 1) := by decide +kernel
theorem dX7_count_199 : decode cX7_count 199 = .ok (.getfield 7, 3) := by decide +kernel
theorem dX7_count_202 : decode cX7_count 202 = .ok (.sipush 151, 3) := by decide +kernel
theorem dX7_count_205 : decode cX7_count 205 = .ok (.iload_n 1, 1) := by decide +kernel
theorem dX7_count_206 : decode cX7_count 206 = .ok (.iadd, 1) := by decide +kernel
theorem dX7_count_207 : decode cX7_count 207 = .ok (.bipush 10, 2) := by decide +kernel
theorem dX7_count_209 : decode cX7_count 209 = .ok (.isub, 1) := by decide +kernel
theorem dX7_count_210 : decode cX7_count 210 = .ok (.iaload, 1) := by decide +kernel
theorem dX7_count_211 : decode cX7_count 211 = .ok (.ireturn, 1) := by decide +kernel
theorem dX7_count_212 : decode cX7_count 212 = .ok (.aload_n 0, 1) := by decide +kernel
theorem dX7_count_213 : decode cX7_count 213 = .ok (.getfield 41, 3) := by decide +kernel
theorem dX7_count_216 : decode cX7_count 216 = .ok (.ireturn, 1) := by decide +kernel
theorem dX7_count_217 : decode cX7_count 217 = .ok (.aload_n 0, 1) := by decide +kernel
theorem dX7_count_218 : decode cX7_count 218 = .ok (.getfield 160, 3) := by decide +kernel
theorem dX7_count_221 : decode cX7_count 221 = .ok (.ireturn, 1) := by decide +kernel
theorem dX7_count_222 : decode cX7_count 222 = .ok (.aload_n 0, 1) := by decide +kernel
theorem dX7_count_223 : decode cX7_count 223 = .ok (.getfield 7, 3) := by decide +kernel
theorem dX7_count_226 : decode cX7_count 226 = .ok (.sipush 154, 3) := by decide +kernel
theorem dX7_count_229 : decode cX7_count 229 = .ok (.iaload, 1) := by decide +kernel
theorem dX7_count_230 : decode cX7_count 230 = .ok (.ireturn, 1) := by decide +kernel
theorem dX7_count_231 : decode cX7_count 231 = .ok (.aload_n 0, 1) := by decide +kernel
theorem dX7_count_232 : decode cX7_count 232 = .ok (.getfield 7, 3) := by decide +kernel
theorem dX7_count_235 : decode cX7_count 235 = .ok (.sipush 155, 3) := by decide +kernel
theorem dX7_count_238 : decode cX7_count 238 = .ok (.iaload, 1) := by decide +kernel
theorem dX7_count_239 : decode cX7_count 239 = .ok (.ireturn, 1) := by decide +kernel
theorem dX7_count_240 : decode cX7_count 240 = .ok (.ldc 96, 2) := by decide +kernel
theorem dX7_count_242 : decode cX7_count 242 = .ok (.ireturn, 1) := by decide +kernel
theorem dX7_undo_0 : decode cX7_undo 0 = .ok (.aload_n 0, 1) := by decide +kernel
theorem dX7_undo_1 : decode cX7_undo 1 = .ok (.getfield 41, 3) := by decide +kernel
theorem dX7_undo_4 : decode cX7_undo 4 = .ok (.ifCond .ne 6, 3) := by decide +kernel
theorem dX7_undo_7 : decode cX7_undo 7 = .ok (.ldc 101, 2) := by decide +kernel
theorem dX7_undo_9 : decode cX7_undo 9 = .ok (.ireturn, 1) := by decide +kernel
theorem dX7_undo_10 : decode cX7_undo 10 = .ok (.aload_n 0, 1) := by decide +kernel
theorem dX7_undo_11 : decode cX7_undo 11 = .ok (.dup, 1) := by decide +kernel
theorem dX7_undo_12 : decode cX7_undo 12 = .ok (.getfield 41, 3) := by decide +kernel
theorem dX7_undo_15 : decode cX7_undo 15 = .ok (.iconst 1, 1) := by decide +kernel
theorem dX7_undo_16 : decode cX7_undo 16 = .ok (.isub, 1) := by decide +kernel
theorem dX7_undo_17 : decode cX7_undo 17 = .ok (.putfield 41, 3) := by decide +kernel
theorem dX7_undo_20 : decode cX7_undo 20 = .ok (.iconst 0, 1) := by decide +kernel
theorem dX7_undo_21 : decode cX7_undo 21 = .ok (.istore_n 1, 1) := by decide +kernel
theorem dX7_undo_22 : decode cX7_undo 22 = .ok (.iload_n 1, 1) := by decide +kernel
theorem dX7_undo_23 : decode cX7_undo 23 = .ok (.sipush 156, 3) := by decide +kernel
theorem dX7_undo_26 : decode cX7_undo 26 = .ok (.if_icmp .ge 30, 3) := by decide +kernel
theorem dX7_undo_29 : decode cX7_undo 29 = .ok (.aload_n 0, 1) := by decide +kernel
theorem dX7_undo_30 : decode cX7_undo 30 = .ok (.getfield 7, 3) := by decide +kernel
theorem dX7_undo_33 : decode cX7_undo 33 = .ok (.iload_n 1, 1) := by decide +kernel
theorem dX7_undo_34 : decode cX7_undo 34 = .ok (.aload_n 0, 1) := by decide +kernel
theorem dX7_undo_35 : decode cX7_undo 35 = .ok (.getfield 13, 3) := by decide +kernel
theorem dX7_undo_38 : decode cX7_undo 38 = .ok (.sipush 156, 3) := by decide +kernel
theorem dX7_undo_41 : decode cX7_undo 41 = .ok (.aload_n 0, 1) := by decide +kernel
theorem dX7_undo_42 : decode cX7_undo 42 = .ok (.getfield 41, 3) := by decide +kernel
theorem dX7_undo_45 : decode cX7_undo 45 = .ok (.imul, 1) := by decide +kernel
theorem dX7_undo_46 : decode cX7_undo 46 = .ok (.iload_n 1, 1) := by decide +kernel
theorem dX7_undo_47 : decode cX7_undo 47 = .ok (.iadd, 1) := by decide +kernel
theorem dX7_undo_48 : decode cX7_undo 48 = .ok (.iaload, 1) := by decide +kernel
theorem dX7_undo_49 : decode cX7_undo 49 = .ok (.iastore, 1) := by decide +kernel
theorem dX7_undo_50 : decode cX7_undo 50 = .ok (.iinc 1 1, 3) := by decide +kernel
theorem dX7_undo_53 : decode cX7_undo 53 = .ok (.goto (-31), 3) := by decide +kernel
theorem dX7_undo_56 : decode cX7_undo 56 = .ok (.aload_n 0, 1) := by decide +kernel
theorem dX7_undo_57 : decode cX7_undo 57 = .ok (.getfield 41, 3) := by decide +kernel
theorem dX7_undo_60 : decode cX7_undo 60 = .ok (.ireturn, 1) := by decide +kernel
theorem dX7_type_0 : decode cX7_type 0 = .ok (.iload_n 1, 1) := by decide +kernel
theorem dX7_type_1 : decode cX7_type 1 = .ok (.bipush 32, 2) := by decide +kernel
theorem dX7_type_3 : decode cX7_type 3 = .ok (.bipush 126, 2) := by decide +kernel
theorem dX7_type_5 : decode cX7_type 5 = .ok (.invokestatic 45, 3) := by decide +kernel
theorem dX7_type_8 : decode cX7_type 8 = .ok (.ifCond .ne 6, 3) := by decide +kernel
theorem dX7_type_11 : decode cX7_type 11 = .ok (.ldc 96, 2) := by decide +kernel
theorem dX7_type_13 : decode cX7_type 13 = .ok (.ireturn, 1) := by decide +kernel
theorem dX7_type_14 : decode cX7_type 14 = .ok (.aload_n 0, 1) := by decide +kernel
theorem dX7_type_15 : decode cX7_type 15 = .ok (.getfield 160, 3) := by decide +kernel
theorem dX7_type_18 : decode cX7_type 18 = .ok (.bipush 60, 2) := by decide +kernel
theorem dX7_type_20 : decode cX7_type 20 = .ok (.if_icmp .ne 6, 3) := by decide +kernel
theorem dX7_type_23 : decode cX7_type 23 = .ok (.ldc 97, 2) := by decide +kernel
theorem dX7_type_25 : decode cX7_type 25 = .ok (.ireturn, 1) := by decide +kernel
theorem dX7_type_26 : decode cX7_type 26 = .ok (.aload_n 0, 1) := by decide +kernel
theorem dX7_type_27 : decode cX7_type 27 = .ok (.getfield 19, 3) := by decide +kernel
theorem dX7_type_30 : decode cX7_type 30 = .ok (.aload_n 0, 1) := by decide +kernel
theorem dX7_type_31 : decode cX7_type 31 = .ok (.getfield 160, 3) := by decide +kernel
theorem dX7_type_34 : decode cX7_type 34 = .ok (.iload_n 1, 1) := by decide +kernel
theorem dX7_type_35 : decode cX7_type 35 = .ok (.iastore, 1) := by decide +kernel
theorem dX7_type_36 : decode cX7_type 36 = .ok (.aload_n 0, 1) := by decide +kernel
theorem dX7_type_37 : decode cX7_type 37 = .ok (.dup, 1) := by decide +kernel
theorem dX7_type_38 : decode cX7_type 38 = .ok (.getfield 160, 3) := by decide +kernel
theorem dX7_type_41 : decode cX7_type 41 = .ok (.iconst 1, 1) := by decide +kernel
theorem dX7_type_42 : decode cX7_type 42 = .ok (.iadd, 1) := by decide +kernel
theorem dX7_type_43 : decode cX7_type 43 = .ok (.putfield 160, 3) := by decide +kernel
theorem dX7_type_46 : decode cX7_type 46 = .ok (.aload_n 0, 1) := by decide +kernel
theorem dX7_type_47 : decode cX7_type 47 = .ok (.getfield 160, 3) := by decide +kernel
theorem dX7_type_50 : decode cX7_type 50 = .ok (.ireturn, 1) := by decide +kernel
theorem dX7_clearText_0 : decode cX7_clearText 0 = .ok (.aload_n 0, 1) := by decide +kernel
theorem dX7_clearText_1 : decode cX7_clearText 1 = .ok (.getfield 160, 3) := by decide +kernel
theorem dX7_clearText_4 : decode cX7_clearText 4 = .ok (.istore_n 1, 1) := by decide +kernel
theorem dX7_clearText_5 : decode cX7_clearText 5 = .ok (.aload_n 0, 1) := by decide +kernel
theorem dX7_clearText_6 : decode cX7_clearText 6 = .ok (.iconst 0, 1) := by decide +kernel
theorem dX7_clearText_7 : decode cX7_clearText 7 = .ok (.putfield 160, 3) := by decide +kernel
theorem dX7_clearText_10 : decode cX7_clearText 10 = .ok (.iload_n 1, 1) := by decide +kernel
theorem dX7_clearText_11 : decode cX7_clearText 11 = .ok (.ireturn, 1) := by decide +kernel
theorem dX7_isAt_0 : decode cX7_isAt 0 = .ok (.aload_n 0, 1) := by decide +kernel
theorem dX7_isAt_1 : decode cX7_isAt 1 = .ok (.getfield 163, 3) := by decide +kernel
theorem dX7_isAt_4 : decode cX7_isAt 4 = .ok (.aload_n 0, 1) := by decide +kernel
theorem dX7_isAt_5 : decode cX7_isAt 5 = .ok (.getfield 160, 3) := by decide +kernel
theorem dX7_isAt_8 : decode cX7_isAt 8 = .ok (.if_icmp .ge 24, 3) := by decide +kernel
theorem dX7_isAt_11 : decode cX7_isAt 11 = .ok (.aload_n 0, 1) := by decide +kernel
theorem dX7_isAt_12 : decode cX7_isAt 12 = .ok (.getfield 19, 3) := by decide +kernel
theorem dX7_isAt_15 : decode cX7_isAt 15 = .ok (.aload_n 0, 1) := by decide +kernel
theorem dX7_isAt_16 : decode cX7_isAt 16 = .ok (.getfield 163, 3) := by decide +kernel
theorem dX7_isAt_19 : decode cX7_isAt 19 = .ok (.iaload, 1) := by decide +kernel
theorem dX7_isAt_20 : decode cX7_isAt 20 = .ok (.iload_n 1, 1) := by decide +kernel
theorem dX7_isAt_21 : decode cX7_isAt 21 = .ok (.iload_n 2, 1) := by decide +kernel
theorem dX7_isAt_22 : decode cX7_isAt 22 = .ok (.invokestatic 45, 3) := by decide +kernel
theorem dX7_isAt_25 : decode cX7_isAt 25 = .ok (.ifCond .eq 7, 3) := by decide +kernel
theorem dX7_isAt_28 : decode cX7_isAt 28 = .ok (.iconst 1, 1) := by decide +kernel
theorem dX7_isAt_29 : decode cX7_isAt 29 = .ok (.goto 4, 3) := by decide +kernel
theorem dX7_isAt_32 : decode cX7_isAt 32 = .ok (.iconst 0, 1) := by decide +kernel
theorem dX7_isAt_33 : decode cX7_isAt 33 = .ok (.ireturn, 1) := by decide +kernel
theorem dX7_sign_0 : decode cX7_sign 0 = .ok (.aload_n 0, 1) := by decide +kernel
theorem dX7_sign_1 : decode cX7_sign 1 = .ok (.iload_n 1, 1) := by decide +kernel
theorem dX7_sign_2 : decode cX7_sign 2 = .ok (.iload_n 1, 1) := by decide +kernel
theorem dX7_sign_3 : decode cX7_sign 3 = .ok (.invokevirtual 166, 3) := by decide +kernel
theorem dX7_sign_6 : decode cX7_sign 6 = .ok (.istore_n 2, 1) := by decide +kernel
theorem dX7_sign_7 : decode cX7_sign 7 = .ok (.aload_n 0, 1) := by decide +kernel
theorem dX7_sign_8 : decode cX7_sign 8 = .ok (.dup, 1) := by decide +kernel
theorem dX7_sign_9 : decode cX7_sign 9 = .ok (.getfield 163, 3) := by decide +kernel
theorem dX7_sign_12 : decode cX7_sign 12 = .ok (.iload_n 2, 1) := by decide +kernel
theorem dX7_sign_13 : decode cX7_sign 13 = .ok (.ifCond .eq 7, 3) := by decide +kernel
theorem dX7_sign_16 : decode cX7_sign 16 = .ok (.iconst 1, 1) := by decide +kernel
theorem dX7_sign_17 : decode cX7_sign 17 = .ok (.goto 4, 3) := by decide +kernel
theorem dX7_sign_20 : decode cX7_sign 20 = .ok (.iconst 0, 1) := by decide +kernel
theorem dX7_sign_21 : decode cX7_sign 21 = .ok (.iadd, 1) := by decide +kernel
theorem dX7_sign_22 : decode cX7_sign 22 = .ok (.putfield 163, 3) := by decide +kernel
theorem dX7_sign_25 : decode cX7_sign 25 = .ok (.iload_n 2, 1) := by decide +kernel
theorem dX7_sign_26 : decode cX7_sign 26 = .ok (.ireturn, 1) := by decide +kernel
theorem dX7_numbered_0 : decode cX7_numbered 0 = .ok (.aload_n 0, 1) := by decide +kernel
theorem dX7_numbered_1 : decode cX7_numbered 1 = .ok (.getfield 163, 3) := by decide +kernel
theorem dX7_numbered_4 : decode cX7_numbered 4 = .ok (.istore_n 2, 1) := by decide +kernel
theorem dX7_numbered_5 : decode cX7_numbered 5 = .ok (.aload_n 0, 1) := by decide +kernel
theorem dX7_numbered_6 : decode cX7_numbered 6 = .ok (.getfield 34, 3) := by decide +kernel
theorem dX7_numbered_9 : decode cX7_numbered 9 = .ok (.iload_n 1, 1) := by decide +kernel
theorem dX7_numbered_10 : decode cX7_numbered 10 = .ok (.iconst 0, 1) := by decide +kernel
theorem dX7_numbered_11 : decode cX7_numbered 11 = .ok (.iastore, 1) := by decide +kernel
theorem dX7_numbered_12 : decode cX7_numbered 12 = .ok (.aload_n 0, 1) := by decide +kernel
theorem dX7_numbered_13 : decode cX7_numbered 13 = .ok (.bipush 48, 2) := by decide +kernel
theorem dX7_numbered_15 : decode cX7_numbered 15 = .ok (.bipush 57, 2) := by decide +kernel
theorem dX7_numbered_17 : decode cX7_numbered 17 = .ok (.invokevirtual 166, 3) := by decide +kernel
theorem dX7_numbered_20 : decode cX7_numbered 20 = .ok (.ifCond .eq 54, 3) := by decide +kernel
theorem dX7_numbered_23 : decode cX7_numbered 23 = .ok (.aload_n 0, 1) := by decide +kernel
theorem dX7_numbered_24 : decode cX7_numbered 24 = .ok (.getfield 163, 3) := by decide +kernel
theorem dX7_numbered_27 : decode cX7_numbered 27 = .ok (.iload_n 2, 1) := by decide +kernel
theorem dX7_numbered_28 : decode cX7_numbered 28 = .ok (.isub, 1) := by decide +kernel
theorem dX7_numbered_29 : decode cX7_numbered 29 = .ok (.iconst 2, 1) := by decide +kernel
theorem dX7_numbered_30 : decode cX7_numbered 30 = .ok (.if_icmp .ge 44, 3) := by decide +kernel
theorem dX7_numbered_33 : decode cX7_numbered 33 = .ok (.aload_n 0, 1) := by decide +kernel
theorem dX7_numbered_34 : decode cX7_numbered 34 = .ok (.getfield 34, 3) := by decide +kernel
theorem dX7_numbered_37 : decode cX7_numbered 37 = .ok (.iload_n 1, 1) := by decide +kernel
theorem dX7_numbered_38 : decode cX7_numbered 38 = .ok (.bipush 10, 2) := by decide +kernel
theorem dX7_numbered_40 : decode cX7_numbered 40 = .ok (.aload_n 0, 1) := by decide +kernel
theorem dX7_numbered_41 : decode cX7_numbered 41 = .ok (.getfield 34, 3) := by decide +kernel
theorem dX7_numbered_44 : decode cX7_numbered 44 = .ok (.iload_n 1, 1) := by decide +kernel
theorem dX7_numbered_45 : decode cX7_numbered 45 = .ok (.iaload, 1) := by decide +kernel
theorem dX7_numbered_46 : decode cX7_numbered 46 = .ok (.imul, 1) := by decide +kernel
theorem dX7_numbered_47 : decode cX7_numbered 47 = .ok (.aload_n 0, 1) := by decide +kernel
theorem dX7_numbered_48 : decode cX7_numbered 48 = .ok (.getfield 19, 3) := by decide +kernel
theorem dX7_numbered_51 : decode cX7_numbered 51 = .ok (.aload_n 0, 1) := by decide +kernel
theorem dX7_numbered_52 : decode cX7_numbered 52 = .ok (.getfield 163, 3) := by decide +kernel
theorem dX7_numbered_55 : decode cX7_numbered 55 = .ok (.iaload, 1) := by decide +kernel
theorem dX7_numbered_56 : decode cX7_numbered 56 = .ok (.iadd, 1) := by decide +kernel
theorem dX7_numbered_57 : decode cX7_numbered 57 = .ok (.bipush 48, 2) := by decide +kernel
theorem dX7_numbered_59 : decode cX7_numbered 59 = .ok (.isub, 1) := by decide +kernel
theorem dX7_numbered_60 : decode cX7_numbered 60 = .ok (.iastore, 1) := by decide +kernel
theorem dX7_numbered_61 : decode cX7_numbered 61 = .ok (.aload_n 0, 1) := by decide +kernel
theorem dX7_numbered_62 : decode cX7_numbered 62 = .ok (.dup, 1) := by decide +kernel
theorem dX7_numbered_63 : decode cX7_numbered 63 = .ok (.getfield 163, 3) := by decide +kernel
theorem dX7_numbered_66 : decode cX7_numbered 66 = .ok (.iconst 1, 1) := by decide +kernel
theorem dX7_numbered_67 : decode cX7_numbered 67 = .ok (.iadd, 1) := by decide +kernel
theorem dX7_numbered_68 : decode cX7_numbered 68 = .ok (.putfield 163, 3) := by decide +kernel
theorem dX7_numbered_71 : decode cX7_numbered 71 = .ok (.goto (-59), 3) := by decide +kernel
theorem dX7_numbered_74 : decode cX7_numbered 74 = .ok (.aload_n 0, 1) := by decide +kernel
theorem dX7_numbered_75 : decode cX7_numbered 75 = .ok (.getfield 163, 3) := by decide +kernel
theorem dX7_numbered_78 : decode cX7_numbered 78 = .ok (.iload_n 2, 1) := by decide +kernel
theorem dX7_numbered_79 : decode cX7_numbered 79 = .ok (.if_icmp .le 7, 3) := by decide +kernel
theorem dX7_numbered_82 : decode cX7_numbered 82 = .ok (.iconst 1, 1) := by decide +kernel
theorem dX7_numbered_83 : decode cX7_numbered 83 = .ok (.goto 4, 3) := by decide +kernel
theorem dX7_numbered_86 : decode cX7_numbered 86 = .ok (.iconst 0, 1) := by decide +kernel
theorem dX7_numbered_87 : decode cX7_numbered 87 = .ok (.ireturn, 1) := by decide +kernel
theorem dX7_numbersOf_0 : decode cX7_numbersOf 0 = .ok (.iload_n 0, 1) := by decide +kernel
theorem dX7_numbersOf_1 : decode cX7_numbersOf 1 = .ok (.tableswitch 123 97 121 #[115, 123, 119, 123, 123, 123, 123, 123, 123, 123, 119, 123, 123, 119, 123, 117, 123, 123, 123, 123, 115, 121, 123, 123, 119], 115) := by decide +kernel
theorem dX7_numbersOf_116 : decode cX7_numbersOf 116 = .ok (.iconst 3, 1) := by decide +kernel
theorem dX7_numbersOf_117 : decode cX7_numbersOf 117 = .ok (.ireturn, 1) := by decide +kernel
theorem dX7_numbersOf_118 : decode cX7_numbersOf 118 = .ok (.iconst 2, 1) := by decide +kernel
theorem dX7_numbersOf_119 : decode cX7_numbersOf 119 = .ok (.ireturn, 1) := by decide +kernel
theorem dX7_numbersOf_120 : decode cX7_numbersOf 120 = .ok (.iconst 1, 1) := by decide +kernel
theorem dX7_numbersOf_121 : decode cX7_numbersOf 121 = .ok (.ireturn, 1) := by decide +kernel
theorem dX7_numbersOf_122 : decode cX7_numbersOf 122 = .ok (.iconst 0, 1) := by decide +kernel
theorem dX7_numbersOf_123 : decode cX7_numbersOf 123 = .ok (.ireturn, 1) := by decide +kernel
theorem dX7_numbersOf_124 : decode cX7_numbersOf 124 = .ok (.ldc 60, 2) := by decide +kernel
theorem dX7_numbersOf_126 : decode cX7_numbersOf 126 = .ok (.ireturn, 1) := by decide +kernel
theorem dX7_parses_0 : decode cX7_parses 0 = .ok (.aload_n 0, 1) := by decide +kernel
theorem dX7_parses_1 : decode cX7_parses 1 = .ok (.aload_n 0, 1) := by decide +kernel
theorem dX7_parses_2 : decode cX7_parses 2 = .ok (.bipush 33, 2) := by decide +kernel
theorem dX7_parses_4 : decode cX7_parses 4 = .ok (.bipush 126, 2) := by decide +kernel
theorem dX7_parses_6 : decode cX7_parses 6 = .ok (.invokevirtual 166, 3) := by decide +kernel
theorem dX7_parses_9 : decode cX7_parses 9 = .ok (.ifCond .eq 15, 3) := by decide +kernel
theorem dX7_parses_12 : decode cX7_parses 12 = .ok (.aload_n 0, 1) := by decide +kernel
theorem dX7_parses_13 : decode cX7_parses 13 = .ok (.getfield 19, 3) := by decide +kernel
theorem dX7_parses_16 : decode cX7_parses 16 = .ok (.aload_n 0, 1) := by decide +kernel
theorem dX7_parses_17 : decode cX7_parses 17 = .ok (.getfield 163, 3) := by decide +kernel
theorem dX7_parses_20 : decode cX7_parses 20 = .ok (.iaload, 1) := by decide +kernel
theorem dX7_parses_21 : decode cX7_parses 21 = .ok (.goto 4, 3) := by decide +kernel
theorem dX7_parses_24 : decode cX7_parses 24 = .ok (.iconst 0, 1) := by decide +kernel
theorem dX7_parses_25 : decode cX7_parses 25 = .ok (.putfield 169, 3) := by decide +kernel
theorem dX7_parses_28 : decode cX7_parses 28 = .ok (.aload_n 0, 1) := by decide +kernel
theorem dX7_parses_29 : decode cX7_parses 29 = .ok (.getfield 169, 3) := by decide +kernel
theorem dX7_parses_32 : decode cX7_parses 32 = .ok (.invokestatic 172, 3) := by decide +kernel
theorem dX7_parses_35 : decode cX7_parses 35 = .ok (.istore_n 1, 1) := by decide +kernel
theorem dX7_parses_36 : decode cX7_parses 36 = .ok (.iload_n 1, 1) := by decide +kernel
theorem dX7_parses_37 : decode cX7_parses 37 = .ok (.ifCond .ge 5, 3) := by decide +kernel
theorem dX7_parses_40 : decode cX7_parses 40 = .ok (.iconst 0, 1) := by decide +kernel
theorem dX7_parses_41 : decode cX7_parses 41 = .ok (.ireturn, 1) := by decide +kernel
theorem dX7_parses_42 : decode cX7_parses 42 = .ok (.aload_n 0, 1) := by decide +kernel
theorem dX7_parses_43 : decode cX7_parses 43 = .ok (.dup, 1) := by decide +kernel
theorem dX7_parses_44 : decode cX7_parses 44 = .ok (.getfield 163, 3) := by decide +kernel
theorem dX7_parses_47 : decode cX7_parses 47 = .ok (.iconst 1, 1) := by decide +kernel
theorem dX7_parses_48 : decode cX7_parses 48 = .ok (.iadd, 1) := by decide +kernel
theorem dX7_parses_49 : decode cX7_parses 49 = .ok (.putfield 163, 3) := by decide +kernel
theorem dX7_parses_52 : decode cX7_parses 52 = .ok (.iload_n 1, 1) := by decide +kernel
theorem dX7_parses_53 : decode cX7_parses 53 = .ok (.ifCond .eq 11, 3) := by decide +kernel
theorem dX7_parses_56 : decode cX7_parses 56 = .ok (.aload_n 0, 1) := by decide +kernel
theorem dX7_parses_57 : decode cX7_parses 57 = .ok (.iconst 0, 1) := by decide +kernel
theorem dX7_parses_58 : decode cX7_parses 58 = .ok (.invokevirtual 175, 3) := by decide +kernel
theorem dX7_parses_61 : decode cX7_parses 61 = .ok (.ifCond .eq 7, 3) := by decide +kernel
theorem dX7_parses_64 : decode cX7_parses 64 = .ok (.iconst 1, 1) := by decide +kernel
theorem dX7_parses_65 : decode cX7_parses 65 = .ok (.goto 4, 3) := by decide +kernel
theorem dX7_parses_68 : decode cX7_parses 68 = .ok (.iconst 0, 1) := by decide +kernel
theorem dX7_parses_69 : decode cX7_parses 69 = .ok (.istore_n 2, 1) := by decide +kernel
theorem dX7_parses_70 : decode cX7_parses 70 = .ok (.iconst 1, 1) := by decide +kernel
theorem dX7_parses_71 : decode cX7_parses 71 = .ok (.istore_n 3, 1) := by decide +kernel
theorem dX7_parses_72 : decode cX7_parses 72 = .ok (.iload_n 3, 1) := by decide +kernel
theorem dX7_parses_73 : decode cX7_parses 73 = .ok (.iload_n 1, 1) := by decide +kernel
theorem dX7_parses_74 : decode cX7_parses 74 = .ok (.if_icmp .ge 36, 3) := by decide +kernel
theorem dX7_parses_77 : decode cX7_parses 77 = .ok (.iload_n 2, 1) := by decide +kernel
theorem dX7_parses_78 : decode cX7_parses 78 = .ok (.ifCond .eq 32, 3) := by decide +kernel
theorem dX7_parses_81 : decode cX7_parses 81 = .ok (.aload_n 0, 1) := by decide +kernel
theorem dX7_parses_82 : decode cX7_parses 82 = .ok (.bipush 44, 2) := by decide +kernel
theorem dX7_parses_84 : decode cX7_parses 84 = .ok (.invokevirtual 178, 3) := by decide +kernel
theorem dX7_parses_87 : decode cX7_parses 87 = .ok (.ifCond .eq 15, 3) := by decide +kernel
theorem dX7_parses_90 : decode cX7_parses 90 = .ok (.aload_n 0, 1) := by decide +kernel
theorem dX7_parses_91 : decode cX7_parses 91 = .ok (.iload_n 3, 1) := by decide +kernel
theorem dX7_parses_92 : decode cX7_parses 92 = .ok (.invokevirtual 175, 3) := by decide +kernel
theorem dX7_parses_95 : decode cX7_parses 95 = .ok (.ifCond .eq 7, 3) := by decide +kernel
theorem dX7_parses_98 : decode cX7_parses 98 = .ok (.iconst 1, 1) := by decide +kernel
theorem dX7_parses_99 : decode cX7_parses 99 = .ok (.goto 4, 3) := by decide +kernel
theorem dX7_parses_102 : decode cX7_parses 102 = .ok (.iconst 0, 1) := by decide +kernel
theorem dX7_parses_103 : decode cX7_parses 103 = .ok (.istore_n 2, 1) := by decide +kernel
theorem dX7_parses_104 : decode cX7_parses 104 = .ok (.iinc 3 1, 3) := by decide +kernel
theorem dX7_parses_107 : decode cX7_parses 107 = .ok (.goto (-35), 3) := by decide +kernel
theorem dX7_parses_110 : decode cX7_parses 110 = .ok (.iload_n 2, 1) := by decide +kernel
theorem dX7_parses_111 : decode cX7_parses 111 = .ok (.ifCond .eq 16, 3) := by decide +kernel
theorem dX7_parses_114 : decode cX7_parses 114 = .ok (.aload_n 0, 1) := by decide +kernel
theorem dX7_parses_115 : decode cX7_parses 115 = .ok (.bipush 59, 2) := by decide +kernel
theorem dX7_parses_117 : decode cX7_parses 117 = .ok (.invokevirtual 178, 3) := by decide +kernel
theorem dX7_parses_120 : decode cX7_parses 120 = .ok (.ifCond .eq 7, 3) := by decide +kernel
theorem dX7_parses_123 : decode cX7_parses 123 = .ok (.iconst 1, 1) := by decide +kernel
theorem dX7_parses_124 : decode cX7_parses 124 = .ok (.goto 4, 3) := by decide +kernel
theorem dX7_parses_127 : decode cX7_parses 127 = .ok (.iconst 0, 1) := by decide +kernel
theorem dX7_parses_128 : decode cX7_parses 128 = .ok (.ireturn, 1) := by decide +kernel
theorem dX7_does_0 : decode cX7_does 0 = .ok (.aload_n 0, 1) := by decide +kernel
theorem dX7_does_1 : decode cX7_does 1 = .ok (.getfield 169, 3) := by decide +kernel
theorem dX7_does_4 : decode cX7_does 4 = .ok (.tableswitch 217 97 121 #[133, 217, 170, 217, 217, 217, 217, 217, 217, 217, 181, 217, 217, 192, 217, 116, 217, 217, 217, 217, 133, 217, 217, 217, 192], 116) := by decide +kernel
theorem dX7_does_120 : decode cX7_does 120 = .ok (.aload_n 0, 1) := by decide +kernel
theorem dX7_does_121 : decode cX7_does 121 = .ok (.aload_n 0, 1) := by decide +kernel
theorem dX7_does_122 : decode cX7_does 122 = .ok (.getfield 34, 3) := by decide +kernel
theorem dX7_does_125 : decode cX7_does 125 = .ok (.iconst 0, 1) := by decide +kernel
theorem dX7_does_126 : decode cX7_does 126 = .ok (.iaload, 1) := by decide +kernel
theorem dX7_does_127 : decode cX7_does 127 = .ok (.aload_n 0, 1) := by decide +kernel
theorem dX7_does_128 : decode cX7_does 128 = .ok (.getfield 34, 3) := by decide +kernel
theorem dX7_does_131 : decode cX7_does 131 = .ok (.iconst 1, 1) := by decide +kernel
theorem dX7_does_132 : decode cX7_does 132 = .ok (.iaload, 1) := by decide +kernel
theorem dX7_does_133 : decode cX7_does 133 = .ok (.invokevirtual 181, 3) := by decide +kernel
theorem dX7_does_136 : decode cX7_does 136 = .ok (.ireturn, 1) := by decide +kernel
theorem dX7_does_137 : decode cX7_does 137 = .ok (.aload_n 0, 1) := by decide +kernel
theorem dX7_does_138 : decode cX7_does 138 = .ok (.aload_n 0, 1) := by decide +kernel
theorem dX7_does_139 : decode cX7_does 139 = .ok (.getfield 34, 3) := by decide +kernel
theorem dX7_does_142 : decode cX7_does 142 = .ok (.iconst 0, 1) := by decide +kernel
theorem dX7_does_143 : decode cX7_does 143 = .ok (.iaload, 1) := by decide +kernel
theorem dX7_does_144 : decode cX7_does 144 = .ok (.aload_n 0, 1) := by decide +kernel
theorem dX7_does_145 : decode cX7_does 145 = .ok (.getfield 34, 3) := by decide +kernel
theorem dX7_does_148 : decode cX7_does 148 = .ok (.iconst 1, 1) := by decide +kernel
theorem dX7_does_149 : decode cX7_does 149 = .ok (.iaload, 1) := by decide +kernel
theorem dX7_does_150 : decode cX7_does 150 = .ok (.aload_n 0, 1) := by decide +kernel
theorem dX7_does_151 : decode cX7_does 151 = .ok (.getfield 169, 3) := by decide +kernel
theorem dX7_does_154 : decode cX7_does 154 = .ok (.bipush 117, 2) := by decide +kernel
theorem dX7_does_156 : decode cX7_does 156 = .ok (.if_icmp .ne 7, 3) := by decide +kernel
theorem dX7_does_159 : decode cX7_does 159 = .ok (.iconst 1, 1) := by decide +kernel
theorem dX7_does_160 : decode cX7_does 160 = .ok (.goto 4, 3) := by decide +kernel
theorem dX7_does_163 : decode cX7_does 163 = .ok (.iconst 0, 1) := by decide +kernel
theorem dX7_does_164 : decode cX7_does 164 = .ok (.aload_n 0, 1) := by decide +kernel
theorem dX7_does_165 : decode cX7_does 165 = .ok (.getfield 34, 3) := by decide +kernel
theorem dX7_does_168 : decode cX7_does 168 = .ok (.iconst 2, 1) := by decide +kernel
theorem dX7_does_169 : decode cX7_does 169 = .ok (.iaload, 1) := by decide +kernel
theorem dX7_does_170 : decode cX7_does 170 = .ok (.invokevirtual 184, 3) := by decide +kernel
theorem dX7_does_173 : decode cX7_does 173 = .ok (.ireturn, 1) := by decide +kernel
theorem dX7_does_174 : decode cX7_does 174 = .ok (.aload_n 0, 1) := by decide +kernel
theorem dX7_does_175 : decode cX7_does 175 = .ok (.aload_n 0, 1) := by decide +kernel
theorem dX7_does_176 : decode cX7_does 176 = .ok (.getfield 34, 3) := by decide +kernel
theorem dX7_does_179 : decode cX7_does 179 = .ok (.iconst 0, 1) := by decide +kernel
theorem dX7_does_180 : decode cX7_does 180 = .ok (.iaload, 1) := by decide +kernel
theorem dX7_does_181 : decode cX7_does 181 = .ok (.invokevirtual 188, 3) := by decide +kernel
theorem dX7_does_184 : decode cX7_does 184 = .ok (.ireturn, 1) := by decide +kernel
theorem dX7_does_185 : decode cX7_does 185 = .ok (.aload_n 0, 1) := by decide +kernel
theorem dX7_does_186 : decode cX7_does 186 = .ok (.aload_n 0, 1) := by decide +kernel
theorem dX7_does_187 : decode cX7_does 187 = .ok (.getfield 34, 3) := by decide +kernel
theorem dX7_does_190 : decode cX7_does 190 = .ok (.iconst 0, 1) := by decide +kernel
theorem dX7_does_191 : decode cX7_does 191 = .ok (.iaload, 1) := by decide +kernel
theorem dX7_does_192 : decode cX7_does 192 = .ok (.invokevirtual 191, 3) := by decide +kernel
theorem dX7_does_195 : decode cX7_does 195 = .ok (.ireturn, 1) := by decide +kernel
theorem dX7_does_196 : decode cX7_does 196 = .ok (.aload_n 0, 1) := by decide +kernel
theorem dX7_does_197 : decode cX7_does 197 = .ok (.aload_n 0, 1) := by decide +kernel
theorem dX7_does_198 : decode cX7_does 198 = .ok (.getfield 34, 3) := by decide +kernel
theorem dX7_does_201 : decode cX7_does 201 = .ok (.iconst 0, 1) := by decide +kernel
theorem dX7_does_202 : decode cX7_does 202 = .ok (.iaload, 1) := by decide +kernel
theorem dX7_does_203 : decode cX7_does 203 = .ok (.aload_n 0, 1) := by decide +kernel
theorem dX7_does_204 : decode cX7_does 204 = .ok (.getfield 169, 3) := by decide +kernel
theorem dX7_does_207 : decode cX7_does 207 = .ok (.bipush 121, 2) := by decide +kernel
theorem dX7_does_209 : decode cX7_does 209 = .ok (.if_icmp .ne 7, 3) := by decide +kernel
theorem dX7_does_212 : decode cX7_does 212 = .ok (.iconst 1, 1) := by decide +kernel
theorem dX7_does_213 : decode cX7_does 213 = .ok (.goto 4, 3) := by decide +kernel
theorem dX7_does_216 : decode cX7_does 216 = .ok (.iconst 0, 1) := by decide +kernel
theorem dX7_does_217 : decode cX7_does 217 = .ok (.invokevirtual 194, 3) := by decide +kernel
theorem dX7_does_220 : decode cX7_does 220 = .ok (.ireturn, 1) := by decide +kernel
theorem dX7_does_221 : decode cX7_does 221 = .ok (.aload_n 0, 1) := by decide +kernel
theorem dX7_does_222 : decode cX7_does 222 = .ok (.invokevirtual 197, 3) := by decide +kernel
theorem dX7_does_225 : decode cX7_does 225 = .ok (.ireturn, 1) := by decide +kernel
theorem dX7_plays_0 : decode cX7_plays 0 = .ok (.aload_n 0, 1) := by decide +kernel
theorem dX7_plays_1 : decode cX7_plays 1 = .ok (.iconst 1, 1) := by decide +kernel
theorem dX7_plays_2 : decode cX7_plays 2 = .ok (.putfield 37, 3) := by decide +kernel
theorem dX7_plays_5 : decode cX7_plays 5 = .ok (.aload_n 0, 1) := by decide +kernel
theorem dX7_plays_6 : decode cX7_plays 6 = .ok (.iconst 0, 1) := by decide +kernel
theorem dX7_plays_7 : decode cX7_plays 7 = .ok (.putfield 163, 3) := by decide +kernel
theorem dX7_plays_10 : decode cX7_plays 10 = .ok (.aload_n 0, 1) := by decide +kernel
theorem dX7_plays_11 : decode cX7_plays 11 = .ok (.iconst 0, 1) := by decide +kernel
theorem dX7_plays_12 : decode cX7_plays 12 = .ok (.putfield 200, 3) := by decide +kernel
theorem dX7_plays_15 : decode cX7_plays 15 = .ok (.aload_n 0, 1) := by decide +kernel
theorem dX7_plays_16 : decode cX7_plays 16 = .ok (.iconst 0, 1) := by decide +kernel
theorem dX7_plays_17 : decode cX7_plays 17 = .ok (.putfield 203, 3) := by decide +kernel
theorem dX7_plays_20 : decode cX7_plays 20 = .ok (.iconst 1, 1) := by decide +kernel
theorem dX7_plays_21 : decode cX7_plays 21 = .ok (.istore_n 1, 1) := by decide +kernel
theorem dX7_plays_22 : decode cX7_plays 22 = .ok (.aload_n 0, 1) := by decide +kernel
theorem dX7_plays_23 : decode cX7_plays 23 = .ok (.getfield 163, 3) := by decide +kernel
theorem dX7_plays_26 : decode cX7_plays 26 = .ok (.aload_n 0, 1) := by decide +kernel
theorem dX7_plays_27 : decode cX7_plays 27 = .ok (.getfield 160, 3) := by decide +kernel
theorem dX7_plays_30 : decode cX7_plays 30 = .ok (.if_icmp .ge 94, 3) := by decide +kernel
theorem dX7_plays_33 : decode cX7_plays 33 = .ok (.iload_n 1, 1) := by decide +kernel
theorem dX7_plays_34 : decode cX7_plays 34 = .ok (.ifCond .eq 90, 3) := by decide +kernel
theorem dX7_plays_37 : decode cX7_plays 37 = .ok (.aload_n 0, 1) := by decide +kernel
theorem dX7_plays_38 : decode cX7_plays 38 = .ok (.aload_n 0, 1) := by decide +kernel
theorem dX7_plays_39 : decode cX7_plays 39 = .ok (.getfield 163, 3) := by decide +kernel
theorem dX7_plays_42 : decode cX7_plays 42 = .ok (.putfield 200, 3) := by decide +kernel
theorem dX7_plays_45 : decode cX7_plays 45 = .ok (.aload_n 0, 1) := by decide +kernel
theorem dX7_plays_46 : decode cX7_plays 46 = .ok (.invokevirtual 206, 3) := by decide +kernel
theorem dX7_plays_49 : decode cX7_plays 49 = .ok (.istore_n 2, 1) := by decide +kernel
theorem dX7_plays_50 : decode cX7_plays 50 = .ok (.iload_n 2, 1) := by decide +kernel
theorem dX7_plays_51 : decode cX7_plays 51 = .ok (.ifCond .eq 10, 3) := by decide +kernel
theorem dX7_plays_54 : decode cX7_plays 54 = .ok (.aload_n 0, 1) := by decide +kernel
theorem dX7_plays_55 : decode cX7_plays 55 = .ok (.invokevirtual 209, 3) := by decide +kernel
theorem dX7_plays_58 : decode cX7_plays 58 = .ok (.goto 4, 3) := by decide +kernel
theorem dX7_plays_61 : decode cX7_plays 61 = .ok (.iconst 0, 1) := by decide +kernel
theorem dX7_plays_62 : decode cX7_plays 62 = .ok (.istore_n 3, 1) := by decide +kernel
theorem dX7_plays_63 : decode cX7_plays 63 = .ok (.iload_n 2, 1) := by decide +kernel
theorem dX7_plays_64 : decode cX7_plays 64 = .ok (.ifCond .eq 11, 3) := by decide +kernel
theorem dX7_plays_67 : decode cX7_plays 67 = .ok (.iload_n 3, 1) := by decide +kernel
theorem dX7_plays_68 : decode cX7_plays 68 = .ok (.ifCond .lt 7, 3) := by decide +kernel
theorem dX7_plays_71 : decode cX7_plays 71 = .ok (.iconst 1, 1) := by decide +kernel
theorem dX7_plays_72 : decode cX7_plays 72 = .ok (.goto 4, 3) := by decide +kernel
theorem dX7_plays_75 : decode cX7_plays 75 = .ok (.iconst 0, 1) := by decide +kernel
theorem dX7_plays_76 : decode cX7_plays 76 = .ok (.istore_n 1, 1) := by decide +kernel
theorem dX7_plays_77 : decode cX7_plays 77 = .ok (.aload_n 0, 1) := by decide +kernel
theorem dX7_plays_78 : decode cX7_plays 78 = .ok (.iload_n 2, 1) := by decide +kernel
theorem dX7_plays_79 : decode cX7_plays 79 = .ok (.ifCond .eq 7, 3) := by decide +kernel
theorem dX7_plays_82 : decode cX7_plays 82 = .ok (.iconst 2, 1) := by decide +kernel
theorem dX7_plays_83 : decode cX7_plays 83 = .ok (.goto 4, 3) := by decide +kernel
theorem dX7_plays_86 : decode cX7_plays 86 = .ok (.iconst 1, 1) := by decide +kernel
theorem dX7_plays_87 : decode cX7_plays 87 = .ok (.putfield 212, 3) := by decide +kernel
theorem dX7_plays_90 : decode cX7_plays 90 = .ok (.aload_n 0, 1) := by decide +kernel
theorem dX7_plays_91 : decode cX7_plays 91 = .ok (.iload_n 2, 1) := by decide +kernel
theorem dX7_plays_92 : decode cX7_plays 92 = .ok (.ifCond .eq 7, 3) := by decide +kernel
theorem dX7_plays_95 : decode cX7_plays 95 = .ok (.iload_n 3, 1) := by decide +kernel
theorem dX7_plays_96 : decode cX7_plays 96 = .ok (.goto 12, 3) := by decide +kernel
theorem dX7_plays_99 : decode cX7_plays 99 = .ok (.aload_n 0, 1) := by decide +kernel
theorem dX7_plays_100 : decode cX7_plays 100 = .ok (.getfield 163, 3) := by decide +kernel
theorem dX7_plays_103 : decode cX7_plays 103 = .ok (.aload_n 0, 1) := by decide +kernel
theorem dX7_plays_104 : decode cX7_plays 104 = .ok (.getfield 200, 3) := by decide +kernel
theorem dX7_plays_107 : decode cX7_plays 107 = .ok (.isub, 1) := by decide +kernel
theorem dX7_plays_108 : decode cX7_plays 108 = .ok (.putfield 215, 3) := by decide +kernel
theorem dX7_plays_111 : decode cX7_plays 111 = .ok (.aload_n 0, 1) := by decide +kernel
theorem dX7_plays_112 : decode cX7_plays 112 = .ok (.dup, 1) := by decide +kernel
theorem dX7_plays_113 : decode cX7_plays 113 = .ok (.getfield 203, 3) := by decide +kernel
theorem dX7_plays_116 : decode cX7_plays 116 = .ok (.iconst 1, 1) := by decide +kernel
theorem dX7_plays_117 : decode cX7_plays 117 = .ok (.iadd, 1) := by decide +kernel
theorem dX7_plays_118 : decode cX7_plays 118 = .ok (.putfield 203, 3) := by decide +kernel
theorem dX7_plays_121 : decode cX7_plays 121 = .ok (.goto (-99), 3) := by decide +kernel
theorem dX7_plays_124 : decode cX7_plays 124 = .ok (.aload_n 0, 1) := by decide +kernel
theorem dX7_plays_125 : decode cX7_plays 125 = .ok (.iconst 0, 1) := by decide +kernel
theorem dX7_plays_126 : decode cX7_plays 126 = .ok (.putfield 37, 3) := by decide +kernel
theorem dX7_plays_129 : decode cX7_plays 129 = .ok (.iload_n 1, 1) := by decide +kernel
theorem dX7_plays_130 : decode cX7_plays 130 = .ok (.ireturn, 1) := by decide +kernel
theorem dX7_fault_0 : decode cX7_fault 0 = .ok (.iload_n 1, 1) := by decide +kernel
theorem dX7_fault_1 : decode cX7_fault 1 = .ok (.iconst 0, 1) := by decide +kernel
theorem dX7_fault_2 : decode cX7_fault 2 = .ok (.iconst 2, 1) := by decide +kernel
theorem dX7_fault_3 : decode cX7_fault 3 = .ok (.invokestatic 45, 3) := by decide +kernel
theorem dX7_fault_6 : decode cX7_fault 6 = .ok (.ifCond .ne 6, 3) := by decide +kernel
theorem dX7_fault_9 : decode cX7_fault 9 = .ok (.ldc 96, 2) := by decide +kernel
theorem dX7_fault_11 : decode cX7_fault 11 = .ok (.ireturn, 1) := by decide +kernel
theorem dX7_fault_12 : decode cX7_fault 12 = .ok (.aload_n 0, 1) := by decide +kernel
theorem dX7_fault_13 : decode cX7_fault 13 = .ok (.getfield 7, 3) := by decide +kernel
theorem dX7_fault_16 : decode cX7_fault 16 = .ok (.aload_n 0, 1) := by decide +kernel
theorem dX7_fault_17 : decode cX7_fault 17 = .ok (.getfield 16, 3) := by decide +kernel
theorem dX7_fault_20 : decode cX7_fault 20 = .ok (.invokestatic 218, 3) := by decide +kernel
theorem dX7_fault_23 : decode cX7_fault 23 = .ok (.aload_n 0, 1) := by decide +kernel
theorem dX7_fault_24 : decode cX7_fault 24 = .ok (.invokevirtual 222, 3) := by decide +kernel
theorem dX7_fault_27 : decode cX7_fault 27 = .ok (.istore_n 2, 1) := by decide +kernel
theorem dX7_fault_28 : decode cX7_fault 28 = .ok (.aload_n 0, 1) := by decide +kernel
theorem dX7_fault_29 : decode cX7_fault 29 = .ok (.getfield 16, 3) := by decide +kernel
theorem dX7_fault_32 : decode cX7_fault 32 = .ok (.aload_n 0, 1) := by decide +kernel
theorem dX7_fault_33 : decode cX7_fault 33 = .ok (.getfield 7, 3) := by decide +kernel
theorem dX7_fault_36 : decode cX7_fault 36 = .ok (.invokestatic 218, 3) := by decide +kernel
theorem dX7_fault_39 : decode cX7_fault 39 = .ok (.iload_n 2, 1) := by decide +kernel
theorem dX7_fault_40 : decode cX7_fault 40 = .ok (.ifCond .eq 8, 3) := by decide +kernel
theorem dX7_fault_43 : decode cX7_fault 43 = .ok (.ldc 60, 2) := by decide +kernel
theorem dX7_fault_45 : decode cX7_fault 45 = .ok (.goto 30, 3) := by decide +kernel
theorem dX7_fault_48 : decode cX7_fault 48 = .ok (.iload_n 1, 1) := by decide +kernel
theorem dX7_fault_49 : decode cX7_fault 49 = .ok (.ifCond .ne 10, 3) := by decide +kernel
theorem dX7_fault_52 : decode cX7_fault 52 = .ok (.aload_n 0, 1) := by decide +kernel
theorem dX7_fault_53 : decode cX7_fault 53 = .ok (.getfield 200, 3) := by decide +kernel
theorem dX7_fault_56 : decode cX7_fault 56 = .ok (.goto 19, 3) := by decide +kernel
theorem dX7_fault_59 : decode cX7_fault 59 = .ok (.iload_n 1, 1) := by decide +kernel
theorem dX7_fault_60 : decode cX7_fault 60 = .ok (.iconst 1, 1) := by decide +kernel
theorem dX7_fault_61 : decode cX7_fault 61 = .ok (.if_icmp .ne 10, 3) := by decide +kernel
theorem dX7_fault_64 : decode cX7_fault 64 = .ok (.aload_n 0, 1) := by decide +kernel
theorem dX7_fault_65 : decode cX7_fault 65 = .ok (.getfield 212, 3) := by decide +kernel
theorem dX7_fault_68 : decode cX7_fault 68 = .ok (.goto 7, 3) := by decide +kernel
theorem dX7_fault_71 : decode cX7_fault 71 = .ok (.aload_n 0, 1) := by decide +kernel
theorem dX7_fault_72 : decode cX7_fault 72 = .ok (.getfield 215, 3) := by decide +kernel
theorem dX7_fault_75 : decode cX7_fault 75 = .ok (.ireturn, 1) := by decide +kernel
theorem dX7_play_0 : decode cX7_play 0 = .ok (.aload_n 0, 1) := by decide +kernel
theorem dX7_play_1 : decode cX7_play 1 = .ok (.getfield 7, 3) := by decide +kernel
theorem dX7_play_4 : decode cX7_play 4 = .ok (.aload_n 0, 1) := by decide +kernel
theorem dX7_play_5 : decode cX7_play 5 = .ok (.getfield 16, 3) := by decide +kernel
theorem dX7_play_8 : decode cX7_play 8 = .ok (.invokestatic 218, 3) := by decide +kernel
theorem dX7_play_11 : decode cX7_play 11 = .ok (.aload_n 0, 1) := by decide +kernel
theorem dX7_play_12 : decode cX7_play 12 = .ok (.invokevirtual 222, 3) := by decide +kernel
theorem dX7_play_15 : decode cX7_play 15 = .ok (.istore_n 1, 1) := by decide +kernel
theorem dX7_play_16 : decode cX7_play 16 = .ok (.aload_n 0, 1) := by decide +kernel
theorem dX7_play_17 : decode cX7_play 17 = .ok (.getfield 16, 3) := by decide +kernel
theorem dX7_play_20 : decode cX7_play 20 = .ok (.aload_n 0, 1) := by decide +kernel
theorem dX7_play_21 : decode cX7_play 21 = .ok (.getfield 7, 3) := by decide +kernel
theorem dX7_play_24 : decode cX7_play 24 = .ok (.invokestatic 218, 3) := by decide +kernel
theorem dX7_play_27 : decode cX7_play 27 = .ok (.iload_n 1, 1) := by decide +kernel
theorem dX7_play_28 : decode cX7_play 28 = .ok (.ifCond .ne 6, 3) := by decide +kernel
theorem dX7_play_31 : decode cX7_play 31 = .ok (.ldc 101, 2) := by decide +kernel
theorem dX7_play_33 : decode cX7_play 33 = .ok (.ireturn, 1) := by decide +kernel
theorem dX7_play_34 : decode cX7_play 34 = .ok (.aload_n 0, 1) := by decide +kernel
theorem dX7_play_35 : decode cX7_play 35 = .ok (.invokevirtual 98, 3) := by decide +kernel
theorem dX7_play_38 : decode cX7_play 38 = .ok (.aload_n 0, 1) := by decide +kernel
theorem dX7_play_39 : decode cX7_play 39 = .ok (.invokevirtual 222, 3) := by decide +kernel
theorem dX7_play_42 : decode cX7_play 42 = .ok (.ifCond .eq 10, 3) := by decide +kernel
theorem dX7_play_45 : decode cX7_play 45 = .ok (.aload_n 0, 1) := by decide +kernel
theorem dX7_play_46 : decode cX7_play 46 = .ok (.getfield 203, 3) := by decide +kernel
theorem dX7_play_49 : decode cX7_play 49 = .ok (.goto 5, 3) := by decide +kernel
theorem dX7_play_52 : decode cX7_play 52 = .ok (.ldc 60, 2) := by decide +kernel
theorem dX7_play_54 : decode cX7_play 54 = .ok (.ireturn, 1) := by decide +kernel
