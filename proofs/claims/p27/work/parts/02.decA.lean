theorem dX2_init_0 : decode cX2_init 0 = .ok (.aload_n 0, 1) := by decide +kernel
theorem dX2_init_1 : decode cX2_init 1 = .ok (.invokespecial 1, 3) := by decide +kernel
theorem dX2_init_4 : decode cX2_init 4 = .ok (.aload_n 0, 1) := by decide +kernel
theorem dX2_init_5 : decode cX2_init 5 = .ok (.iload_n 1, 1) := by decide +kernel
theorem dX2_init_6 : decode cX2_init 6 = .ok (.iconst 0, 1) := by decide +kernel
theorem dX2_init_7 : decode cX2_init 7 = .ok (.invokestatic 7, 3) := by decide +kernel
theorem dX2_init_10 : decode cX2_init 10 = .ok (.newarray .int, 2) := by decide +kernel
theorem dX2_init_12 : decode cX2_init 12 = .ok (.putfield 13, 3) := by decide +kernel
theorem dX2_init_15 : decode cX2_init 15 = .ok (.return_, 1) := by decide +kernel
theorem dX2_get_0 : decode cX2_get 0 = .ok (.iload_n 1, 1) := by decide +kernel
theorem dX2_get_1 : decode cX2_get 1 = .ok (.ifCond .lt 21, 3) := by decide +kernel
theorem dX2_get_4 : decode cX2_get 4 = .ok (.iload_n 1, 1) := by decide +kernel
theorem dX2_get_5 : decode cX2_get 5 = .ok (.aload_n 0, 1) := by decide +kernel
theorem dX2_get_6 : decode cX2_get 6 = .ok (.getfield 13, 3) := by decide +kernel
theorem dX2_get_9 : decode cX2_get 9 = .ok (.arraylength, 1) := by decide +kernel
theorem dX2_get_10 : decode cX2_get 10 = .ok (.if_icmp .ge 12, 3) := by decide +kernel
theorem dX2_get_13 : decode cX2_get 13 = .ok (.aload_n 0, 1) := by decide +kernel
theorem dX2_get_14 : decode cX2_get 14 = .ok (.getfield 13, 3) := by decide +kernel
theorem dX2_get_17 : decode cX2_get 17 = .ok (.iload_n 1, 1) := by decide +kernel
theorem dX2_get_18 : decode cX2_get 18 = .ok (.iaload, 1) := by decide +kernel
theorem dX2_get_19 : decode cX2_get 19 = .ok (.goto 4, 3) := by decide +kernel
theorem dX2_get_22 : decode cX2_get 22 = .ok (.iconst 0, 1) := by decide +kernel
theorem dX2_get_23 : decode cX2_get 23 = .ok (.ireturn, 1) := by decide +kernel
theorem dX2_put_0 : decode cX2_put 0 = .ok (.iload_n 1, 1) := by decide +kernel
theorem dX2_put_1 : decode cX2_put 1 = .ok (.ifCond .lt 19, 3) := by decide +kernel
theorem dX2_put_4 : decode cX2_put 4 = .ok (.iload_n 1, 1) := by decide +kernel
theorem dX2_put_5 : decode cX2_put 5 = .ok (.aload_n 0, 1) := by decide +kernel
theorem dX2_put_6 : decode cX2_put 6 = .ok (.getfield 13, 3) := by decide +kernel
theorem dX2_put_9 : decode cX2_put 9 = .ok (.arraylength, 1) := by decide +kernel
theorem dX2_put_10 : decode cX2_put 10 = .ok (.if_icmp .ge 10, 3) := by decide +kernel
theorem dX2_put_13 : decode cX2_put 13 = .ok (.aload_n 0, 1) := by decide +kernel
theorem dX2_put_14 : decode cX2_put 14 = .ok (.getfield 13, 3) := by decide +kernel
theorem dX2_put_17 : decode cX2_put 17 = .ok (.iload_n 1, 1) := by decide +kernel
theorem dX2_put_18 : decode cX2_put 18 = .ok (.iload_n 2, 1) := by decide +kernel
theorem dX2_put_19 : decode cX2_put 19 = .ok (.iastore, 1) := by decide +kernel
theorem dX2_put_20 : decode cX2_put 20 = .ok (.return_, 1) := by decide +kernel
theorem dX2_copyFrom_0 : decode cX2_copyFrom 0 = .ok (.aload_n 1, 1) := by decide +kernel
theorem dX2_copyFrom_1 : decode cX2_copyFrom 1 = .ok (.getfield 13, 3) := by decide +kernel
theorem dX2_copyFrom_4 : decode cX2_copyFrom 4 = .ok (.iconst 0, 1) := by decide +kernel
theorem dX2_copyFrom_5 : decode cX2_copyFrom 5 = .ok (.aload_n 0, 1) := by decide +kernel
theorem dX2_copyFrom_6 : decode cX2_copyFrom 6 = .ok (.getfield 13, 3) := by decide +kernel
theorem dX2_copyFrom_9 : decode cX2_copyFrom 9 = .ok (.iconst 0, 1) := by decide +kernel
theorem dX2_copyFrom_10 : decode cX2_copyFrom 10 = .ok (.aload_n 0, 1) := by decide +kernel
theorem dX2_copyFrom_11 : decode cX2_copyFrom 11 = .ok (.getfield 13, 3) := by decide +kernel
theorem dX2_copyFrom_14 : decode cX2_copyFrom 14 = .ok (.arraylength, 1) := by decide +kernel
theorem dX2_copyFrom_15 : decode cX2_copyFrom 15 = .ok (.aload_n 1, 1) := by decide +kernel
theorem dX2_copyFrom_16 : decode cX2_copyFrom 16 = .ok (.getfield 13, 3) := by decide +kernel
theorem dX2_copyFrom_19 : decode cX2_copyFrom 19 = .ok (.arraylength, 1) := by decide +kernel
theorem dX2_copyFrom_20 : decode cX2_copyFrom 20 = .ok (.invokestatic 19, 3) := by decide +kernel
theorem dX2_copyFrom_23 : decode cX2_copyFrom 23 = .ok (.invokestatic 22, 3) := by decide +kernel
theorem dX2_copyFrom_26 : decode cX2_copyFrom 26 = .ok (.return_, 1) := by decide +kernel
theorem dX2_removeAt_0 : decode cX2_removeAt 0 = .ok (.iload_n 1, 1) := by decide +kernel
theorem dX2_removeAt_1 : decode cX2_removeAt 1 = .ok (.ifCond .ge 4, 3) := by decide +kernel
theorem dX2_removeAt_4 : decode cX2_removeAt 4 = .ok (.return_, 1) := by decide +kernel
theorem dX2_removeAt_5 : decode cX2_removeAt 5 = .ok (.iload_n 1, 1) := by decide +kernel
theorem dX2_removeAt_6 : decode cX2_removeAt 6 = .ok (.istore_n 2, 1) := by decide +kernel
theorem dX2_removeAt_7 : decode cX2_removeAt 7 = .ok (.iload_n 2, 1) := by decide +kernel
theorem dX2_removeAt_8 : decode cX2_removeAt 8 = .ok (.aload_n 0, 1) := by decide +kernel
theorem dX2_removeAt_9 : decode cX2_removeAt 9 = .ok (.getfield 13, 3) := by decide +kernel
theorem dX2_removeAt_12 : decode cX2_removeAt 12 = .ok (.arraylength, 1) := by decide +kernel
theorem dX2_removeAt_13 : decode cX2_removeAt 13 = .ok (.iconst 1, 1) := by decide +kernel
theorem dX2_removeAt_14 : decode cX2_removeAt 14 = .ok (.isub, 1) := by decide +kernel
theorem dX2_removeAt_15 : decode cX2_removeAt 15 = .ok (.if_icmp .ge 23, 3) := by decide +kernel
theorem dX2_removeAt_18 : decode cX2_removeAt 18 = .ok (.aload_n 0, 1) := by decide +kernel
theorem dX2_removeAt_19 : decode cX2_removeAt 19 = .ok (.getfield 13, 3) := by decide +kernel
theorem dX2_removeAt_22 : decode cX2_removeAt 22 = .ok (.iload_n 2, 1) := by decide +kernel
theorem dX2_removeAt_23 : decode cX2_removeAt 23 = .ok (.aload_n 0, 1) := by decide +kernel
theorem dX2_removeAt_24 : decode cX2_removeAt 24 = .ok (.getfield 13, 3) := by decide +kernel
theorem dX2_removeAt_27 : decode cX2_removeAt 27 = .ok (.iload_n 2, 1) := by decide +kernel
theorem dX2_removeAt_28 : decode cX2_removeAt 28 = .ok (.iconst 1, 1) := by decide +kernel
theorem dX2_removeAt_29 : decode cX2_removeAt 29 = .ok (.iadd, 1) := by decide +kernel
theorem dX2_removeAt_30 : decode cX2_removeAt 30 = .ok (.iaload, 1) := by decide +kernel
theorem dX2_removeAt_31 : decode cX2_removeAt 31 = .ok (.iastore, 1) := by decide +kernel
theorem dX2_removeAt_32 : decode cX2_removeAt 32 = .ok (.iinc 2 1, 3) := by decide +kernel
theorem dX2_removeAt_35 : decode cX2_removeAt 35 = .ok (.goto (-28), 3) := by decide +kernel
theorem dX2_removeAt_38 : decode cX2_removeAt 38 = .ok (.return_, 1) := by decide +kernel
theorem dX0_init_0 : decode cX0_init 0 = .ok (.aload_n 0, 1) := by decide +kernel
theorem dX0_init_1 : decode cX0_init 1 = .ok (.invokespecial 3, 3) := by decide +kernel
theorem dX0_init_4 : decode cX0_init 4 = .ok (.aload_n 0, 1) := by decide +kernel
theorem dX0_init_5 : decode cX0_init 5 = .ok (.new 9, 3) := by decide +kernel
theorem dX0_init_8 : decode cX0_init 8 = .ok (.dup, 1) := by decide +kernel
theorem dX0_init_9 : decode cX0_init 9 = .ok (.bipush 32, 2) := by decide +kernel
theorem dX0_init_11 : decode cX0_init 11 = .ok (.invokespecial 11, 3) := by decide +kernel
theorem dX0_init_14 : decode cX0_init 14 = .ok (.putfield 14, 3) := by decide +kernel
theorem dX0_init_17 : decode cX0_init 17 = .ok (.return_, 1) := by decide +kernel
theorem dX0_copyFrom_0 : decode cX0_copyFrom 0 = .ok (.aload_n 0, 1) := by decide +kernel
theorem dX0_copyFrom_1 : decode cX0_copyFrom 1 = .ok (.getfield 14, 3) := by decide +kernel
theorem dX0_copyFrom_4 : decode cX0_copyFrom 4 = .ok (.aload_n 1, 1) := by decide +kernel
theorem dX0_copyFrom_5 : decode cX0_copyFrom 5 = .ok (.getfield 14, 3) := by decide +kernel
theorem dX0_copyFrom_8 : decode cX0_copyFrom 8 = .ok (.invokevirtual 20, 3) := by decide +kernel
theorem dX0_copyFrom_11 : decode cX0_copyFrom 11 = .ok (.aload_n 0, 1) := by decide +kernel
theorem dX0_copyFrom_12 : decode cX0_copyFrom 12 = .ok (.aload_n 1, 1) := by decide +kernel
theorem dX0_copyFrom_13 : decode cX0_copyFrom 13 = .ok (.getfield 24, 3) := by decide +kernel
theorem dX0_copyFrom_16 : decode cX0_copyFrom 16 = .ok (.putfield 24, 3) := by decide +kernel
theorem dX0_copyFrom_19 : decode cX0_copyFrom 19 = .ok (.aload_n 0, 1) := by decide +kernel
theorem dX0_copyFrom_20 : decode cX0_copyFrom 20 = .ok (.aload_n 1, 1) := by decide +kernel
theorem dX0_copyFrom_21 : decode cX0_copyFrom 21 = .ok (.getfield 28, 3) := by decide +kernel
theorem dX0_copyFrom_24 : decode cX0_copyFrom 24 = .ok (.putfield 28, 3) := by decide +kernel
theorem dX0_copyFrom_27 : decode cX0_copyFrom 27 = .ok (.return_, 1) := by decide +kernel
theorem dX0_kept_0 : decode cX0_kept 0 = .ok (.aload_n 0, 1) := by decide +kernel
theorem dX0_kept_1 : decode cX0_kept 1 = .ok (.getfield 24, 3) := by decide +kernel
theorem dX0_kept_4 : decode cX0_kept 4 = .ok (.bipush 8, 2) := by decide +kernel
theorem dX0_kept_6 : decode cX0_kept 6 = .ok (.invokestatic 31, 3) := by decide +kernel
theorem dX0_kept_9 : decode cX0_kept 9 = .ok (.ireturn, 1) := by decide +kernel
theorem dX0_entry_0 : decode cX0_entry 0 = .ok (.aload_n 0, 1) := by decide +kernel
theorem dX0_entry_1 : decode cX0_entry 1 = .ok (.getfield 14, 3) := by decide +kernel
theorem dX0_entry_4 : decode cX0_entry 4 = .ok (.iload_n 1, 1) := by decide +kernel
theorem dX0_entry_5 : decode cX0_entry 5 = .ok (.iconst 4, 1) := by decide +kernel
theorem dX0_entry_6 : decode cX0_entry 6 = .ok (.imul, 1) := by decide +kernel
theorem dX0_entry_7 : decode cX0_entry 7 = .ok (.iload_n 2, 1) := by decide +kernel
theorem dX0_entry_8 : decode cX0_entry 8 = .ok (.iadd, 1) := by decide +kernel
theorem dX0_entry_9 : decode cX0_entry 9 = .ok (.invokevirtual 37, 3) := by decide +kernel
theorem dX0_entry_12 : decode cX0_entry 12 = .ok (.ireturn, 1) := by decide +kernel
theorem dX0_enter_0 : decode cX0_enter 0 = .ok (.bipush 31, 2) := by decide +kernel
theorem dX0_enter_2 : decode cX0_enter 2 = .ok (.istore 5, 2) := by decide +kernel
theorem dX0_enter_4 : decode cX0_enter 4 = .ok (.iload 5, 2) := by decide +kernel
theorem dX0_enter_6 : decode cX0_enter 6 = .ok (.iconst 4, 1) := by decide +kernel
theorem dX0_enter_7 : decode cX0_enter 7 = .ok (.if_icmp .lt 29, 3) := by decide +kernel
theorem dX0_enter_10 : decode cX0_enter 10 = .ok (.aload_n 0, 1) := by decide +kernel
theorem dX0_enter_11 : decode cX0_enter 11 = .ok (.getfield 14, 3) := by decide +kernel
theorem dX0_enter_14 : decode cX0_enter 14 = .ok (.iload 5, 2) := by decide +kernel
theorem dX0_enter_16 : decode cX0_enter 16 = .ok (.aload_n 0, 1) := by decide +kernel
theorem dX0_enter_17 : decode cX0_enter 17 = .ok (.getfield 14, 3) := by decide +kernel
theorem dX0_enter_20 : decode cX0_enter 20 = .ok (.iload 5, 2) := by decide +kernel
theorem dX0_enter_22 : decode cX0_enter 22 = .ok (.iconst 4, 1) := by decide +kernel
theorem dX0_enter_23 : decode cX0_enter 23 = .ok (.isub, 1) := by decide +kernel
theorem dX0_enter_24 : decode cX0_enter 24 = .ok (.invokevirtual 37, 3) := by decide +kernel
theorem dX0_enter_27 : decode cX0_enter 27 = .ok (.invokevirtual 41, 3) := by decide +kernel
theorem dX0_enter_30 : decode cX0_enter 30 = .ok (.iinc 5 (-1), 3) := by decide +kernel
theorem dX0_enter_33 : decode cX0_enter 33 = .ok (.goto (-29), 3) := by decide +kernel
theorem dX0_enter_36 : decode cX0_enter 36 = .ok (.aload_n 0, 1) := by decide +kernel
theorem dX0_enter_37 : decode cX0_enter 37 = .ok (.getfield 14, 3) := by decide +kernel
theorem dX0_enter_40 : decode cX0_enter 40 = .ok (.iconst 0, 1) := by decide +kernel
theorem dX0_enter_41 : decode cX0_enter 41 = .ok (.iload_n 1, 1) := by decide +kernel
theorem dX0_enter_42 : decode cX0_enter 42 = .ok (.invokevirtual 41, 3) := by decide +kernel
theorem dX0_enter_45 : decode cX0_enter 45 = .ok (.aload_n 0, 1) := by decide +kernel
theorem dX0_enter_46 : decode cX0_enter 46 = .ok (.getfield 14, 3) := by decide +kernel
theorem dX0_enter_49 : decode cX0_enter 49 = .ok (.iconst 1, 1) := by decide +kernel
theorem dX0_enter_50 : decode cX0_enter 50 = .ok (.iload_n 2, 1) := by decide +kernel
theorem dX0_enter_51 : decode cX0_enter 51 = .ok (.invokevirtual 41, 3) := by decide +kernel
theorem dX0_enter_54 : decode cX0_enter 54 = .ok (.aload_n 0, 1) := by decide +kernel
theorem dX0_enter_55 : decode cX0_enter 55 = .ok (.getfield 14, 3) := by decide +kernel
theorem dX0_enter_58 : decode cX0_enter 58 = .ok (.iconst 2, 1) := by decide +kernel
theorem dX0_enter_59 : decode cX0_enter 59 = .ok (.iload_n 3, 1) := by decide +kernel
theorem dX0_enter_60 : decode cX0_enter 60 = .ok (.invokevirtual 41, 3) := by decide +kernel
theorem dX0_enter_63 : decode cX0_enter 63 = .ok (.aload_n 0, 1) := by decide +kernel
theorem dX0_enter_64 : decode cX0_enter 64 = .ok (.getfield 14, 3) := by decide +kernel
theorem dX0_enter_67 : decode cX0_enter 67 = .ok (.iconst 3, 1) := by decide +kernel
theorem dX0_enter_68 : decode cX0_enter 68 = .ok (.iload 4, 2) := by decide +kernel
theorem dX0_enter_70 : decode cX0_enter 70 = .ok (.invokevirtual 41, 3) := by decide +kernel
theorem dX0_enter_73 : decode cX0_enter 73 = .ok (.aload_n 0, 1) := by decide +kernel
theorem dX0_enter_74 : decode cX0_enter 74 = .ok (.dup, 1) := by decide +kernel
theorem dX0_enter_75 : decode cX0_enter 75 = .ok (.getfield 24, 3) := by decide +kernel
theorem dX0_enter_78 : decode cX0_enter 78 = .ok (.iconst 1, 1) := by decide +kernel
theorem dX0_enter_79 : decode cX0_enter 79 = .ok (.iadd, 1) := by decide +kernel
theorem dX0_enter_80 : decode cX0_enter 80 = .ok (.putfield 24, 3) := by decide +kernel
theorem dX0_enter_83 : decode cX0_enter 83 = .ok (.aload_n 0, 1) := by decide +kernel
theorem dX0_enter_84 : decode cX0_enter 84 = .ok (.dup, 1) := by decide +kernel
theorem dX0_enter_85 : decode cX0_enter 85 = .ok (.getfield 28, 3) := by decide +kernel
theorem dX0_enter_88 : decode cX0_enter 88 = .ok (.iload_n 3, 1) := by decide +kernel
theorem dX0_enter_89 : decode cX0_enter 89 = .ok (.iadd, 1) := by decide +kernel
theorem dX0_enter_90 : decode cX0_enter 90 = .ok (.putfield 28, 3) := by decide +kernel
theorem dX0_enter_93 : decode cX0_enter 93 = .ok (.return_, 1) := by decide +kernel
theorem dX3_init_0 : decode cX3_init 0 = .ok (.aload_n 0, 1) := by decide +kernel
theorem dX3_init_1 : decode cX3_init 1 = .ok (.invokespecial 3, 3) := by decide +kernel
theorem dX3_init_4 : decode cX3_init 4 = .ok (.aload_n 0, 1) := by decide +kernel
theorem dX3_init_5 : decode cX3_init 5 = .ok (.new 9, 3) := by decide +kernel
theorem dX3_init_8 : decode cX3_init 8 = .ok (.dup, 1) := by decide +kernel
theorem dX3_init_9 : decode cX3_init 9 = .ok (.bipush 20, 2) := by decide +kernel
theorem dX3_init_11 : decode cX3_init 11 = .ok (.invokespecial 11, 3) := by decide +kernel
theorem dX3_init_14 : decode cX3_init 14 = .ok (.putfield 14, 3) := by decide +kernel
theorem dX3_init_17 : decode cX3_init 17 = .ok (.aload_n 0, 1) := by decide +kernel
theorem dX3_init_18 : decode cX3_init 18 = .ok (.new 9, 3) := by decide +kernel
theorem dX3_init_21 : decode cX3_init 21 = .ok (.dup, 1) := by decide +kernel
theorem dX3_init_22 : decode cX3_init 22 = .ok (.bipush 20, 2) := by decide +kernel
theorem dX3_init_24 : decode cX3_init 24 = .ok (.invokespecial 11, 3) := by decide +kernel
theorem dX3_init_27 : decode cX3_init 27 = .ok (.putfield 20, 3) := by decide +kernel
theorem dX3_init_30 : decode cX3_init 30 = .ok (.aload_n 0, 1) := by decide +kernel
theorem dX3_init_31 : decode cX3_init 31 = .ok (.new 9, 3) := by decide +kernel
theorem dX3_init_34 : decode cX3_init 34 = .ok (.dup, 1) := by decide +kernel
theorem dX3_init_35 : decode cX3_init 35 = .ok (.bipush 20, 2) := by decide +kernel
theorem dX3_init_37 : decode cX3_init 37 = .ok (.invokespecial 11, 3) := by decide +kernel
theorem dX3_init_40 : decode cX3_init 40 = .ok (.putfield 23, 3) := by decide +kernel
theorem dX3_init_43 : decode cX3_init 43 = .ok (.aload_n 0, 1) := by decide +kernel
theorem dX3_init_44 : decode cX3_init 44 = .ok (.new 9, 3) := by decide +kernel
theorem dX3_init_47 : decode cX3_init 47 = .ok (.dup, 1) := by decide +kernel
theorem dX3_init_48 : decode cX3_init 48 = .ok (.bipush 20, 2) := by decide +kernel
theorem dX3_init_50 : decode cX3_init 50 = .ok (.invokespecial 11, 3) := by decide +kernel
theorem dX3_init_53 : decode cX3_init 53 = .ok (.putfield 26, 3) := by decide +kernel
theorem dX3_init_56 : decode cX3_init 56 = .ok (.return_, 1) := by decide +kernel
theorem dX3_copyFrom_0 : decode cX3_copyFrom 0 = .ok (.aload_n 0, 1) := by decide +kernel
theorem dX3_copyFrom_1 : decode cX3_copyFrom 1 = .ok (.getfield 14, 3) := by decide +kernel
theorem dX3_copyFrom_4 : decode cX3_copyFrom 4 = .ok (.aload_n 1, 1) := by decide +kernel
theorem dX3_copyFrom_5 : decode cX3_copyFrom 5 = .ok (.getfield 14, 3) := by decide +kernel
theorem dX3_copyFrom_8 : decode cX3_copyFrom 8 = .ok (.invokevirtual 29, 3) := by decide +kernel
theorem dX3_copyFrom_11 : decode cX3_copyFrom 11 = .ok (.aload_n 0, 1) := by decide +kernel
theorem dX3_copyFrom_12 : decode cX3_copyFrom 12 = .ok (.getfield 20, 3) := by decide +kernel
theorem dX3_copyFrom_15 : decode cX3_copyFrom 15 = .ok (.aload_n 1, 1) := by decide +kernel
theorem dX3_copyFrom_16 : decode cX3_copyFrom 16 = .ok (.getfield 20, 3) := by decide +kernel
theorem dX3_copyFrom_19 : decode cX3_copyFrom 19 = .ok (.invokevirtual 29, 3) := by decide +kernel
theorem dX3_copyFrom_22 : decode cX3_copyFrom 22 = .ok (.aload_n 0, 1) := by decide +kernel
theorem dX3_copyFrom_23 : decode cX3_copyFrom 23 = .ok (.getfield 23, 3) := by decide +kernel
theorem dX3_copyFrom_26 : decode cX3_copyFrom 26 = .ok (.aload_n 1, 1) := by decide +kernel
theorem dX3_copyFrom_27 : decode cX3_copyFrom 27 = .ok (.getfield 23, 3) := by decide +kernel
theorem dX3_copyFrom_30 : decode cX3_copyFrom 30 = .ok (.invokevirtual 29, 3) := by decide +kernel
theorem dX3_copyFrom_33 : decode cX3_copyFrom 33 = .ok (.aload_n 0, 1) := by decide +kernel
theorem dX3_copyFrom_34 : decode cX3_copyFrom 34 = .ok (.getfield 26, 3) := by decide +kernel
theorem dX3_copyFrom_37 : decode cX3_copyFrom 37 = .ok (.aload_n 1, 1) := by decide +kernel
theorem dX3_copyFrom_38 : decode cX3_copyFrom 38 = .ok (.getfield 26, 3) := by decide +kernel
theorem dX3_copyFrom_41 : decode cX3_copyFrom 41 = .ok (.invokevirtual 29, 3) := by decide +kernel
theorem dX3_copyFrom_44 : decode cX3_copyFrom 44 = .ok (.aload_n 0, 1) := by decide +kernel
theorem dX3_copyFrom_45 : decode cX3_copyFrom 45 = .ok (.aload_n 1, 1) := by decide +kernel
theorem dX3_copyFrom_46 : decode cX3_copyFrom 46 = .ok (.getfield 33, 3) := by decide +kernel
theorem dX3_copyFrom_49 : decode cX3_copyFrom 49 = .ok (.putfield 33, 3) := by decide +kernel
theorem dX3_copyFrom_52 : decode cX3_copyFrom 52 = .ok (.aload_n 0, 1) := by decide +kernel
theorem dX3_copyFrom_53 : decode cX3_copyFrom 53 = .ok (.aload_n 1, 1) := by decide +kernel
theorem dX3_copyFrom_54 : decode cX3_copyFrom 54 = .ok (.getfield 37, 3) := by decide +kernel
theorem dX3_copyFrom_57 : decode cX3_copyFrom 57 = .ok (.putfield 37, 3) := by decide +kernel
theorem dX3_copyFrom_60 : decode cX3_copyFrom 60 = .ok (.return_, 1) := by decide +kernel
theorem dX3_has_0 : decode cX3_has 0 = .ok (.iload_n 1, 1) := by decide +kernel
theorem dX3_has_1 : decode cX3_has 1 = .ok (.ifCond .lt 15, 3) := by decide +kernel
theorem dX3_has_4 : decode cX3_has 4 = .ok (.iload_n 1, 1) := by decide +kernel
theorem dX3_has_5 : decode cX3_has 5 = .ok (.aload_n 0, 1) := by decide +kernel
theorem dX3_has_6 : decode cX3_has 6 = .ok (.getfield 33, 3) := by decide +kernel
theorem dX3_has_9 : decode cX3_has 9 = .ok (.if_icmp .ge 7, 3) := by decide +kernel
theorem dX3_has_12 : decode cX3_has 12 = .ok (.iconst 1, 1) := by decide +kernel
theorem dX3_has_13 : decode cX3_has 13 = .ok (.goto 4, 3) := by decide +kernel
theorem dX3_has_16 : decode cX3_has 16 = .ok (.iconst 0, 1) := by decide +kernel
theorem dX3_has_17 : decode cX3_has 17 = .ok (.ireturn, 1) := by decide +kernel
theorem dX3_append_0 : decode cX3_append 0 = .ok (.aload_n 0, 1) := by decide +kernel
theorem dX3_append_1 : decode cX3_append 1 = .ok (.getfield 14, 3) := by decide +kernel
theorem dX3_append_4 : decode cX3_append 4 = .ok (.aload_n 0, 1) := by decide +kernel
theorem dX3_append_5 : decode cX3_append 5 = .ok (.getfield 33, 3) := by decide +kernel
theorem dX3_append_8 : decode cX3_append 8 = .ok (.iload_n 1, 1) := by decide +kernel
theorem dX3_append_9 : decode cX3_append 9 = .ok (.iload_n 2, 1) := by decide +kernel
theorem dX3_append_10 : decode cX3_append 10 = .ok (.invokestatic 40, 3) := by decide +kernel
theorem dX3_append_13 : decode cX3_append 13 = .ok (.invokevirtual 46, 3) := by decide +kernel
theorem dX3_append_16 : decode cX3_append 16 = .ok (.aload_n 0, 1) := by decide +kernel
theorem dX3_append_17 : decode cX3_append 17 = .ok (.getfield 20, 3) := by decide +kernel
theorem dX3_append_20 : decode cX3_append 20 = .ok (.aload_n 0, 1) := by decide +kernel
theorem dX3_append_21 : decode cX3_append 21 = .ok (.getfield 33, 3) := by decide +kernel
theorem dX3_append_24 : decode cX3_append 24 = .ok (.iload_n 1, 1) := by decide +kernel
theorem dX3_append_25 : decode cX3_append 25 = .ok (.iload_n 2, 1) := by decide +kernel
theorem dX3_append_26 : decode cX3_append 26 = .ok (.invokestatic 50, 3) := by decide +kernel
theorem dX3_append_29 : decode cX3_append 29 = .ok (.invokevirtual 46, 3) := by decide +kernel
theorem dX3_append_32 : decode cX3_append 32 = .ok (.aload_n 0, 1) := by decide +kernel
theorem dX3_append_33 : decode cX3_append 33 = .ok (.getfield 23, 3) := by decide +kernel
theorem dX3_append_36 : decode cX3_append 36 = .ok (.aload_n 0, 1) := by decide +kernel
theorem dX3_append_37 : decode cX3_append 37 = .ok (.getfield 33, 3) := by decide +kernel
theorem dX3_append_40 : decode cX3_append 40 = .ok (.iload_n 3, 1) := by decide +kernel
theorem dX3_append_41 : decode cX3_append 41 = .ok (.invokevirtual 46, 3) := by decide +kernel
theorem dX3_append_44 : decode cX3_append 44 = .ok (.aload_n 0, 1) := by decide +kernel
theorem dX3_append_45 : decode cX3_append 45 = .ok (.getfield 26, 3) := by decide +kernel
theorem dX3_append_48 : decode cX3_append 48 = .ok (.aload_n 0, 1) := by decide +kernel
theorem dX3_append_49 : decode cX3_append 49 = .ok (.getfield 33, 3) := by decide +kernel
theorem dX3_append_52 : decode cX3_append 52 = .ok (.iload 4, 2) := by decide +kernel
theorem dX3_append_54 : decode cX3_append 54 = .ok (.invokevirtual 46, 3) := by decide +kernel
theorem dX3_append_57 : decode cX3_append 57 = .ok (.aload_n 0, 1) := by decide +kernel
theorem dX3_append_58 : decode cX3_append 58 = .ok (.dup, 1) := by decide +kernel
theorem dX3_append_59 : decode cX3_append 59 = .ok (.getfield 33, 3) := by decide +kernel
theorem dX3_append_62 : decode cX3_append 62 = .ok (.iconst 1, 1) := by decide +kernel
theorem dX3_append_63 : decode cX3_append 63 = .ok (.iadd, 1) := by decide +kernel
theorem dX3_append_64 : decode cX3_append 64 = .ok (.putfield 33, 3) := by decide +kernel
theorem dX3_append_67 : decode cX3_append 67 = .ok (.aload_n 0, 1) := by decide +kernel
theorem dX3_append_68 : decode cX3_append 68 = .ok (.getfield 33, 3) := by decide +kernel
theorem dX3_append_71 : decode cX3_append 71 = .ok (.iconst 1, 1) := by decide +kernel
theorem dX3_append_72 : decode cX3_append 72 = .ok (.isub, 1) := by decide +kernel
theorem dX3_append_73 : decode cX3_append 73 = .ok (.ireturn, 1) := by decide +kernel
theorem dX3_removeAt_0 : decode cX3_removeAt 0 = .ok (.aload_n 0, 1) := by decide +kernel
theorem dX3_removeAt_1 : decode cX3_removeAt 1 = .ok (.getfield 14, 3) := by decide +kernel
theorem dX3_removeAt_4 : decode cX3_removeAt 4 = .ok (.iload_n 1, 1) := by decide +kernel
theorem dX3_removeAt_5 : decode cX3_removeAt 5 = .ok (.invokevirtual 53, 3) := by decide +kernel
theorem dX3_removeAt_8 : decode cX3_removeAt 8 = .ok (.aload_n 0, 1) := by decide +kernel
theorem dX3_removeAt_9 : decode cX3_removeAt 9 = .ok (.getfield 20, 3) := by decide +kernel
theorem dX3_removeAt_12 : decode cX3_removeAt 12 = .ok (.iload_n 1, 1) := by decide +kernel
theorem dX3_removeAt_13 : decode cX3_removeAt 13 = .ok (.invokevirtual 53, 3) := by decide +kernel
theorem dX3_removeAt_16 : decode cX3_removeAt 16 = .ok (.aload_n 0, 1) := by decide +kernel
theorem dX3_removeAt_17 : decode cX3_removeAt 17 = .ok (.getfield 23, 3) := by decide +kernel
theorem dX3_removeAt_20 : decode cX3_removeAt 20 = .ok (.iload_n 1, 1) := by decide +kernel
theorem dX3_removeAt_21 : decode cX3_removeAt 21 = .ok (.invokevirtual 53, 3) := by decide +kernel
theorem dX3_removeAt_24 : decode cX3_removeAt 24 = .ok (.aload_n 0, 1) := by decide +kernel
theorem dX3_removeAt_25 : decode cX3_removeAt 25 = .ok (.getfield 26, 3) := by decide +kernel
theorem dX3_removeAt_28 : decode cX3_removeAt 28 = .ok (.iload_n 1, 1) := by decide +kernel
theorem dX3_removeAt_29 : decode cX3_removeAt 29 = .ok (.invokevirtual 53, 3) := by decide +kernel
theorem dX3_removeAt_32 : decode cX3_removeAt 32 = .ok (.aload_n 0, 1) := by decide +kernel
theorem dX3_removeAt_33 : decode cX3_removeAt 33 = .ok (.dup, 1) := by decide +kernel
theorem dX3_removeAt_34 : decode cX3_removeAt 34 = .ok (.getfield 33, 3) := by decide +kernel
theorem dX3_removeAt_37 : decode cX3_removeAt 37 = .ok (.iconst 1, 1) := by decide +kernel
theorem dX3_removeAt_38 : decode cX3_removeAt 38 = .ok (.isub, 1) := by decide +kernel
theorem dX3_removeAt_39 : decode cX3_removeAt 39 = .ok (.putfield 33, 3) := by decide +kernel
theorem dX3_removeAt_42 : decode cX3_removeAt 42 = .ok (.aload_n 0, 1) := by decide +kernel
theorem dX3_removeAt_43 : decode cX3_removeAt 43 = .ok (.dup, 1) := by decide +kernel
theorem dX3_removeAt_44 : decode cX3_removeAt 44 = .ok (.getfield 37, 3) := by decide +kernel
theorem dX3_removeAt_47 : decode cX3_removeAt 47 = .ok (.iconst 1, 1) := by decide +kernel
theorem dX3_removeAt_48 : decode cX3_removeAt 48 = .ok (.iadd, 1) := by decide +kernel
theorem dX3_removeAt_49 : decode cX3_removeAt 49 = .ok (.putfield 37, 3) := by decide +kernel
theorem dX3_removeAt_52 : decode cX3_removeAt 52 = .ok (.return_, 1) := by decide +kernel
theorem dX3_removeAllOf_0 : decode cX3_removeAllOf 0 = .ok (.iconst 0, 1) := by decide +kernel
theorem dX3_removeAllOf_1 : decode cX3_removeAllOf 1 = .ok (.istore_n 2, 1) := by decide +kernel
theorem dX3_removeAllOf_2 : decode cX3_removeAllOf 2 = .ok (.aload_n 0, 1) := by decide +kernel
theorem dX3_removeAllOf_3 : decode cX3_removeAllOf 3 = .ok (.getfield 33, 3) := by decide +kernel
theorem dX3_removeAllOf_6 : decode cX3_removeAllOf 6 = .ok (.iconst 1, 1) := by decide +kernel
theorem dX3_removeAllOf_7 : decode cX3_removeAllOf 7 = .ok (.isub, 1) := by decide +kernel
theorem dX3_removeAllOf_8 : decode cX3_removeAllOf 8 = .ok (.istore_n 3, 1) := by decide +kernel
theorem dX3_removeAllOf_9 : decode cX3_removeAllOf 9 = .ok (.iload_n 3, 1) := by decide +kernel
theorem dX3_removeAllOf_10 : decode cX3_removeAllOf 10 = .ok (.ifCond .lt 29, 3) := by decide +kernel
theorem dX3_removeAllOf_13 : decode cX3_removeAllOf 13 = .ok (.aload_n 0, 1) := by decide +kernel
theorem dX3_removeAllOf_14 : decode cX3_removeAllOf 14 = .ok (.getfield 26, 3) := by decide +kernel
theorem dX3_removeAllOf_17 : decode cX3_removeAllOf 17 = .ok (.iload_n 3, 1) := by decide +kernel
theorem dX3_removeAllOf_18 : decode cX3_removeAllOf 18 = .ok (.invokevirtual 56, 3) := by decide +kernel
theorem dX3_removeAllOf_21 : decode cX3_removeAllOf 21 = .ok (.iload_n 1, 1) := by decide +kernel
theorem dX3_removeAllOf_22 : decode cX3_removeAllOf 22 = .ok (.if_icmp .ne 11, 3) := by decide +kernel
theorem dX3_removeAllOf_25 : decode cX3_removeAllOf 25 = .ok (.aload_n 0, 1) := by decide +kernel
theorem dX3_removeAllOf_26 : decode cX3_removeAllOf 26 = .ok (.iload_n 3, 1) := by decide +kernel
theorem dX3_removeAllOf_27 : decode cX3_removeAllOf 27 = .ok (.invokevirtual 60, 3) := by decide +kernel
theorem dX3_removeAllOf_30 : decode cX3_removeAllOf 30 = .ok (.iinc 2 1, 3) := by decide +kernel
theorem dX3_removeAllOf_33 : decode cX3_removeAllOf 33 = .ok (.iinc 3 (-1), 3) := by decide +kernel
theorem dX3_removeAllOf_36 : decode cX3_removeAllOf 36 = .ok (.goto (-27), 3) := by decide +kernel
theorem dX3_removeAllOf_39 : decode cX3_removeAllOf 39 = .ok (.iload_n 2, 1) := by decide +kernel
theorem dX3_removeAllOf_40 : decode cX3_removeAllOf 40 = .ok (.ireturn, 1) := by decide +kernel
theorem dX3_areTied_0 : decode cX3_areTied 0 = .ok (.iload_n 1, 1) := by decide +kernel
theorem dX3_areTied_1 : decode cX3_areTied 1 = .ok (.iload_n 2, 1) := by decide +kernel
theorem dX3_areTied_2 : decode cX3_areTied 2 = .ok (.invokestatic 40, 3) := by decide +kernel
theorem dX3_areTied_5 : decode cX3_areTied 5 = .ok (.istore_n 3, 1) := by decide +kernel
theorem dX3_areTied_6 : decode cX3_areTied 6 = .ok (.iload_n 1, 1) := by decide +kernel
theorem dX3_areTied_7 : decode cX3_areTied 7 = .ok (.iload_n 2, 1) := by decide +kernel
theorem dX3_areTied_8 : decode cX3_areTied 8 = .ok (.invokestatic 50, 3) := by decide +kernel
theorem dX3_areTied_11 : decode cX3_areTied 11 = .ok (.istore 4, 2) := by decide +kernel
theorem dX3_areTied_13 : decode cX3_areTied 13 = .ok (.iconst 0, 1) := by decide +kernel
theorem dX3_areTied_14 : decode cX3_areTied 14 = .ok (.istore 5, 2) := by decide +kernel
theorem dX3_areTied_16 : decode cX3_areTied 16 = .ok (.iload 5, 2) := by decide +kernel
theorem dX3_areTied_18 : decode cX3_areTied 18 = .ok (.aload_n 0, 1) := by decide +kernel
theorem dX3_areTied_19 : decode cX3_areTied 19 = .ok (.getfield 33, 3) := by decide +kernel
theorem dX3_areTied_22 : decode cX3_areTied 22 = .ok (.if_icmp .ge 38, 3) := by decide +kernel
theorem dX3_areTied_25 : decode cX3_areTied 25 = .ok (.aload_n 0, 1) := by decide +kernel
theorem dX3_areTied_26 : decode cX3_areTied 26 = .ok (.getfield 14, 3) := by decide +kernel
theorem dX3_areTied_29 : decode cX3_areTied 29 = .ok (.iload 5, 2) := by decide +kernel
theorem dX3_areTied_31 : decode cX3_areTied 31 = .ok (.invokevirtual 56, 3) := by decide +kernel
theorem dX3_areTied_34 : decode cX3_areTied 34 = .ok (.iload_n 3, 1) := by decide +kernel
theorem dX3_areTied_35 : decode cX3_areTied 35 = .ok (.if_icmp .ne 19, 3) := by decide +kernel
theorem dX3_areTied_38 : decode cX3_areTied 38 = .ok (.aload_n 0, 1) := by decide +kernel
theorem dX3_areTied_39 : decode cX3_areTied 39 = .ok (.getfield 20, 3) := by decide +kernel
theorem dX3_areTied_42 : decode cX3_areTied 42 = .ok (.iload 5, 2) := by decide +kernel
theorem dX3_areTied_44 : decode cX3_areTied 44 = .ok (.invokevirtual 56, 3) := by decide +kernel
theorem dX3_areTied_47 : decode cX3_areTied 47 = .ok (.iload 4, 2) := by decide +kernel
theorem dX3_areTied_49 : decode cX3_areTied 49 = .ok (.if_icmp .ne 5, 3) := by decide +kernel
theorem dX3_areTied_52 : decode cX3_areTied 52 = .ok (.iconst 1, 1) := by decide +kernel
theorem dX3_areTied_53 : decode cX3_areTied 53 = .ok (.ireturn, 1) := by decide +kernel
theorem dX3_areTied_54 : decode cX3_areTied 54 = .ok (.iinc 5 1, 3) := by decide +kernel
theorem dX3_areTied_57 : decode cX3_areTied 57 = .ok (.goto (-41), 3) := by decide +kernel
theorem dX3_areTied_60 : decode cX3_areTied 60 = .ok (.iconst 0, 1) := by decide +kernel
theorem dX3_areTied_61 : decode cX3_areTied 61 = .ok (.ireturn, 1) := by decide +kernel
theorem dX3_howManyAt_0 : decode cX3_howManyAt 0 = .ok (.iconst 0, 1) := by decide +kernel
theorem dX3_howManyAt_1 : decode cX3_howManyAt 1 = .ok (.istore_n 2, 1) := by decide +kernel
theorem dX3_howManyAt_2 : decode cX3_howManyAt 2 = .ok (.iconst 0, 1) := by decide +kernel
theorem dX3_howManyAt_3 : decode cX3_howManyAt 3 = .ok (.istore_n 3, 1) := by decide +kernel
theorem dX3_howManyAt_4 : decode cX3_howManyAt 4 = .ok (.iload_n 3, 1) := by decide +kernel
theorem dX3_howManyAt_5 : decode cX3_howManyAt 5 = .ok (.aload_n 0, 1) := by decide +kernel
theorem dX3_howManyAt_6 : decode cX3_howManyAt 6 = .ok (.getfield 33, 3) := by decide +kernel
theorem dX3_howManyAt_9 : decode cX3_howManyAt 9 = .ok (.if_icmp .ge 36, 3) := by decide +kernel
theorem dX3_howManyAt_12 : decode cX3_howManyAt 12 = .ok (.aload_n 0, 1) := by decide +kernel
theorem dX3_howManyAt_13 : decode cX3_howManyAt 13 = .ok (.getfield 14, 3) := by decide +kernel
theorem dX3_howManyAt_16 : decode cX3_howManyAt 16 = .ok (.iload_n 3, 1) := by decide +kernel
theorem dX3_howManyAt_17 : decode cX3_howManyAt 17 = .ok (.invokevirtual 56, 3) := by decide +kernel
theorem dX3_howManyAt_20 : decode cX3_howManyAt 20 = .ok (.iload_n 1, 1) := by decide +kernel
theorem dX3_howManyAt_21 : decode cX3_howManyAt 21 = .ok (.if_icmp .eq 15, 3) := by decide +kernel
theorem dX3_howManyAt_24 : decode cX3_howManyAt 24 = .ok (.aload_n 0, 1) := by decide +kernel
theorem dX3_howManyAt_25 : decode cX3_howManyAt 25 = .ok (.getfield 20, 3) := by decide +kernel
theorem dX3_howManyAt_28 : decode cX3_howManyAt 28 = .ok (.iload_n 3, 1) := by decide +kernel
theorem dX3_howManyAt_29 : decode cX3_howManyAt 29 = .ok (.invokevirtual 56, 3) := by decide +kernel
theorem dX3_howManyAt_32 : decode cX3_howManyAt 32 = .ok (.iload_n 1, 1) := by decide +kernel
theorem dX3_howManyAt_33 : decode cX3_howManyAt 33 = .ok (.if_icmp .ne 6, 3) := by decide +kernel
theorem dX3_howManyAt_36 : decode cX3_howManyAt 36 = .ok (.iinc 2 1, 3) := by decide +kernel
theorem dX3_howManyAt_39 : decode cX3_howManyAt 39 = .ok (.iinc 3 1, 3) := by decide +kernel
theorem dX3_howManyAt_42 : decode cX3_howManyAt 42 = .ok (.goto (-38), 3) := by decide +kernel
theorem dX3_howManyAt_45 : decode cX3_howManyAt 45 = .ok (.iload_n 2, 1) := by decide +kernel
theorem dX3_howManyAt_46 : decode cX3_howManyAt 46 = .ok (.ireturn, 1) := by decide +kernel
theorem dX3_oneStringFurther_0 : decode cX3_oneStringFurther 0 = .ok (.iload_n 1, 1) := by decide +kernel
theorem dX3_oneStringFurther_1 : decode cX3_oneStringFurther 1 = .ok (.istore_n 2, 1) := by decide +kernel
theorem dX3_oneStringFurther_2 : decode cX3_oneStringFurther 2 = .ok (.iconst 0, 1) := by decide +kernel
theorem dX3_oneStringFurther_3 : decode cX3_oneStringFurther 3 = .ok (.istore_n 3, 1) := by decide +kernel
theorem dX3_oneStringFurther_4 : decode cX3_oneStringFurther 4 = .ok (.iload_n 3, 1) := by decide +kernel
theorem dX3_oneStringFurther_5 : decode cX3_oneStringFurther 5 = .ok (.aload_n 0, 1) := by decide +kernel
theorem dX3_oneStringFurther_6 : decode cX3_oneStringFurther 6 = .ok (.getfield 33, 3) := by decide +kernel
theorem dX3_oneStringFurther_9 : decode cX3_oneStringFurther 9 = .ok (.if_icmp .ge 44, 3) := by decide +kernel
theorem dX3_oneStringFurther_12 : decode cX3_oneStringFurther 12 = .ok (.iconst 1, 1) := by decide +kernel
theorem dX3_oneStringFurther_13 : decode cX3_oneStringFurther 13 = .ok (.aload_n 0, 1) := by decide +kernel
theorem dX3_oneStringFurther_14 : decode cX3_oneStringFurther 14 = .ok (.getfield 14, 3) := by decide +kernel
theorem dX3_oneStringFurther_17 : decode cX3_oneStringFurther 17 = .ok (.iload_n 3, 1) := by decide +kernel
theorem dX3_oneStringFurther_18 : decode cX3_oneStringFurther 18 = .ok (.invokevirtual 56, 3) := by decide +kernel
theorem dX3_oneStringFurther_21 : decode cX3_oneStringFurther 21 = .ok (.ishl, 1) := by decide +kernel
theorem dX3_oneStringFurther_22 : decode cX3_oneStringFurther 22 = .ok (.iconst 1, 1) := by decide +kernel
theorem dX3_oneStringFurther_23 : decode cX3_oneStringFurther 23 = .ok (.aload_n 0, 1) := by decide +kernel
theorem dX3_oneStringFurther_24 : decode cX3_oneStringFurther 24 = .ok (.getfield 20, 3) := by decide +kernel
theorem dX3_oneStringFurther_27 : decode cX3_oneStringFurther 27 = .ok (.iload_n 3, 1) := by decide +kernel
theorem dX3_oneStringFurther_28 : decode cX3_oneStringFurther 28 = .ok (.invokevirtual 56, 3) := by decide +kernel
theorem dX3_oneStringFurther_31 : decode cX3_oneStringFurther 31 = .ok (.ishl, 1) := by decide +kernel
theorem dX3_oneStringFurther_32 : decode cX3_oneStringFurther 32 = .ok (.ior, 1) := by decide +kernel
theorem dX3_oneStringFurther_33 : decode cX3_oneStringFurther 33 = .ok (.istore 4, 2) := by decide +kernel
theorem dX3_oneStringFurther_35 : decode cX3_oneStringFurther 35 = .ok (.iload_n 1, 1) := by decide +kernel
theorem dX3_oneStringFurther_36 : decode cX3_oneStringFurther 36 = .ok (.iload 4, 2) := by decide +kernel
theorem dX3_oneStringFurther_38 : decode cX3_oneStringFurther 38 = .ok (.iand, 1) := by decide +kernel
theorem dX3_oneStringFurther_39 : decode cX3_oneStringFurther 39 = .ok (.ifCond .eq 8, 3) := by decide +kernel
theorem dX3_oneStringFurther_42 : decode cX3_oneStringFurther 42 = .ok (.iload_n 2, 1) := by decide +kernel
theorem dX3_oneStringFurther_43 : decode cX3_oneStringFurther 43 = .ok (.iload 4, 2) := by decide +kernel
theorem dX3_oneStringFurther_45 : decode cX3_oneStringFurther 45 = .ok (.ior, 1) := by decide +kernel
theorem dX3_oneStringFurther_46 : decode cX3_oneStringFurther 46 = .ok (.istore_n 2, 1) := by decide +kernel
theorem dX3_oneStringFurther_47 : decode cX3_oneStringFurther 47 = .ok (.iinc 3 1, 3) := by decide +kernel
theorem dX3_oneStringFurther_50 : decode cX3_oneStringFurther 50 = .ok (.goto (-46), 3) := by decide +kernel
theorem dX3_oneStringFurther_53 : decode cX3_oneStringFurther 53 = .ok (.iload_n 2, 1) := by decide +kernel
theorem dX3_oneStringFurther_54 : decode cX3_oneStringFurther 54 = .ok (.ireturn, 1) := by decide +kernel
theorem dX4_init_0 : decode cX4_init 0 = .ok (.aload_n 0, 1) := by decide +kernel
theorem dX4_init_1 : decode cX4_init 1 = .ok (.invokespecial 3, 3) := by decide +kernel
theorem dX4_init_4 : decode cX4_init 4 = .ok (.aload_n 0, 1) := by decide +kernel
theorem dX4_init_5 : decode cX4_init 5 = .ok (.new 9, 3) := by decide +kernel
theorem dX4_init_8 : decode cX4_init 8 = .ok (.dup, 1) := by decide +kernel
theorem dX4_init_9 : decode cX4_init 9 = .ok (.bipush 60, 2) := by decide +kernel
theorem dX4_init_11 : decode cX4_init 11 = .ok (.invokespecial 11, 3) := by decide +kernel
theorem dX4_init_14 : decode cX4_init 14 = .ok (.putfield 14, 3) := by decide +kernel
theorem dX4_init_17 : decode cX4_init 17 = .ok (.aload_n 0, 1) := by decide +kernel
theorem dX4_init_18 : decode cX4_init 18 = .ok (.new 9, 3) := by decide +kernel
theorem dX4_init_21 : decode cX4_init 21 = .ok (.dup, 1) := by decide +kernel
theorem dX4_init_22 : decode cX4_init 22 = .ok (.iconst 3, 1) := by decide +kernel
theorem dX4_init_23 : decode cX4_init 23 = .ok (.invokespecial 11, 3) := by decide +kernel
theorem dX4_init_26 : decode cX4_init 26 = .ok (.putfield 20, 3) := by decide +kernel
theorem dX4_init_29 : decode cX4_init 29 = .ok (.return_, 1) := by decide +kernel
theorem dX5_init_0 : decode cX5_init 0 = .ok (.aload_n 0, 1) := by decide +kernel
theorem dX5_init_1 : decode cX5_init 1 = .ok (.invokespecial 3, 3) := by decide +kernel
theorem dX5_init_4 : decode cX5_init 4 = .ok (.aload_n 0, 1) := by decide +kernel
theorem dX5_init_5 : decode cX5_init 5 = .ok (.new 9, 3) := by decide +kernel
theorem dX5_init_8 : decode cX5_init 8 = .ok (.dup, 1) := by decide +kernel
theorem dX5_init_9 : decode cX5_init 9 = .ok (.bipush 12, 2) := by decide +kernel
theorem dX5_init_11 : decode cX5_init 11 = .ok (.invokespecial 11, 3) := by decide +kernel
theorem dX5_init_14 : decode cX5_init 14 = .ok (.putfield 14, 3) := by decide +kernel
theorem dX5_init_17 : decode cX5_init 17 = .ok (.return_, 1) := by decide +kernel
theorem dJ9_max_7cf53_0 : decode cJ9_max_7cf53 0 = .ok (.iload_n 0, 1) := by decide +kernel
theorem dJ9_max_7cf53_1 : decode cJ9_max_7cf53 1 = .ok (.iload_n 1, 1) := by decide +kernel
theorem dJ9_max_7cf53_2 : decode cJ9_max_7cf53 2 = .ok (.if_icmp .lt 7, 3) := by decide +kernel
theorem dJ9_max_7cf53_5 : decode cJ9_max_7cf53 5 = .ok (.iload_n 0, 1) := by decide +kernel
theorem dJ9_max_7cf53_6 : decode cJ9_max_7cf53 6 = .ok (.goto 4, 3) := by decide +kernel
theorem dJ9_max_7cf53_9 : decode cJ9_max_7cf53 9 = .ok (.iload_n 1, 1) := by decide +kernel
theorem dJ9_max_7cf53_10 : decode cJ9_max_7cf53 10 = .ok (.ireturn, 1) := by decide +kernel
theorem dJ9_min_7cf53_0 : decode cJ9_min_7cf53 0 = .ok (.iload_n 0, 1) := by decide +kernel
theorem dJ9_min_7cf53_1 : decode cJ9_min_7cf53 1 = .ok (.iload_n 1, 1) := by decide +kernel
theorem dJ9_min_7cf53_2 : decode cJ9_min_7cf53 2 = .ok (.if_icmp .gt 7, 3) := by decide +kernel
theorem dJ9_min_7cf53_5 : decode cJ9_min_7cf53 5 = .ok (.iload_n 0, 1) := by decide +kernel
theorem dJ9_min_7cf53_6 : decode cJ9_min_7cf53 6 = .ok (.goto 4, 3) := by decide +kernel
theorem dJ9_min_7cf53_9 : decode cJ9_min_7cf53 9 = .ok (.iload_n 1, 1) := by decide +kernel
theorem dJ9_min_7cf53_10 : decode cJ9_min_7cf53 10 = .ok (.ireturn, 1) := by decide +kernel
