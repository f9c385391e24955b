theorem dX1_init_0 : decode cX1_init 0 = .ok (.aload_n 0, 1) := by decide +kernel
theorem dX1_init_1 : decode cX1_init 1 = .ok (.invokespecial 3, 3) := by decide +kernel
theorem dX1_init_4 : decode cX1_init 4 = .ok (.aload_n 0, 1) := by decide +kernel
theorem dX1_init_5 : decode cX1_init 5 = .ok (.new 9, 3) := by decide +kernel
theorem dX1_init_8 : decode cX1_init 8 = .ok (.dup, 1) := by decide +kernel
theorem dX1_init_9 : decode cX1_init 9 = .ok (.bipush 12, 2) := by decide +kernel
theorem dX1_init_11 : decode cX1_init 11 = .ok (.invokespecial 11, 3) := by decide +kernel
theorem dX1_init_14 : decode cX1_init 14 = .ok (.putfield 14, 3) := by decide +kernel
theorem dX1_init_17 : decode cX1_init 17 = .ok (.aload_n 0, 1) := by decide +kernel
theorem dX1_init_18 : decode cX1_init 18 = .ok (.new 9, 3) := by decide +kernel
theorem dX1_init_21 : decode cX1_init 21 = .ok (.dup, 1) := by decide +kernel
theorem dX1_init_22 : decode cX1_init 22 = .ok (.bipush 12, 2) := by decide +kernel
theorem dX1_init_24 : decode cX1_init 24 = .ok (.invokespecial 11, 3) := by decide +kernel
theorem dX1_init_27 : decode cX1_init 27 = .ok (.putfield 20, 3) := by decide +kernel
theorem dX1_init_30 : decode cX1_init 30 = .ok (.aload_n 0, 1) := by decide +kernel
theorem dX1_init_31 : decode cX1_init 31 = .ok (.new 9, 3) := by decide +kernel
theorem dX1_init_34 : decode cX1_init 34 = .ok (.dup, 1) := by decide +kernel
theorem dX1_init_35 : decode cX1_init 35 = .ok (.bipush 12, 2) := by decide +kernel
theorem dX1_init_37 : decode cX1_init 37 = .ok (.invokespecial 11, 3) := by decide +kernel
theorem dX1_init_40 : decode cX1_init 40 = .ok (.putfield 23, 3) := by decide +kernel
theorem dX1_init_43 : decode cX1_init 43 = .ok (.aload_n 0, 1) := by decide +kernel
theorem dX1_init_44 : decode cX1_init 44 = .ok (.new 9, 3) := by decide +kernel
theorem dX1_init_47 : decode cX1_init 47 = .ok (.dup, 1) := by decide +kernel
theorem dX1_init_48 : decode cX1_init 48 = .ok (.bipush 12, 2) := by decide +kernel
theorem dX1_init_50 : decode cX1_init 50 = .ok (.invokespecial 11, 3) := by decide +kernel
theorem dX1_init_53 : decode cX1_init 53 = .ok (.putfield 26, 3) := by decide +kernel
theorem dX1_init_56 : decode cX1_init 56 = .ok (.aload_n 0, 1) := by decide +kernel
theorem dX1_init_57 : decode cX1_init 57 = .ok (.new 9, 3) := by decide +kernel
theorem dX1_init_60 : decode cX1_init 60 = .ok (.dup, 1) := by decide +kernel
theorem dX1_init_61 : decode cX1_init 61 = .ok (.bipush 12, 2) := by decide +kernel
theorem dX1_init_63 : decode cX1_init 63 = .ok (.invokespecial 11, 3) := by decide +kernel
theorem dX1_init_66 : decode cX1_init 66 = .ok (.putfield 29, 3) := by decide +kernel
theorem dX1_init_69 : decode cX1_init 69 = .ok (.aload_n 0, 1) := by decide +kernel
theorem dX1_init_70 : decode cX1_init 70 = .ok (.new 9, 3) := by decide +kernel
theorem dX1_init_73 : decode cX1_init 73 = .ok (.dup, 1) := by decide +kernel
theorem dX1_init_74 : decode cX1_init 74 = .ok (.bipush 12, 2) := by decide +kernel
theorem dX1_init_76 : decode cX1_init 76 = .ok (.invokespecial 11, 3) := by decide +kernel
theorem dX1_init_79 : decode cX1_init 79 = .ok (.putfield 32, 3) := by decide +kernel
theorem dX1_init_82 : decode cX1_init 82 = .ok (.aload_n 0, 1) := by decide +kernel
theorem dX1_init_83 : decode cX1_init 83 = .ok (.new 35, 3) := by decide +kernel
theorem dX1_init_86 : decode cX1_init 86 = .ok (.dup, 1) := by decide +kernel
theorem dX1_init_87 : decode cX1_init 87 = .ok (.invokespecial 37, 3) := by decide +kernel
theorem dX1_init_90 : decode cX1_init 90 = .ok (.putfield 38, 3) := by decide +kernel
theorem dX1_init_93 : decode cX1_init 93 = .ok (.aload_n 0, 1) := by decide +kernel
theorem dX1_init_94 : decode cX1_init 94 = .ok (.new 42, 3) := by decide +kernel
theorem dX1_init_97 : decode cX1_init 97 = .ok (.dup, 1) := by decide +kernel
theorem dX1_init_98 : decode cX1_init 98 = .ok (.invokespecial 44, 3) := by decide +kernel
theorem dX1_init_101 : decode cX1_init 101 = .ok (.putfield 45, 3) := by decide +kernel
theorem dX1_init_104 : decode cX1_init 104 = .ok (.aload_n 0, 1) := by decide +kernel
theorem dX1_init_105 : decode cX1_init 105 = .ok (.iconst 3, 1) := by decide +kernel
theorem dX1_init_106 : decode cX1_init 106 = .ok (.putfield 49, 3) := by decide +kernel
theorem dX1_init_109 : decode cX1_init 109 = .ok (.return_, 1) := by decide +kernel
theorem dX1_copyFrom_0 : decode cX1_copyFrom 0 = .ok (.aload_n 0, 1) := by decide +kernel
theorem dX1_copyFrom_1 : decode cX1_copyFrom 1 = .ok (.getfield 14, 3) := by decide +kernel
theorem dX1_copyFrom_4 : decode cX1_copyFrom 4 = .ok (.aload_n 1, 1) := by decide +kernel
theorem dX1_copyFrom_5 : decode cX1_copyFrom 5 = .ok (.getfield 14, 3) := by decide +kernel
theorem dX1_copyFrom_8 : decode cX1_copyFrom 8 = .ok (.invokevirtual 53, 3) := by decide +kernel
theorem dX1_copyFrom_11 : decode cX1_copyFrom 11 = .ok (.aload_n 0, 1) := by decide +kernel
theorem dX1_copyFrom_12 : decode cX1_copyFrom 12 = .ok (.getfield 20, 3) := by decide +kernel
theorem dX1_copyFrom_15 : decode cX1_copyFrom 15 = .ok (.aload_n 1, 1) := by decide +kernel
theorem dX1_copyFrom_16 : decode cX1_copyFrom 16 = .ok (.getfield 20, 3) := by decide +kernel
theorem dX1_copyFrom_19 : decode cX1_copyFrom 19 = .ok (.invokevirtual 53, 3) := by decide +kernel
theorem dX1_copyFrom_22 : decode cX1_copyFrom 22 = .ok (.aload_n 0, 1) := by decide +kernel
theorem dX1_copyFrom_23 : decode cX1_copyFrom 23 = .ok (.getfield 23, 3) := by decide +kernel
theorem dX1_copyFrom_26 : decode cX1_copyFrom 26 = .ok (.aload_n 1, 1) := by decide +kernel
theorem dX1_copyFrom_27 : decode cX1_copyFrom 27 = .ok (.getfield 23, 3) := by decide +kernel
theorem dX1_copyFrom_30 : decode cX1_copyFrom 30 = .ok (.invokevirtual 53, 3) := by decide +kernel
theorem dX1_copyFrom_33 : decode cX1_copyFrom 33 = .ok (.aload_n 0, 1) := by decide +kernel
theorem dX1_copyFrom_34 : decode cX1_copyFrom 34 = .ok (.getfield 26, 3) := by decide +kernel
theorem dX1_copyFrom_37 : decode cX1_copyFrom 37 = .ok (.aload_n 1, 1) := by decide +kernel
theorem dX1_copyFrom_38 : decode cX1_copyFrom 38 = .ok (.getfield 26, 3) := by decide +kernel
theorem dX1_copyFrom_41 : decode cX1_copyFrom 41 = .ok (.invokevirtual 53, 3) := by decide +kernel
theorem dX1_copyFrom_44 : decode cX1_copyFrom 44 = .ok (.aload_n 0, 1) := by decide +kernel
theorem dX1_copyFrom_45 : decode cX1_copyFrom 45 = .ok (.getfield 29, 3) := by decide +kernel
theorem dX1_copyFrom_48 : decode cX1_copyFrom 48 = .ok (.aload_n 1, 1) := by decide +kernel
theorem dX1_copyFrom_49 : decode cX1_copyFrom 49 = .ok (.getfield 29, 3) := by decide +kernel
theorem dX1_copyFrom_52 : decode cX1_copyFrom 52 = .ok (.invokevirtual 53, 3) := by decide +kernel
theorem dX1_copyFrom_55 : decode cX1_copyFrom 55 = .ok (.aload_n 0, 1) := by decide +kernel
theorem dX1_copyFrom_56 : decode cX1_copyFrom 56 = .ok (.getfield 32, 3) := by decide +kernel
theorem dX1_copyFrom_59 : decode cX1_copyFrom 59 = .ok (.aload_n 1, 1) := by decide +kernel
theorem dX1_copyFrom_60 : decode cX1_copyFrom 60 = .ok (.getfield 32, 3) := by decide +kernel
theorem dX1_copyFrom_63 : decode cX1_copyFrom 63 = .ok (.invokevirtual 53, 3) := by decide +kernel
theorem dX1_copyFrom_66 : decode cX1_copyFrom 66 = .ok (.aload_n 0, 1) := by decide +kernel
theorem dX1_copyFrom_67 : decode cX1_copyFrom 67 = .ok (.getfield 38, 3) := by decide +kernel
theorem dX1_copyFrom_70 : decode cX1_copyFrom 70 = .ok (.aload_n 1, 1) := by decide +kernel
theorem dX1_copyFrom_71 : decode cX1_copyFrom 71 = .ok (.getfield 38, 3) := by decide +kernel
theorem dX1_copyFrom_74 : decode cX1_copyFrom 74 = .ok (.invokevirtual 57, 3) := by decide +kernel
theorem dX1_copyFrom_77 : decode cX1_copyFrom 77 = .ok (.aload_n 0, 1) := by decide +kernel
theorem dX1_copyFrom_78 : decode cX1_copyFrom 78 = .ok (.getfield 45, 3) := by decide +kernel
theorem dX1_copyFrom_81 : decode cX1_copyFrom 81 = .ok (.aload_n 1, 1) := by decide +kernel
theorem dX1_copyFrom_82 : decode cX1_copyFrom 82 = .ok (.getfield 45, 3) := by decide +kernel
theorem dX1_copyFrom_85 : decode cX1_copyFrom 85 = .ok (.invokevirtual 60, 3) := by decide +kernel
theorem dX1_copyFrom_88 : decode cX1_copyFrom 88 = .ok (.aload_n 0, 1) := by decide +kernel
theorem dX1_copyFrom_89 : decode cX1_copyFrom 89 = .ok (.aload_n 1, 1) := by decide +kernel
theorem dX1_copyFrom_90 : decode cX1_copyFrom 90 = .ok (.getfield 63, 3) := by decide +kernel
theorem dX1_copyFrom_93 : decode cX1_copyFrom 93 = .ok (.putfield 63, 3) := by decide +kernel
theorem dX1_copyFrom_96 : decode cX1_copyFrom 96 = .ok (.aload_n 0, 1) := by decide +kernel
theorem dX1_copyFrom_97 : decode cX1_copyFrom 97 = .ok (.aload_n 1, 1) := by decide +kernel
theorem dX1_copyFrom_98 : decode cX1_copyFrom 98 = .ok (.getfield 66, 3) := by decide +kernel
theorem dX1_copyFrom_101 : decode cX1_copyFrom 101 = .ok (.putfield 66, 3) := by decide +kernel
theorem dX1_copyFrom_104 : decode cX1_copyFrom 104 = .ok (.aload_n 0, 1) := by decide +kernel
theorem dX1_copyFrom_105 : decode cX1_copyFrom 105 = .ok (.aload_n 1, 1) := by decide +kernel
theorem dX1_copyFrom_106 : decode cX1_copyFrom 106 = .ok (.getfield 49, 3) := by decide +kernel
theorem dX1_copyFrom_109 : decode cX1_copyFrom 109 = .ok (.putfield 49, 3) := by decide +kernel
theorem dX1_copyFrom_112 : decode cX1_copyFrom 112 = .ok (.aload_n 0, 1) := by decide +kernel
theorem dX1_copyFrom_113 : decode cX1_copyFrom 113 = .ok (.aload_n 1, 1) := by decide +kernel
theorem dX1_copyFrom_114 : decode cX1_copyFrom 114 = .ok (.getfield 69, 3) := by decide +kernel
theorem dX1_copyFrom_117 : decode cX1_copyFrom 117 = .ok (.putfield 69, 3) := by decide +kernel
theorem dX1_copyFrom_120 : decode cX1_copyFrom 120 = .ok (.aload_n 0, 1) := by decide +kernel
theorem dX1_copyFrom_121 : decode cX1_copyFrom 121 = .ok (.aload_n 1, 1) := by decide +kernel
theorem dX1_copyFrom_122 : decode cX1_copyFrom 122 = .ok (.getfield 72, 3) := by decide +kernel
theorem dX1_copyFrom_125 : decode cX1_copyFrom 125 = .ok (.putfield 72, 3) := by decide +kernel
theorem dX1_copyFrom_128 : decode cX1_copyFrom 128 = .ok (.return_, 1) := by decide +kernel
theorem dX1_addPuppet_0 : decode cX1_addPuppet 0 = .ok (.iload_n 1, 1) := by decide +kernel
theorem dX1_addPuppet_1 : decode cX1_addPuppet 1 = .ok (.iconst 1, 1) := by decide +kernel
theorem dX1_addPuppet_2 : decode cX1_addPuppet 2 = .ok (.bipush 9, 2) := by decide +kernel
theorem dX1_addPuppet_4 : decode cX1_addPuppet 4 = .ok (.invokestatic 75, 3) := by decide +kernel
theorem dX1_addPuppet_7 : decode cX1_addPuppet 7 = .ok (.ifCond .eq 12, 3) := by decide +kernel
theorem dX1_addPuppet_10 : decode cX1_addPuppet 10 = .ok (.iload_n 2, 1) := by decide +kernel
theorem dX1_addPuppet_11 : decode cX1_addPuppet 11 = .ok (.iconst 0, 1) := by decide +kernel
theorem dX1_addPuppet_12 : decode cX1_addPuppet 12 = .ok (.iconst 1, 1) := by decide +kernel
theorem dX1_addPuppet_13 : decode cX1_addPuppet 13 = .ok (.invokestatic 75, 3) := by decide +kernel
theorem dX1_addPuppet_16 : decode cX1_addPuppet 16 = .ok (.ifCond .ne 6, 3) := by decide +kernel
theorem dX1_addPuppet_19 : decode cX1_addPuppet 19 = .ok (.ldc 79, 2) := by decide +kernel
theorem dX1_addPuppet_21 : decode cX1_addPuppet 21 = .ok (.ireturn, 1) := by decide +kernel
theorem dX1_addPuppet_22 : decode cX1_addPuppet 22 = .ok (.aload_n 0, 1) := by decide +kernel
theorem dX1_addPuppet_23 : decode cX1_addPuppet 23 = .ok (.getfield 63, 3) := by decide +kernel
theorem dX1_addPuppet_26 : decode cX1_addPuppet 26 = .ok (.bipush 12, 2) := by decide +kernel
theorem dX1_addPuppet_28 : decode cX1_addPuppet 28 = .ok (.if_icmp .lt 6, 3) := by decide +kernel
theorem dX1_addPuppet_31 : decode cX1_addPuppet 31 = .ok (.ldc 80, 2) := by decide +kernel
theorem dX1_addPuppet_33 : decode cX1_addPuppet 33 = .ok (.ireturn, 1) := by decide +kernel
theorem dX1_addPuppet_34 : decode cX1_addPuppet 34 = .ok (.aload_n 0, 1) := by decide +kernel
theorem dX1_addPuppet_35 : decode cX1_addPuppet 35 = .ok (.getfield 14, 3) := by decide +kernel
theorem dX1_addPuppet_38 : decode cX1_addPuppet 38 = .ok (.aload_n 0, 1) := by decide +kernel
theorem dX1_addPuppet_39 : decode cX1_addPuppet 39 = .ok (.getfield 63, 3) := by decide +kernel
theorem dX1_addPuppet_42 : decode cX1_addPuppet 42 = .ok (.iload_n 1, 1) := by decide +kernel
theorem dX1_addPuppet_43 : decode cX1_addPuppet 43 = .ok (.invokevirtual 81, 3) := by decide +kernel
theorem dX1_addPuppet_46 : decode cX1_addPuppet 46 = .ok (.aload_n 0, 1) := by decide +kernel
theorem dX1_addPuppet_47 : decode cX1_addPuppet 47 = .ok (.getfield 20, 3) := by decide +kernel
theorem dX1_addPuppet_50 : decode cX1_addPuppet 50 = .ok (.aload_n 0, 1) := by decide +kernel
theorem dX1_addPuppet_51 : decode cX1_addPuppet 51 = .ok (.getfield 63, 3) := by decide +kernel
theorem dX1_addPuppet_54 : decode cX1_addPuppet 54 = .ok (.iload_n 2, 1) := by decide +kernel
theorem dX1_addPuppet_55 : decode cX1_addPuppet 55 = .ok (.invokevirtual 81, 3) := by decide +kernel
theorem dX1_addPuppet_58 : decode cX1_addPuppet 58 = .ok (.aload_n 0, 1) := by decide +kernel
theorem dX1_addPuppet_59 : decode cX1_addPuppet 59 = .ok (.getfield 23, 3) := by decide +kernel
theorem dX1_addPuppet_62 : decode cX1_addPuppet 62 = .ok (.aload_n 0, 1) := by decide +kernel
theorem dX1_addPuppet_63 : decode cX1_addPuppet 63 = .ok (.getfield 63, 3) := by decide +kernel
theorem dX1_addPuppet_66 : decode cX1_addPuppet 66 = .ok (.iconst (-1), 1) := by decide +kernel
theorem dX1_addPuppet_67 : decode cX1_addPuppet 67 = .ok (.invokevirtual 81, 3) := by decide +kernel
theorem dX1_addPuppet_70 : decode cX1_addPuppet 70 = .ok (.aload_n 0, 1) := by decide +kernel
theorem dX1_addPuppet_71 : decode cX1_addPuppet 71 = .ok (.dup, 1) := by decide +kernel
theorem dX1_addPuppet_72 : decode cX1_addPuppet 72 = .ok (.getfield 63, 3) := by decide +kernel
theorem dX1_addPuppet_75 : decode cX1_addPuppet 75 = .ok (.iconst 1, 1) := by decide +kernel
theorem dX1_addPuppet_76 : decode cX1_addPuppet 76 = .ok (.iadd, 1) := by decide +kernel
theorem dX1_addPuppet_77 : decode cX1_addPuppet 77 = .ok (.putfield 63, 3) := by decide +kernel
theorem dX1_addPuppet_80 : decode cX1_addPuppet 80 = .ok (.aload_n 0, 1) := by decide +kernel
theorem dX1_addPuppet_81 : decode cX1_addPuppet 81 = .ok (.invokevirtual 85, 3) := by decide +kernel
theorem dX1_addPuppet_84 : decode cX1_addPuppet 84 = .ok (.aload_n 0, 1) := by decide +kernel
theorem dX1_addPuppet_85 : decode cX1_addPuppet 85 = .ok (.invokevirtual 88, 3) := by decide +kernel
theorem dX1_addPuppet_88 : decode cX1_addPuppet 88 = .ok (.aload_n 0, 1) := by decide +kernel
theorem dX1_addPuppet_89 : decode cX1_addPuppet 89 = .ok (.getfield 63, 3) := by decide +kernel
theorem dX1_addPuppet_92 : decode cX1_addPuppet 92 = .ok (.iconst 1, 1) := by decide +kernel
theorem dX1_addPuppet_93 : decode cX1_addPuppet 93 = .ok (.isub, 1) := by decide +kernel
theorem dX1_addPuppet_94 : decode cX1_addPuppet 94 = .ok (.ireturn, 1) := by decide +kernel
theorem dX1_addString_0 : decode cX1_addString 0 = .ok (.aload_n 0, 1) := by decide +kernel
theorem dX1_addString_1 : decode cX1_addString 1 = .ok (.iload_n 1, 1) := by decide +kernel
theorem dX1_addString_2 : decode cX1_addString 2 = .ok (.iload_n 2, 1) := by decide +kernel
theorem dX1_addString_3 : decode cX1_addString 3 = .ok (.invokevirtual 91, 3) := by decide +kernel
theorem dX1_addString_6 : decode cX1_addString 6 = .ok (.ifCond .eq 13, 3) := by decide +kernel
theorem dX1_addString_9 : decode cX1_addString 9 = .ok (.iload 4, 2) := by decide +kernel
theorem dX1_addString_11 : decode cX1_addString 11 = .ok (.iconst 0, 1) := by decide +kernel
theorem dX1_addString_12 : decode cX1_addString 12 = .ok (.iconst 5, 1) := by decide +kernel
theorem dX1_addString_13 : decode cX1_addString 13 = .ok (.invokestatic 75, 3) := by decide +kernel
theorem dX1_addString_16 : decode cX1_addString 16 = .ok (.ifCond .ne 6, 3) := by decide +kernel
theorem dX1_addString_19 : decode cX1_addString 19 = .ok (.ldc 79, 2) := by decide +kernel
theorem dX1_addString_21 : decode cX1_addString 21 = .ok (.ireturn, 1) := by decide +kernel
theorem dX1_addString_22 : decode cX1_addString 22 = .ok (.aload_n 0, 1) := by decide +kernel
theorem dX1_addString_23 : decode cX1_addString 23 = .ok (.iload_n 1, 1) := by decide +kernel
theorem dX1_addString_24 : decode cX1_addString 24 = .ok (.iload_n 2, 1) := by decide +kernel
theorem dX1_addString_25 : decode cX1_addString 25 = .ok (.iload_n 3, 1) := by decide +kernel
theorem dX1_addString_26 : decode cX1_addString 26 = .ok (.invokevirtual 95, 3) := by decide +kernel
theorem dX1_addString_29 : decode cX1_addString 29 = .ok (.ifCond .eq 6, 3) := by decide +kernel
theorem dX1_addString_32 : decode cX1_addString 32 = .ok (.ldc 99, 2) := by decide +kernel
theorem dX1_addString_34 : decode cX1_addString 34 = .ok (.ireturn, 1) := by decide +kernel
theorem dX1_addString_35 : decode cX1_addString 35 = .ok (.aload_n 0, 1) := by decide +kernel
theorem dX1_addString_36 : decode cX1_addString 36 = .ok (.getfield 38, 3) := by decide +kernel
theorem dX1_addString_39 : decode cX1_addString 39 = .ok (.getfield 100, 3) := by decide +kernel
theorem dX1_addString_42 : decode cX1_addString 42 = .ok (.bipush 20, 2) := by decide +kernel
theorem dX1_addString_44 : decode cX1_addString 44 = .ok (.if_icmp .lt 6, 3) := by decide +kernel
theorem dX1_addString_47 : decode cX1_addString 47 = .ok (.ldc 80, 2) := by decide +kernel
theorem dX1_addString_49 : decode cX1_addString 49 = .ok (.ireturn, 1) := by decide +kernel
theorem dX1_addString_50 : decode cX1_addString 50 = .ok (.aload_n 0, 1) := by decide +kernel
theorem dX1_addString_51 : decode cX1_addString 51 = .ok (.getfield 38, 3) := by decide +kernel
theorem dX1_addString_54 : decode cX1_addString 54 = .ok (.iload_n 1, 1) := by decide +kernel
theorem dX1_addString_55 : decode cX1_addString 55 = .ok (.iload_n 2, 1) := by decide +kernel
theorem dX1_addString_56 : decode cX1_addString 56 = .ok (.iload_n 3, 1) := by decide +kernel
theorem dX1_addString_57 : decode cX1_addString 57 = .ok (.iload 4, 2) := by decide +kernel
theorem dX1_addString_59 : decode cX1_addString 59 = .ok (.invokevirtual 103, 3) := by decide +kernel
theorem dX1_addString_62 : decode cX1_addString 62 = .ok (.istore 5, 2) := by decide +kernel
theorem dX1_addString_64 : decode cX1_addString 64 = .ok (.aload_n 0, 1) := by decide +kernel
theorem dX1_addString_65 : decode cX1_addString 65 = .ok (.invokevirtual 85, 3) := by decide +kernel
theorem dX1_addString_68 : decode cX1_addString 68 = .ok (.aload_n 0, 1) := by decide +kernel
theorem dX1_addString_69 : decode cX1_addString 69 = .ok (.invokevirtual 88, 3) := by decide +kernel
theorem dX1_addString_72 : decode cX1_addString 72 = .ok (.iload 5, 2) := by decide +kernel
theorem dX1_addString_74 : decode cX1_addString 74 = .ok (.ireturn, 1) := by decide +kernel
theorem dX1_cutString_0 : decode cX1_cutString 0 = .ok (.aload_n 0, 1) := by decide +kernel
theorem dX1_cutString_1 : decode cX1_cutString 1 = .ok (.getfield 38, 3) := by decide +kernel
theorem dX1_cutString_4 : decode cX1_cutString 4 = .ok (.iload_n 1, 1) := by decide +kernel
theorem dX1_cutString_5 : decode cX1_cutString 5 = .ok (.invokevirtual 107, 3) := by decide +kernel
theorem dX1_cutString_8 : decode cX1_cutString 8 = .ok (.ifCond .ne 6, 3) := by decide +kernel
theorem dX1_cutString_11 : decode cX1_cutString 11 = .ok (.ldc 79, 2) := by decide +kernel
theorem dX1_cutString_13 : decode cX1_cutString 13 = .ok (.ireturn, 1) := by decide +kernel
theorem dX1_cutString_14 : decode cX1_cutString 14 = .ok (.aload_n 0, 1) := by decide +kernel
theorem dX1_cutString_15 : decode cX1_cutString 15 = .ok (.getfield 38, 3) := by decide +kernel
theorem dX1_cutString_18 : decode cX1_cutString 18 = .ok (.iload_n 1, 1) := by decide +kernel
theorem dX1_cutString_19 : decode cX1_cutString 19 = .ok (.invokevirtual 111, 3) := by decide +kernel
theorem dX1_cutString_22 : decode cX1_cutString 22 = .ok (.aload_n 0, 1) := by decide +kernel
theorem dX1_cutString_23 : decode cX1_cutString 23 = .ok (.invokevirtual 85, 3) := by decide +kernel
theorem dX1_cutString_26 : decode cX1_cutString 26 = .ok (.aload_n 0, 1) := by decide +kernel
theorem dX1_cutString_27 : decode cX1_cutString 27 = .ok (.invokevirtual 88, 3) := by decide +kernel
theorem dX1_cutString_30 : decode cX1_cutString 30 = .ok (.aload_n 0, 1) := by decide +kernel
theorem dX1_cutString_31 : decode cX1_cutString 31 = .ok (.getfield 38, 3) := by decide +kernel
theorem dX1_cutString_34 : decode cX1_cutString 34 = .ok (.getfield 100, 3) := by decide +kernel
theorem dX1_cutString_37 : decode cX1_cutString 37 = .ok (.ireturn, 1) := by decide +kernel
theorem dX1_cutStringsOf_0 : decode cX1_cutStringsOf 0 = .ok (.iload_n 1, 1) := by decide +kernel
theorem dX1_cutStringsOf_1 : decode cX1_cutStringsOf 1 = .ok (.iconst 0, 1) := by decide +kernel
theorem dX1_cutStringsOf_2 : decode cX1_cutStringsOf 2 = .ok (.iconst 5, 1) := by decide +kernel
theorem dX1_cutStringsOf_3 : decode cX1_cutStringsOf 3 = .ok (.invokestatic 75, 3) := by decide +kernel
theorem dX1_cutStringsOf_6 : decode cX1_cutStringsOf 6 = .ok (.ifCond .ne 6, 3) := by decide +kernel
theorem dX1_cutStringsOf_9 : decode cX1_cutStringsOf 9 = .ok (.ldc 79, 2) := by decide +kernel
theorem dX1_cutStringsOf_11 : decode cX1_cutStringsOf 11 = .ok (.ireturn, 1) := by decide +kernel
theorem dX1_cutStringsOf_12 : decode cX1_cutStringsOf 12 = .ok (.aload_n 0, 1) := by decide +kernel
theorem dX1_cutStringsOf_13 : decode cX1_cutStringsOf 13 = .ok (.getfield 38, 3) := by decide +kernel
theorem dX1_cutStringsOf_16 : decode cX1_cutStringsOf 16 = .ok (.iload_n 1, 1) := by decide +kernel
theorem dX1_cutStringsOf_17 : decode cX1_cutStringsOf 17 = .ok (.invokevirtual 114, 3) := by decide +kernel
theorem dX1_cutStringsOf_20 : decode cX1_cutStringsOf 20 = .ok (.istore_n 2, 1) := by decide +kernel
theorem dX1_cutStringsOf_21 : decode cX1_cutStringsOf 21 = .ok (.iload_n 2, 1) := by decide +kernel
theorem dX1_cutStringsOf_22 : decode cX1_cutStringsOf 22 = .ok (.ifCond .ne 6, 3) := by decide +kernel
theorem dX1_cutStringsOf_25 : decode cX1_cutStringsOf 25 = .ok (.ldc 99, 2) := by decide +kernel
theorem dX1_cutStringsOf_27 : decode cX1_cutStringsOf 27 = .ok (.ireturn, 1) := by decide +kernel
theorem dX1_cutStringsOf_28 : decode cX1_cutStringsOf 28 = .ok (.aload_n 0, 1) := by decide +kernel
theorem dX1_cutStringsOf_29 : decode cX1_cutStringsOf 29 = .ok (.invokevirtual 85, 3) := by decide +kernel
theorem dX1_cutStringsOf_32 : decode cX1_cutStringsOf 32 = .ok (.aload_n 0, 1) := by decide +kernel
theorem dX1_cutStringsOf_33 : decode cX1_cutStringsOf 33 = .ok (.invokevirtual 88, 3) := by decide +kernel
theorem dX1_cutStringsOf_36 : decode cX1_cutStringsOf 36 = .ok (.iload_n 2, 1) := by decide +kernel
theorem dX1_cutStringsOf_37 : decode cX1_cutStringsOf 37 = .ok (.ireturn, 1) := by decide +kernel
theorem dX1_pullTo_0 : decode cX1_pullTo 0 = .ok (.aload_n 0, 1) := by decide +kernel
theorem dX1_pullTo_1 : decode cX1_pullTo 1 = .ok (.iload_n 1, 1) := by decide +kernel
theorem dX1_pullTo_2 : decode cX1_pullTo 2 = .ok (.invokevirtual 118, 3) := by decide +kernel
theorem dX1_pullTo_5 : decode cX1_pullTo 5 = .ok (.ifCond .eq 12, 3) := by decide +kernel
theorem dX1_pullTo_8 : decode cX1_pullTo 8 = .ok (.iload_n 2, 1) := by decide +kernel
theorem dX1_pullTo_9 : decode cX1_pullTo 9 = .ok (.iconst 0, 1) := by decide +kernel
theorem dX1_pullTo_10 : decode cX1_pullTo 10 = .ok (.iconst 1, 1) := by decide +kernel
theorem dX1_pullTo_11 : decode cX1_pullTo 11 = .ok (.invokestatic 75, 3) := by decide +kernel
theorem dX1_pullTo_14 : decode cX1_pullTo 14 = .ok (.ifCond .ne 6, 3) := by decide +kernel
theorem dX1_pullTo_17 : decode cX1_pullTo 17 = .ok (.ldc 79, 2) := by decide +kernel
theorem dX1_pullTo_19 : decode cX1_pullTo 19 = .ok (.ireturn, 1) := by decide +kernel
theorem dX1_pullTo_20 : decode cX1_pullTo 20 = .ok (.aload_n 0, 1) := by decide +kernel
theorem dX1_pullTo_21 : decode cX1_pullTo 21 = .ok (.iload_n 1, 1) := by decide +kernel
theorem dX1_pullTo_22 : decode cX1_pullTo 22 = .ok (.iload_n 2, 1) := by decide +kernel
theorem dX1_pullTo_23 : decode cX1_pullTo 23 = .ok (.invokevirtual 121, 3) := by decide +kernel
theorem dX1_pullTo_26 : decode cX1_pullTo 26 = .ok (.ifCond .eq 6, 3) := by decide +kernel
theorem dX1_pullTo_29 : decode cX1_pullTo 29 = .ok (.ldc 99, 2) := by decide +kernel
theorem dX1_pullTo_31 : decode cX1_pullTo 31 = .ok (.ireturn, 1) := by decide +kernel
theorem dX1_pullTo_32 : decode cX1_pullTo 32 = .ok (.aload_n 0, 1) := by decide +kernel
theorem dX1_pullTo_33 : decode cX1_pullTo 33 = .ok (.getfield 23, 3) := by decide +kernel
theorem dX1_pullTo_36 : decode cX1_pullTo 36 = .ok (.iload_n 1, 1) := by decide +kernel
theorem dX1_pullTo_37 : decode cX1_pullTo 37 = .ok (.iload_n 2, 1) := by decide +kernel
theorem dX1_pullTo_38 : decode cX1_pullTo 38 = .ok (.invokevirtual 81, 3) := by decide +kernel
theorem dX1_pullTo_41 : decode cX1_pullTo 41 = .ok (.aload_n 0, 1) := by decide +kernel
theorem dX1_pullTo_42 : decode cX1_pullTo 42 = .ok (.invokevirtual 88, 3) := by decide +kernel
theorem dX1_pullTo_45 : decode cX1_pullTo 45 = .ok (.aload_n 0, 1) := by decide +kernel
theorem dX1_pullTo_46 : decode cX1_pullTo 46 = .ok (.getfield 72, 3) := by decide +kernel
theorem dX1_pullTo_49 : decode cX1_pullTo 49 = .ok (.ireturn, 1) := by decide +kernel
theorem dX1_letGo_0 : decode cX1_letGo 0 = .ok (.aload_n 0, 1) := by decide +kernel
theorem dX1_letGo_1 : decode cX1_letGo 1 = .ok (.iload_n 1, 1) := by decide +kernel
theorem dX1_letGo_2 : decode cX1_letGo 2 = .ok (.invokevirtual 118, 3) := by decide +kernel
theorem dX1_letGo_5 : decode cX1_letGo 5 = .ok (.ifCond .ne 6, 3) := by decide +kernel
theorem dX1_letGo_8 : decode cX1_letGo 8 = .ok (.ldc 79, 2) := by decide +kernel
theorem dX1_letGo_10 : decode cX1_letGo 10 = .ok (.ireturn, 1) := by decide +kernel
theorem dX1_letGo_11 : decode cX1_letGo 11 = .ok (.aload_n 0, 1) := by decide +kernel
theorem dX1_letGo_12 : decode cX1_letGo 12 = .ok (.iload_n 1, 1) := by decide +kernel
theorem dX1_letGo_13 : decode cX1_letGo 13 = .ok (.invokevirtual 125, 3) := by decide +kernel
theorem dX1_letGo_16 : decode cX1_letGo 16 = .ok (.ifCond .ne 6, 3) := by decide +kernel
theorem dX1_letGo_19 : decode cX1_letGo 19 = .ok (.ldc 99, 2) := by decide +kernel
theorem dX1_letGo_21 : decode cX1_letGo 21 = .ok (.ireturn, 1) := by decide +kernel
theorem dX1_letGo_22 : decode cX1_letGo 22 = .ok (.aload_n 0, 1) := by decide +kernel
theorem dX1_letGo_23 : decode cX1_letGo 23 = .ok (.getfield 23, 3) := by decide +kernel
theorem dX1_letGo_26 : decode cX1_letGo 26 = .ok (.iload_n 1, 1) := by decide +kernel
theorem dX1_letGo_27 : decode cX1_letGo 27 = .ok (.invokevirtual 128, 3) := by decide +kernel
theorem dX1_letGo_30 : decode cX1_letGo 30 = .ok (.istore_n 2, 1) := by decide +kernel
theorem dX1_letGo_31 : decode cX1_letGo 31 = .ok (.aload_n 0, 1) := by decide +kernel
theorem dX1_letGo_32 : decode cX1_letGo 32 = .ok (.getfield 23, 3) := by decide +kernel
theorem dX1_letGo_35 : decode cX1_letGo 35 = .ok (.iload_n 1, 1) := by decide +kernel
theorem dX1_letGo_36 : decode cX1_letGo 36 = .ok (.iconst (-1), 1) := by decide +kernel
theorem dX1_letGo_37 : decode cX1_letGo 37 = .ok (.invokevirtual 81, 3) := by decide +kernel
theorem dX1_letGo_40 : decode cX1_letGo 40 = .ok (.aload_n 0, 1) := by decide +kernel
theorem dX1_letGo_41 : decode cX1_letGo 41 = .ok (.invokevirtual 88, 3) := by decide +kernel
theorem dX1_letGo_44 : decode cX1_letGo 44 = .ok (.iload_n 2, 1) := by decide +kernel
theorem dX1_letGo_45 : decode cX1_letGo 45 = .ok (.ireturn, 1) := by decide +kernel
theorem dX1_holdSession_0 : decode cX1_holdSession 0 = .ok (.aload_n 0, 1) := by decide +kernel
theorem dX1_holdSession_1 : decode cX1_holdSession 1 = .ok (.getfield 63, 3) := by decide +kernel
theorem dX1_holdSession_4 : decode cX1_holdSession 4 = .ok (.ifCond .gt 6, 3) := by decide +kernel
theorem dX1_holdSession_7 : decode cX1_holdSession 7 = .ok (.ldc 99, 2) := by decide +kernel
theorem dX1_holdSession_9 : decode cX1_holdSession 9 = .ok (.ireturn, 1) := by decide +kernel
theorem dX1_holdSession_10 : decode cX1_holdSession 10 = .ok (.aload_n 0, 1) := by decide +kernel
theorem dX1_holdSession_11 : decode cX1_holdSession 11 = .ok (.getfield 45, 3) := by decide +kernel
theorem dX1_holdSession_14 : decode cX1_holdSession 14 = .ok (.getfield 131, 3) := by decide +kernel
theorem dX1_holdSession_17 : decode cX1_holdSession 17 = .ok (.sipush 999, 3) := by decide +kernel
theorem dX1_holdSession_20 : decode cX1_holdSession 20 = .ok (.if_icmp .lt 6, 3) := by decide +kernel
theorem dX1_holdSession_23 : decode cX1_holdSession 23 = .ok (.ldc 80, 2) := by decide +kernel
theorem dX1_holdSession_25 : decode cX1_holdSession 25 = .ok (.ireturn, 1) := by decide +kernel
theorem dX1_holdSession_26 : decode cX1_holdSession 26 = .ok (.aload_n 0, 1) := by decide +kernel
theorem dX1_holdSession_27 : decode cX1_holdSession 27 = .ok (.invokevirtual 134, 3) := by decide +kernel
theorem dX1_holdSession_30 : decode cX1_holdSession 30 = .ok (.istore_n 1, 1) := by decide +kernel
theorem dX1_holdSession_31 : decode cX1_holdSession 31 = .ok (.aload_n 0, 1) := by decide +kernel
theorem dX1_holdSession_32 : decode cX1_holdSession 32 = .ok (.getfield 45, 3) := by decide +kernel
theorem dX1_holdSession_35 : decode cX1_holdSession 35 = .ok (.aload_n 0, 1) := by decide +kernel
theorem dX1_holdSession_36 : decode cX1_holdSession 36 = .ok (.getfield 72, 3) := by decide +kernel
theorem dX1_holdSession_39 : decode cX1_holdSession 39 = .ok (.aload_n 0, 1) := by decide +kernel
theorem dX1_holdSession_40 : decode cX1_holdSession 40 = .ok (.getfield 69, 3) := by decide +kernel
theorem dX1_holdSession_43 : decode cX1_holdSession 43 = .ok (.aload_n 0, 1) := by decide +kernel
theorem dX1_holdSession_44 : decode cX1_holdSession 44 = .ok (.getfield 72, 3) := by decide +kernel
theorem dX1_holdSession_47 : decode cX1_holdSession 47 = .ok (.isub, 1) := by decide +kernel
theorem dX1_holdSession_48 : decode cX1_holdSession 48 = .ok (.iload_n 1, 1) := by decide +kernel
theorem dX1_holdSession_49 : decode cX1_holdSession 49 = .ok (.aload_n 0, 1) := by decide +kernel
theorem dX1_holdSession_50 : decode cX1_holdSession 50 = .ok (.getfield 66, 3) := by decide +kernel
theorem dX1_holdSession_53 : decode cX1_holdSession 53 = .ok (.invokevirtual 138, 3) := by decide +kernel
theorem dX1_holdSession_56 : decode cX1_holdSession 56 = .ok (.aload_n 0, 1) := by decide +kernel
theorem dX1_holdSession_57 : decode cX1_holdSession 57 = .ok (.aload_n 0, 1) := by decide +kernel
theorem dX1_holdSession_58 : decode cX1_holdSession 58 = .ok (.getfield 66, 3) := by decide +kernel
theorem dX1_holdSession_61 : decode cX1_holdSession 61 = .ok (.iconst 1, 1) := by decide +kernel
theorem dX1_holdSession_62 : decode cX1_holdSession 62 = .ok (.iadd, 1) := by decide +kernel
theorem dX1_holdSession_63 : decode cX1_holdSession 63 = .ok (.aload_n 0, 1) := by decide +kernel
theorem dX1_holdSession_64 : decode cX1_holdSession 64 = .ok (.getfield 63, 3) := by decide +kernel
theorem dX1_holdSession_67 : decode cX1_holdSession 67 = .ok (.if_icmp .ge 12, 3) := by decide +kernel
theorem dX1_holdSession_70 : decode cX1_holdSession 70 = .ok (.aload_n 0, 1) := by decide +kernel
theorem dX1_holdSession_71 : decode cX1_holdSession 71 = .ok (.getfield 66, 3) := by decide +kernel
theorem dX1_holdSession_74 : decode cX1_holdSession 74 = .ok (.iconst 1, 1) := by decide +kernel
theorem dX1_holdSession_75 : decode cX1_holdSession 75 = .ok (.iadd, 1) := by decide +kernel
theorem dX1_holdSession_76 : decode cX1_holdSession 76 = .ok (.goto 4, 3) := by decide +kernel
theorem dX1_holdSession_79 : decode cX1_holdSession 79 = .ok (.iconst 0, 1) := by decide +kernel
theorem dX1_holdSession_80 : decode cX1_holdSession 80 = .ok (.putfield 66, 3) := by decide +kernel
theorem dX1_holdSession_83 : decode cX1_holdSession 83 = .ok (.iconst 0, 1) := by decide +kernel
theorem dX1_holdSession_84 : decode cX1_holdSession 84 = .ok (.istore_n 2, 1) := by decide +kernel
theorem dX1_holdSession_85 : decode cX1_holdSession 85 = .ok (.iload_n 2, 1) := by decide +kernel
theorem dX1_holdSession_86 : decode cX1_holdSession 86 = .ok (.aload_n 0, 1) := by decide +kernel
theorem dX1_holdSession_87 : decode cX1_holdSession 87 = .ok (.getfield 63, 3) := by decide +kernel
theorem dX1_holdSession_90 : decode cX1_holdSession 90 = .ok (.if_icmp .ge 18, 3) := by decide +kernel
theorem dX1_holdSession_93 : decode cX1_holdSession 93 = .ok (.aload_n 0, 1) := by decide +kernel
theorem dX1_holdSession_94 : decode cX1_holdSession 94 = .ok (.getfield 23, 3) := by decide +kernel
theorem dX1_holdSession_97 : decode cX1_holdSession 97 = .ok (.iload_n 2, 1) := by decide +kernel
theorem dX1_holdSession_98 : decode cX1_holdSession 98 = .ok (.iconst (-1), 1) := by decide +kernel
theorem dX1_holdSession_99 : decode cX1_holdSession 99 = .ok (.invokevirtual 81, 3) := by decide +kernel
theorem dX1_holdSession_102 : decode cX1_holdSession 102 = .ok (.iinc 2 1, 3) := by decide +kernel
theorem dX1_holdSession_105 : decode cX1_holdSession 105 = .ok (.goto (-20), 3) := by decide +kernel
theorem dX1_holdSession_108 : decode cX1_holdSession 108 = .ok (.aload_n 0, 1) := by decide +kernel
theorem dX1_holdSession_109 : decode cX1_holdSession 109 = .ok (.invokevirtual 88, 3) := by decide +kernel
theorem dX1_holdSession_112 : decode cX1_holdSession 112 = .ok (.iload_n 1, 1) := by decide +kernel
theorem dX1_holdSession_113 : decode cX1_holdSession 113 = .ok (.ireturn, 1) := by decide +kernel
theorem dX1_bindPulls_0 : decode cX1_bindPulls 0 = .ok (.iload_n 1, 1) := by decide +kernel
theorem dX1_bindPulls_1 : decode cX1_bindPulls 1 = .ok (.iconst 0, 1) := by decide +kernel
theorem dX1_bindPulls_2 : decode cX1_bindPulls 2 = .ok (.bipush 12, 2) := by decide +kernel
theorem dX1_bindPulls_4 : decode cX1_bindPulls 4 = .ok (.invokestatic 75, 3) := by decide +kernel
theorem dX1_bindPulls_7 : decode cX1_bindPulls 7 = .ok (.ifCond .ne 6, 3) := by decide +kernel
theorem dX1_bindPulls_10 : decode cX1_bindPulls 10 = .ok (.ldc 79, 2) := by decide +kernel
theorem dX1_bindPulls_12 : decode cX1_bindPulls 12 = .ok (.ireturn, 1) := by decide +kernel
theorem dX1_bindPulls_13 : decode cX1_bindPulls 13 = .ok (.aload_n 0, 1) := by decide +kernel
theorem dX1_bindPulls_14 : decode cX1_bindPulls 14 = .ok (.getfield 49, 3) := by decide +kernel
theorem dX1_bindPulls_17 : decode cX1_bindPulls 17 = .ok (.istore_n 2, 1) := by decide +kernel
theorem dX1_bindPulls_18 : decode cX1_bindPulls 18 = .ok (.aload_n 0, 1) := by decide +kernel
theorem dX1_bindPulls_19 : decode cX1_bindPulls 19 = .ok (.iload_n 1, 1) := by decide +kernel
theorem dX1_bindPulls_20 : decode cX1_bindPulls 20 = .ok (.putfield 49, 3) := by decide +kernel
theorem dX1_bindPulls_23 : decode cX1_bindPulls 23 = .ok (.iload_n 2, 1) := by decide +kernel
theorem dX1_bindPulls_24 : decode cX1_bindPulls 24 = .ok (.ireturn, 1) := by decide +kernel
theorem dX1_tellGroups_0 : decode cX1_tellGroups 0 = .ok (.iconst 0, 1) := by decide +kernel
theorem dX1_tellGroups_1 : decode cX1_tellGroups 1 = .ok (.istore_n 1, 1) := by decide +kernel
theorem dX1_tellGroups_2 : decode cX1_tellGroups 2 = .ok (.iload_n 1, 1) := by decide +kernel
theorem dX1_tellGroups_3 : decode cX1_tellGroups 3 = .ok (.aload_n 0, 1) := by decide +kernel
theorem dX1_tellGroups_4 : decode cX1_tellGroups 4 = .ok (.getfield 63, 3) := by decide +kernel
theorem dX1_tellGroups_7 : decode cX1_tellGroups 7 = .ok (.if_icmp .ge 27, 3) := by decide +kernel
theorem dX1_tellGroups_10 : decode cX1_tellGroups 10 = .ok (.aload_n 0, 1) := by decide +kernel
theorem dX1_tellGroups_11 : decode cX1_tellGroups 11 = .ok (.getfield 26, 3) := by decide +kernel
theorem dX1_tellGroups_14 : decode cX1_tellGroups 14 = .ok (.iload_n 1, 1) := by decide +kernel
theorem dX1_tellGroups_15 : decode cX1_tellGroups 15 = .ok (.iload_n 1, 1) := by decide +kernel
theorem dX1_tellGroups_16 : decode cX1_tellGroups 16 = .ok (.invokevirtual 81, 3) := by decide +kernel
theorem dX1_tellGroups_19 : decode cX1_tellGroups 19 = .ok (.aload_n 0, 1) := by decide +kernel
theorem dX1_tellGroups_20 : decode cX1_tellGroups 20 = .ok (.getfield 29, 3) := by decide +kernel
theorem dX1_tellGroups_23 : decode cX1_tellGroups 23 = .ok (.iload_n 1, 1) := by decide +kernel
theorem dX1_tellGroups_24 : decode cX1_tellGroups 24 = .ok (.iconst 0, 1) := by decide +kernel
theorem dX1_tellGroups_25 : decode cX1_tellGroups 25 = .ok (.invokevirtual 81, 3) := by decide +kernel
theorem dX1_tellGroups_28 : decode cX1_tellGroups 28 = .ok (.iinc 1 1, 3) := by decide +kernel
theorem dX1_tellGroups_31 : decode cX1_tellGroups 31 = .ok (.goto (-29), 3) := by decide +kernel
theorem dX1_tellGroups_34 : decode cX1_tellGroups 34 = .ok (.iconst 0, 1) := by decide +kernel
theorem dX1_tellGroups_35 : decode cX1_tellGroups 35 = .ok (.istore_n 1, 1) := by decide +kernel
theorem dX1_tellGroups_36 : decode cX1_tellGroups 36 = .ok (.iload_n 1, 1) := by decide +kernel
theorem dX1_tellGroups_37 : decode cX1_tellGroups 37 = .ok (.aload_n 0, 1) := by decide +kernel
theorem dX1_tellGroups_38 : decode cX1_tellGroups 38 = .ok (.getfield 38, 3) := by decide +kernel
theorem dX1_tellGroups_41 : decode cX1_tellGroups 41 = .ok (.getfield 100, 3) := by decide +kernel
theorem dX1_tellGroups_44 : decode cX1_tellGroups 44 = .ok (.if_icmp .ge 14, 3) := by decide +kernel
theorem dX1_tellGroups_47 : decode cX1_tellGroups 47 = .ok (.aload_n 0, 1) := by decide +kernel
theorem dX1_tellGroups_48 : decode cX1_tellGroups 48 = .ok (.iload_n 1, 1) := by decide +kernel
theorem dX1_tellGroups_49 : decode cX1_tellGroups 49 = .ok (.invokevirtual 142, 3) := by decide +kernel
theorem dX1_tellGroups_52 : decode cX1_tellGroups 52 = .ok (.iinc 1 1, 3) := by decide +kernel
theorem dX1_tellGroups_55 : decode cX1_tellGroups 55 = .ok (.goto (-19), 3) := by decide +kernel
theorem dX1_tellGroups_58 : decode cX1_tellGroups 58 = .ok (.return_, 1) := by decide +kernel
theorem dX1_joinBy_0 : decode cX1_joinBy 0 = .ok (.aload_n 0, 1) := by decide +kernel
theorem dX1_joinBy_1 : decode cX1_joinBy 1 = .ok (.getfield 38, 3) := by decide +kernel
theorem dX1_joinBy_4 : decode cX1_joinBy 4 = .ok (.getfield 145, 3) := by decide +kernel
theorem dX1_joinBy_7 : decode cX1_joinBy 7 = .ok (.iload_n 1, 1) := by decide +kernel
theorem dX1_joinBy_8 : decode cX1_joinBy 8 = .ok (.invokevirtual 128, 3) := by decide +kernel
theorem dX1_joinBy_11 : decode cX1_joinBy 11 = .ok (.istore_n 2, 1) := by decide +kernel
theorem dX1_joinBy_12 : decode cX1_joinBy 12 = .ok (.aload_n 0, 1) := by decide +kernel
theorem dX1_joinBy_13 : decode cX1_joinBy 13 = .ok (.getfield 38, 3) := by decide +kernel
theorem dX1_joinBy_16 : decode cX1_joinBy 16 = .ok (.getfield 148, 3) := by decide +kernel
theorem dX1_joinBy_19 : decode cX1_joinBy 19 = .ok (.iload_n 1, 1) := by decide +kernel
theorem dX1_joinBy_20 : decode cX1_joinBy 20 = .ok (.invokevirtual 128, 3) := by decide +kernel
theorem dX1_joinBy_23 : decode cX1_joinBy 23 = .ok (.istore_n 3, 1) := by decide +kernel
theorem dX1_joinBy_24 : decode cX1_joinBy 24 = .ok (.aload_n 0, 1) := by decide +kernel
theorem dX1_joinBy_25 : decode cX1_joinBy 25 = .ok (.getfield 26, 3) := by decide +kernel
theorem dX1_joinBy_28 : decode cX1_joinBy 28 = .ok (.iload_n 2, 1) := by decide +kernel
theorem dX1_joinBy_29 : decode cX1_joinBy 29 = .ok (.invokevirtual 128, 3) := by decide +kernel
theorem dX1_joinBy_32 : decode cX1_joinBy 32 = .ok (.aload_n 0, 1) := by decide +kernel
theorem dX1_joinBy_33 : decode cX1_joinBy 33 = .ok (.getfield 26, 3) := by decide +kernel
theorem dX1_joinBy_36 : decode cX1_joinBy 36 = .ok (.iload_n 3, 1) := by decide +kernel
theorem dX1_joinBy_37 : decode cX1_joinBy 37 = .ok (.invokevirtual 128, 3) := by decide +kernel
theorem dX1_joinBy_40 : decode cX1_joinBy 40 = .ok (.invokestatic 151, 3) := by decide +kernel
theorem dX1_joinBy_43 : decode cX1_joinBy 43 = .ok (.istore 4, 2) := by decide +kernel
theorem dX1_joinBy_45 : decode cX1_joinBy 45 = .ok (.aload_n 0, 1) := by decide +kernel
theorem dX1_joinBy_46 : decode cX1_joinBy 46 = .ok (.getfield 26, 3) := by decide +kernel
theorem dX1_joinBy_49 : decode cX1_joinBy 49 = .ok (.iload_n 2, 1) := by decide +kernel
theorem dX1_joinBy_50 : decode cX1_joinBy 50 = .ok (.invokevirtual 128, 3) := by decide +kernel
theorem dX1_joinBy_53 : decode cX1_joinBy 53 = .ok (.aload_n 0, 1) := by decide +kernel
theorem dX1_joinBy_54 : decode cX1_joinBy 54 = .ok (.getfield 26, 3) := by decide +kernel
theorem dX1_joinBy_57 : decode cX1_joinBy 57 = .ok (.iload_n 3, 1) := by decide +kernel
theorem dX1_joinBy_58 : decode cX1_joinBy 58 = .ok (.invokevirtual 128, 3) := by decide +kernel
theorem dX1_joinBy_61 : decode cX1_joinBy 61 = .ok (.invokestatic 156, 3) := by decide +kernel
theorem dX1_joinBy_64 : decode cX1_joinBy 64 = .ok (.istore 5, 2) := by decide +kernel
theorem dX1_joinBy_66 : decode cX1_joinBy 66 = .ok (.iload 4, 2) := by decide +kernel
theorem dX1_joinBy_68 : decode cX1_joinBy 68 = .ok (.iload 5, 2) := by decide +kernel
theorem dX1_joinBy_70 : decode cX1_joinBy 70 = .ok (.if_icmp .ne 4, 3) := by decide +kernel
theorem dX1_joinBy_73 : decode cX1_joinBy 73 = .ok (.return_, 1) := by decide +kernel
theorem dX1_joinBy_74 : decode cX1_joinBy 74 = .ok (.aload_n 0, 1) := by decide +kernel
theorem dX1_joinBy_75 : decode cX1_joinBy 75 = .ok (.getfield 29, 3) := by decide +kernel
theorem dX1_joinBy_78 : decode cX1_joinBy 78 = .ok (.iload_n 2, 1) := by decide +kernel
theorem dX1_joinBy_79 : decode cX1_joinBy 79 = .ok (.invokevirtual 128, 3) := by decide +kernel
theorem dX1_joinBy_82 : decode cX1_joinBy 82 = .ok (.aload_n 0, 1) := by decide +kernel
theorem dX1_joinBy_83 : decode cX1_joinBy 83 = .ok (.getfield 29, 3) := by decide +kernel
theorem dX1_joinBy_86 : decode cX1_joinBy 86 = .ok (.iload_n 3, 1) := by decide +kernel
theorem dX1_joinBy_87 : decode cX1_joinBy 87 = .ok (.invokevirtual 128, 3) := by decide +kernel
theorem dX1_joinBy_90 : decode cX1_joinBy 90 = .ok (.ixor, 1) := by decide +kernel
theorem dX1_joinBy_91 : decode cX1_joinBy 91 = .ok (.aload_n 0, 1) := by decide +kernel
theorem dX1_joinBy_92 : decode cX1_joinBy 92 = .ok (.getfield 38, 3) := by decide +kernel
theorem dX1_joinBy_95 : decode cX1_joinBy 95 = .ok (.getfield 159, 3) := by decide +kernel
theorem dX1_joinBy_98 : decode cX1_joinBy 98 = .ok (.iload_n 1, 1) := by decide +kernel
theorem dX1_joinBy_99 : decode cX1_joinBy 99 = .ok (.invokevirtual 128, 3) := by decide +kernel
theorem dX1_joinBy_102 : decode cX1_joinBy 102 = .ok (.ixor, 1) := by decide +kernel
theorem dX1_joinBy_103 : decode cX1_joinBy 103 = .ok (.istore 6, 2) := by decide +kernel
theorem dX1_joinBy_105 : decode cX1_joinBy 105 = .ok (.iconst 0, 1) := by decide +kernel
theorem dX1_joinBy_106 : decode cX1_joinBy 106 = .ok (.istore 7, 2) := by decide +kernel
theorem dX1_joinBy_108 : decode cX1_joinBy 108 = .ok (.iload 7, 2) := by decide +kernel
theorem dX1_joinBy_110 : decode cX1_joinBy 110 = .ok (.aload_n 0, 1) := by decide +kernel
theorem dX1_joinBy_111 : decode cX1_joinBy 111 = .ok (.getfield 63, 3) := by decide +kernel
theorem dX1_joinBy_114 : decode cX1_joinBy 114 = .ok (.if_icmp .ge 55, 3) := by decide +kernel
theorem dX1_joinBy_117 : decode cX1_joinBy 117 = .ok (.aload_n 0, 1) := by decide +kernel
theorem dX1_joinBy_118 : decode cX1_joinBy 118 = .ok (.getfield 26, 3) := by decide +kernel
theorem dX1_joinBy_121 : decode cX1_joinBy 121 = .ok (.iload 7, 2) := by decide +kernel
theorem dX1_joinBy_123 : decode cX1_joinBy 123 = .ok (.invokevirtual 128, 3) := by decide +kernel
theorem dX1_joinBy_126 : decode cX1_joinBy 126 = .ok (.iload 5, 2) := by decide +kernel
theorem dX1_joinBy_128 : decode cX1_joinBy 128 = .ok (.if_icmp .ne 35, 3) := by decide +kernel
theorem dX1_joinBy_131 : decode cX1_joinBy 131 = .ok (.aload_n 0, 1) := by decide +kernel
theorem dX1_joinBy_132 : decode cX1_joinBy 132 = .ok (.getfield 26, 3) := by decide +kernel
theorem dX1_joinBy_135 : decode cX1_joinBy 135 = .ok (.iload 7, 2) := by decide +kernel
theorem dX1_joinBy_137 : decode cX1_joinBy 137 = .ok (.iload 4, 2) := by decide +kernel
theorem dX1_joinBy_139 : decode cX1_joinBy 139 = .ok (.invokevirtual 81, 3) := by decide +kernel
theorem dX1_joinBy_142 : decode cX1_joinBy 142 = .ok (.aload_n 0, 1) := by decide +kernel
theorem dX1_joinBy_143 : decode cX1_joinBy 143 = .ok (.getfield 29, 3) := by decide +kernel
theorem dX1_joinBy_146 : decode cX1_joinBy 146 = .ok (.iload 7, 2) := by decide +kernel
theorem dX1_joinBy_148 : decode cX1_joinBy 148 = .ok (.aload_n 0, 1) := by decide +kernel
theorem dX1_joinBy_149 : decode cX1_joinBy 149 = .ok (.getfield 29, 3) := by decide +kernel
theorem dX1_joinBy_152 : decode cX1_joinBy 152 = .ok (.iload 7, 2) := by decide +kernel
theorem dX1_joinBy_154 : decode cX1_joinBy 154 = .ok (.invokevirtual 128, 3) := by decide +kernel
theorem dX1_joinBy_157 : decode cX1_joinBy 157 = .ok (.iload 6, 2) := by decide +kernel
theorem dX1_joinBy_159 : decode cX1_joinBy 159 = .ok (.ixor, 1) := by decide +kernel
theorem dX1_joinBy_160 : decode cX1_joinBy 160 = .ok (.invokevirtual 81, 3) := by decide +kernel
theorem dX1_joinBy_163 : decode cX1_joinBy 163 = .ok (.iinc 7 1, 3) := by decide +kernel
theorem dX1_joinBy_166 : decode cX1_joinBy 166 = .ok (.goto (-58), 3) := by decide +kernel
theorem dX1_joinBy_169 : decode cX1_joinBy 169 = .ok (.return_, 1) := by decide +kernel
theorem dX1_tellVotes_0 : decode cX1_tellVotes 0 = .ok (.aload_n 0, 1) := by decide +kernel
theorem dX1_tellVotes_1 : decode cX1_tellVotes 1 = .ok (.iconst 0, 1) := by decide +kernel
theorem dX1_tellVotes_2 : decode cX1_tellVotes 2 = .ok (.putfield 69, 3) := by decide +kernel
theorem dX1_tellVotes_5 : decode cX1_tellVotes 5 = .ok (.aload_n 0, 1) := by decide +kernel
theorem dX1_tellVotes_6 : decode cX1_tellVotes 6 = .ok (.iconst 0, 1) := by decide +kernel
theorem dX1_tellVotes_7 : decode cX1_tellVotes 7 = .ok (.putfield 72, 3) := by decide +kernel
theorem dX1_tellVotes_10 : decode cX1_tellVotes 10 = .ok (.iconst 0, 1) := by decide +kernel
theorem dX1_tellVotes_11 : decode cX1_tellVotes 11 = .ok (.istore_n 1, 1) := by decide +kernel
theorem dX1_tellVotes_12 : decode cX1_tellVotes 12 = .ok (.iload_n 1, 1) := by decide +kernel
theorem dX1_tellVotes_13 : decode cX1_tellVotes 13 = .ok (.aload_n 0, 1) := by decide +kernel
theorem dX1_tellVotes_14 : decode cX1_tellVotes 14 = .ok (.getfield 63, 3) := by decide +kernel
theorem dX1_tellVotes_17 : decode cX1_tellVotes 17 = .ok (.if_icmp .ge 105, 3) := by decide +kernel
theorem dX1_tellVotes_20 : decode cX1_tellVotes 20 = .ok (.aload_n 0, 1) := by decide +kernel
theorem dX1_tellVotes_21 : decode cX1_tellVotes 21 = .ok (.iload_n 1, 1) := by decide +kernel
theorem dX1_tellVotes_22 : decode cX1_tellVotes 22 = .ok (.invokevirtual 162, 3) := by decide +kernel
theorem dX1_tellVotes_25 : decode cX1_tellVotes 25 = .ok (.istore_n 2, 1) := by decide +kernel
theorem dX1_tellVotes_26 : decode cX1_tellVotes 26 = .ok (.iload_n 2, 1) := by decide +kernel
theorem dX1_tellVotes_27 : decode cX1_tellVotes 27 = .ok (.iconst (-1), 1) := by decide +kernel
theorem dX1_tellVotes_28 : decode cX1_tellVotes 28 = .ok (.if_icmp .ne 43, 3) := by decide +kernel
theorem dX1_tellVotes_31 : decode cX1_tellVotes 31 = .ok (.aload_n 0, 1) := by decide +kernel
theorem dX1_tellVotes_32 : decode cX1_tellVotes 32 = .ok (.getfield 26, 3) := by decide +kernel
theorem dX1_tellVotes_35 : decode cX1_tellVotes 35 = .ok (.iload_n 1, 1) := by decide +kernel
theorem dX1_tellVotes_36 : decode cX1_tellVotes 36 = .ok (.invokevirtual 128, 3) := by decide +kernel
theorem dX1_tellVotes_39 : decode cX1_tellVotes 39 = .ok (.istore_n 3, 1) := by decide +kernel
theorem dX1_tellVotes_40 : decode cX1_tellVotes 40 = .ok (.iload_n 3, 1) := by decide +kernel
theorem dX1_tellVotes_41 : decode cX1_tellVotes 41 = .ok (.iload_n 1, 1) := by decide +kernel
theorem dX1_tellVotes_42 : decode cX1_tellVotes 42 = .ok (.if_icmp .ne 11, 3) := by decide +kernel
theorem dX1_tellVotes_45 : decode cX1_tellVotes 45 = .ok (.aload_n 0, 1) := by decide +kernel
theorem dX1_tellVotes_46 : decode cX1_tellVotes 46 = .ok (.iload_n 3, 1) := by decide +kernel
theorem dX1_tellVotes_47 : decode cX1_tellVotes 47 = .ok (.invokevirtual 165, 3) := by decide +kernel
theorem dX1_tellVotes_50 : decode cX1_tellVotes 50 = .ok (.goto 20, 3) := by decide +kernel
theorem dX1_tellVotes_53 : decode cX1_tellVotes 53 = .ok (.aload_n 0, 1) := by decide +kernel
theorem dX1_tellVotes_54 : decode cX1_tellVotes 54 = .ok (.getfield 32, 3) := by decide +kernel
theorem dX1_tellVotes_57 : decode cX1_tellVotes 57 = .ok (.iload_n 3, 1) := by decide +kernel
theorem dX1_tellVotes_58 : decode cX1_tellVotes 58 = .ok (.invokevirtual 128, 3) := by decide +kernel
theorem dX1_tellVotes_61 : decode cX1_tellVotes 61 = .ok (.aload_n 0, 1) := by decide +kernel
theorem dX1_tellVotes_62 : decode cX1_tellVotes 62 = .ok (.getfield 29, 3) := by decide +kernel
theorem dX1_tellVotes_65 : decode cX1_tellVotes 65 = .ok (.iload_n 1, 1) := by decide +kernel
theorem dX1_tellVotes_66 : decode cX1_tellVotes 66 = .ok (.invokevirtual 128, 3) := by decide +kernel
theorem dX1_tellVotes_69 : decode cX1_tellVotes 69 = .ok (.ixor, 1) := by decide +kernel
theorem dX1_tellVotes_70 : decode cX1_tellVotes 70 = .ok (.istore_n 2, 1) := by decide +kernel
theorem dX1_tellVotes_71 : decode cX1_tellVotes 71 = .ok (.aload_n 0, 1) := by decide +kernel
theorem dX1_tellVotes_72 : decode cX1_tellVotes 72 = .ok (.getfield 32, 3) := by decide +kernel
theorem dX1_tellVotes_75 : decode cX1_tellVotes 75 = .ok (.iload_n 1, 1) := by decide +kernel
theorem dX1_tellVotes_76 : decode cX1_tellVotes 76 = .ok (.iload_n 2, 1) := by decide +kernel
theorem dX1_tellVotes_77 : decode cX1_tellVotes 77 = .ok (.invokevirtual 81, 3) := by decide +kernel
theorem dX1_tellVotes_80 : decode cX1_tellVotes 80 = .ok (.aload_n 0, 1) := by decide +kernel
theorem dX1_tellVotes_81 : decode cX1_tellVotes 81 = .ok (.dup, 1) := by decide +kernel
theorem dX1_tellVotes_82 : decode cX1_tellVotes 82 = .ok (.getfield 69, 3) := by decide +kernel
theorem dX1_tellVotes_85 : decode cX1_tellVotes 85 = .ok (.aload_n 0, 1) := by decide +kernel
theorem dX1_tellVotes_86 : decode cX1_tellVotes 86 = .ok (.getfield 14, 3) := by decide +kernel
theorem dX1_tellVotes_89 : decode cX1_tellVotes 89 = .ok (.iload_n 1, 1) := by decide +kernel
theorem dX1_tellVotes_90 : decode cX1_tellVotes 90 = .ok (.invokevirtual 128, 3) := by decide +kernel
theorem dX1_tellVotes_93 : decode cX1_tellVotes 93 = .ok (.iadd, 1) := by decide +kernel
theorem dX1_tellVotes_94 : decode cX1_tellVotes 94 = .ok (.putfield 69, 3) := by decide +kernel
theorem dX1_tellVotes_97 : decode cX1_tellVotes 97 = .ok (.aload_n 0, 1) := by decide +kernel
theorem dX1_tellVotes_98 : decode cX1_tellVotes 98 = .ok (.dup, 1) := by decide +kernel
theorem dX1_tellVotes_99 : decode cX1_tellVotes 99 = .ok (.getfield 72, 3) := by decide +kernel
theorem dX1_tellVotes_102 : decode cX1_tellVotes 102 = .ok (.iload_n 2, 1) := by decide +kernel
theorem dX1_tellVotes_103 : decode cX1_tellVotes 103 = .ok (.aload_n 0, 1) := by decide +kernel
theorem dX1_tellVotes_104 : decode cX1_tellVotes 104 = .ok (.getfield 14, 3) := by decide +kernel
theorem dX1_tellVotes_107 : decode cX1_tellVotes 107 = .ok (.iload_n 1, 1) := by decide +kernel
theorem dX1_tellVotes_108 : decode cX1_tellVotes 108 = .ok (.invokevirtual 128, 3) := by decide +kernel
theorem dX1_tellVotes_111 : decode cX1_tellVotes 111 = .ok (.imul, 1) := by decide +kernel
theorem dX1_tellVotes_112 : decode cX1_tellVotes 112 = .ok (.iadd, 1) := by decide +kernel
theorem dX1_tellVotes_113 : decode cX1_tellVotes 113 = .ok (.putfield 72, 3) := by decide +kernel
theorem dX1_tellVotes_116 : decode cX1_tellVotes 116 = .ok (.iinc 1 1, 3) := by decide +kernel
theorem dX1_tellVotes_119 : decode cX1_tellVotes 119 = .ok (.goto (-107), 3) := by decide +kernel
theorem dX1_tellVotes_122 : decode cX1_tellVotes 122 = .ok (.return_, 1) := by decide +kernel
theorem dX1_leadingVote_0 : decode cX1_leadingVote 0 = .ok (.iconst 0, 1) := by decide +kernel
theorem dX1_leadingVote_1 : decode cX1_leadingVote 1 = .ok (.istore_n 2, 1) := by decide +kernel
theorem dX1_leadingVote_2 : decode cX1_leadingVote 2 = .ok (.iconst 0, 1) := by decide +kernel
theorem dX1_leadingVote_3 : decode cX1_leadingVote 3 = .ok (.istore_n 3, 1) := by decide +kernel
theorem dX1_leadingVote_4 : decode cX1_leadingVote 4 = .ok (.iload_n 1, 1) := by decide +kernel
theorem dX1_leadingVote_5 : decode cX1_leadingVote 5 = .ok (.istore 4, 2) := by decide +kernel
theorem dX1_leadingVote_7 : decode cX1_leadingVote 7 = .ok (.iload 4, 2) := by decide +kernel
theorem dX1_leadingVote_9 : decode cX1_leadingVote 9 = .ok (.aload_n 0, 1) := by decide +kernel
theorem dX1_leadingVote_10 : decode cX1_leadingVote 10 = .ok (.getfield 63, 3) := by decide +kernel
theorem dX1_leadingVote_13 : decode cX1_leadingVote 13 = .ok (.if_icmp .ge 73, 3) := by decide +kernel
theorem dX1_leadingVote_16 : decode cX1_leadingVote 16 = .ok (.aload_n 0, 1) := by decide +kernel
theorem dX1_leadingVote_17 : decode cX1_leadingVote 17 = .ok (.getfield 26, 3) := by decide +kernel
theorem dX1_leadingVote_20 : decode cX1_leadingVote 20 = .ok (.iload 4, 2) := by decide +kernel
theorem dX1_leadingVote_22 : decode cX1_leadingVote 22 = .ok (.invokevirtual 128, 3) := by decide +kernel
theorem dX1_leadingVote_25 : decode cX1_leadingVote 25 = .ok (.iload_n 1, 1) := by decide +kernel
theorem dX1_leadingVote_26 : decode cX1_leadingVote 26 = .ok (.if_icmp .eq 6, 3) := by decide +kernel
theorem dX1_leadingVote_29 : decode cX1_leadingVote 29 = .ok (.goto 51, 3) := by decide +kernel
theorem dX1_leadingVote_32 : decode cX1_leadingVote 32 = .ok (.aload_n 0, 1) := by decide +kernel
theorem dX1_leadingVote_33 : decode cX1_leadingVote 33 = .ok (.getfield 20, 3) := by decide +kernel
theorem dX1_leadingVote_36 : decode cX1_leadingVote 36 = .ok (.iload 4, 2) := by decide +kernel
theorem dX1_leadingVote_38 : decode cX1_leadingVote 38 = .ok (.invokevirtual 128, 3) := by decide +kernel
theorem dX1_leadingVote_41 : decode cX1_leadingVote 41 = .ok (.aload_n 0, 1) := by decide +kernel
theorem dX1_leadingVote_42 : decode cX1_leadingVote 42 = .ok (.getfield 29, 3) := by decide +kernel
theorem dX1_leadingVote_45 : decode cX1_leadingVote 45 = .ok (.iload 4, 2) := by decide +kernel
theorem dX1_leadingVote_47 : decode cX1_leadingVote 47 = .ok (.invokevirtual 128, 3) := by decide +kernel
theorem dX1_leadingVote_50 : decode cX1_leadingVote 50 = .ok (.if_icmp .eq 18, 3) := by decide +kernel
theorem dX1_leadingVote_53 : decode cX1_leadingVote 53 = .ok (.iload_n 2, 1) := by decide +kernel
theorem dX1_leadingVote_54 : decode cX1_leadingVote 54 = .ok (.aload_n 0, 1) := by decide +kernel
theorem dX1_leadingVote_55 : decode cX1_leadingVote 55 = .ok (.getfield 14, 3) := by decide +kernel
theorem dX1_leadingVote_58 : decode cX1_leadingVote 58 = .ok (.iload 4, 2) := by decide +kernel
theorem dX1_leadingVote_60 : decode cX1_leadingVote 60 = .ok (.invokevirtual 128, 3) := by decide +kernel
theorem dX1_leadingVote_63 : decode cX1_leadingVote 63 = .ok (.iadd, 1) := by decide +kernel
theorem dX1_leadingVote_64 : decode cX1_leadingVote 64 = .ok (.istore_n 2, 1) := by decide +kernel
theorem dX1_leadingVote_65 : decode cX1_leadingVote 65 = .ok (.goto 15, 3) := by decide +kernel
theorem dX1_leadingVote_68 : decode cX1_leadingVote 68 = .ok (.iload_n 3, 1) := by decide +kernel
theorem dX1_leadingVote_69 : decode cX1_leadingVote 69 = .ok (.aload_n 0, 1) := by decide +kernel
theorem dX1_leadingVote_70 : decode cX1_leadingVote 70 = .ok (.getfield 14, 3) := by decide +kernel
theorem dX1_leadingVote_73 : decode cX1_leadingVote 73 = .ok (.iload 4, 2) := by decide +kernel
theorem dX1_leadingVote_75 : decode cX1_leadingVote 75 = .ok (.invokevirtual 128, 3) := by decide +kernel
theorem dX1_leadingVote_78 : decode cX1_leadingVote 78 = .ok (.iadd, 1) := by decide +kernel
theorem dX1_leadingVote_79 : decode cX1_leadingVote 79 = .ok (.istore_n 3, 1) := by decide +kernel
theorem dX1_leadingVote_80 : decode cX1_leadingVote 80 = .ok (.iinc 4 1, 3) := by decide +kernel
theorem dX1_leadingVote_83 : decode cX1_leadingVote 83 = .ok (.goto (-76), 3) := by decide +kernel
theorem dX1_leadingVote_86 : decode cX1_leadingVote 86 = .ok (.iload_n 2, 1) := by decide +kernel
theorem dX1_leadingVote_87 : decode cX1_leadingVote 87 = .ok (.iload_n 3, 1) := by decide +kernel
theorem dX1_leadingVote_88 : decode cX1_leadingVote 88 = .ok (.if_icmp .ne 12, 3) := by decide +kernel
theorem dX1_leadingVote_91 : decode cX1_leadingVote 91 = .ok (.aload_n 0, 1) := by decide +kernel
theorem dX1_leadingVote_92 : decode cX1_leadingVote 92 = .ok (.getfield 20, 3) := by decide +kernel
theorem dX1_leadingVote_95 : decode cX1_leadingVote 95 = .ok (.iload_n 1, 1) := by decide +kernel
theorem dX1_leadingVote_96 : decode cX1_leadingVote 96 = .ok (.invokevirtual 128, 3) := by decide +kernel
theorem dX1_leadingVote_99 : decode cX1_leadingVote 99 = .ok (.ireturn, 1) := by decide +kernel
theorem dX1_leadingVote_100 : decode cX1_leadingVote 100 = .ok (.iload_n 2, 1) := by decide +kernel
theorem dX1_leadingVote_101 : decode cX1_leadingVote 101 = .ok (.iload_n 3, 1) := by decide +kernel
theorem dX1_leadingVote_102 : decode cX1_leadingVote 102 = .ok (.if_icmp .le 7, 3) := by decide +kernel
theorem dX1_leadingVote_105 : decode cX1_leadingVote 105 = .ok (.iconst 1, 1) := by decide +kernel
theorem dX1_leadingVote_106 : decode cX1_leadingVote 106 = .ok (.goto 4, 3) := by decide +kernel
theorem dX1_leadingVote_109 : decode cX1_leadingVote 109 = .ok (.iconst 0, 1) := by decide +kernel
theorem dX1_leadingVote_110 : decode cX1_leadingVote 110 = .ok (.ireturn, 1) := by decide +kernel
theorem dX1_pulledVote_0 : decode cX1_pulledVote 0 = .ok (.iconst 0, 1) := by decide +kernel
theorem dX1_pulledVote_1 : decode cX1_pulledVote 1 = .ok (.istore_n 2, 1) := by decide +kernel
theorem dX1_pulledVote_2 : decode cX1_pulledVote 2 = .ok (.iload_n 2, 1) := by decide +kernel
theorem dX1_pulledVote_3 : decode cX1_pulledVote 3 = .ok (.aload_n 0, 1) := by decide +kernel
theorem dX1_pulledVote_4 : decode cX1_pulledVote 4 = .ok (.getfield 63, 3) := by decide +kernel
theorem dX1_pulledVote_7 : decode cX1_pulledVote 7 = .ok (.if_icmp .ge 62, 3) := by decide +kernel
theorem dX1_pulledVote_10 : decode cX1_pulledVote 10 = .ok (.aload_n 0, 1) := by decide +kernel
theorem dX1_pulledVote_11 : decode cX1_pulledVote 11 = .ok (.getfield 23, 3) := by decide +kernel
theorem dX1_pulledVote_14 : decode cX1_pulledVote 14 = .ok (.iload_n 2, 1) := by decide +kernel
theorem dX1_pulledVote_15 : decode cX1_pulledVote 15 = .ok (.invokevirtual 128, 3) := by decide +kernel
theorem dX1_pulledVote_18 : decode cX1_pulledVote 18 = .ok (.istore_n 3, 1) := by decide +kernel
theorem dX1_pulledVote_19 : decode cX1_pulledVote 19 = .ok (.iload_n 3, 1) := by decide +kernel
theorem dX1_pulledVote_20 : decode cX1_pulledVote 20 = .ok (.iconst (-1), 1) := by decide +kernel
theorem dX1_pulledVote_21 : decode cX1_pulledVote 21 = .ok (.if_icmp .eq 42, 3) := by decide +kernel
theorem dX1_pulledVote_24 : decode cX1_pulledVote 24 = .ok (.aload_n 0, 1) := by decide +kernel
theorem dX1_pulledVote_25 : decode cX1_pulledVote 25 = .ok (.getfield 26, 3) := by decide +kernel
theorem dX1_pulledVote_28 : decode cX1_pulledVote 28 = .ok (.iload_n 2, 1) := by decide +kernel
theorem dX1_pulledVote_29 : decode cX1_pulledVote 29 = .ok (.invokevirtual 128, 3) := by decide +kernel
theorem dX1_pulledVote_32 : decode cX1_pulledVote 32 = .ok (.aload_n 0, 1) := by decide +kernel
theorem dX1_pulledVote_33 : decode cX1_pulledVote 33 = .ok (.getfield 26, 3) := by decide +kernel
theorem dX1_pulledVote_36 : decode cX1_pulledVote 36 = .ok (.iload_n 1, 1) := by decide +kernel
theorem dX1_pulledVote_37 : decode cX1_pulledVote 37 = .ok (.invokevirtual 128, 3) := by decide +kernel
theorem dX1_pulledVote_40 : decode cX1_pulledVote 40 = .ok (.if_icmp .ne 23, 3) := by decide +kernel
theorem dX1_pulledVote_43 : decode cX1_pulledVote 43 = .ok (.iload_n 3, 1) := by decide +kernel
theorem dX1_pulledVote_44 : decode cX1_pulledVote 44 = .ok (.aload_n 0, 1) := by decide +kernel
theorem dX1_pulledVote_45 : decode cX1_pulledVote 45 = .ok (.getfield 29, 3) := by decide +kernel
theorem dX1_pulledVote_48 : decode cX1_pulledVote 48 = .ok (.iload_n 2, 1) := by decide +kernel
theorem dX1_pulledVote_49 : decode cX1_pulledVote 49 = .ok (.invokevirtual 128, 3) := by decide +kernel
theorem dX1_pulledVote_52 : decode cX1_pulledVote 52 = .ok (.ixor, 1) := by decide +kernel
theorem dX1_pulledVote_53 : decode cX1_pulledVote 53 = .ok (.aload_n 0, 1) := by decide +kernel
theorem dX1_pulledVote_54 : decode cX1_pulledVote 54 = .ok (.getfield 29, 3) := by decide +kernel
theorem dX1_pulledVote_57 : decode cX1_pulledVote 57 = .ok (.iload_n 1, 1) := by decide +kernel
theorem dX1_pulledVote_58 : decode cX1_pulledVote 58 = .ok (.invokevirtual 128, 3) := by decide +kernel
theorem dX1_pulledVote_61 : decode cX1_pulledVote 61 = .ok (.ixor, 1) := by decide +kernel
theorem dX1_pulledVote_62 : decode cX1_pulledVote 62 = .ok (.ireturn, 1) := by decide +kernel
theorem dX1_pulledVote_63 : decode cX1_pulledVote 63 = .ok (.iinc 2 1, 3) := by decide +kernel
theorem dX1_pulledVote_66 : decode cX1_pulledVote 66 = .ok (.goto (-64), 3) := by decide +kernel
theorem dX1_pulledVote_69 : decode cX1_pulledVote 69 = .ok (.iconst (-1), 1) := by decide +kernel
theorem dX1_pulledVote_70 : decode cX1_pulledVote 70 = .ok (.ireturn, 1) := by decide +kernel
theorem dX1_hasPuppet_0 : decode cX1_hasPuppet 0 = .ok (.iload_n 1, 1) := by decide +kernel
theorem dX1_hasPuppet_1 : decode cX1_hasPuppet 1 = .ok (.ifCond .lt 15, 3) := by decide +kernel
theorem dX1_hasPuppet_4 : decode cX1_hasPuppet 4 = .ok (.iload_n 1, 1) := by decide +kernel
theorem dX1_hasPuppet_5 : decode cX1_hasPuppet 5 = .ok (.aload_n 0, 1) := by decide +kernel
theorem dX1_hasPuppet_6 : decode cX1_hasPuppet 6 = .ok (.getfield 63, 3) := by decide +kernel
theorem dX1_hasPuppet_9 : decode cX1_hasPuppet 9 = .ok (.if_icmp .ge 7, 3) := by decide +kernel
theorem dX1_hasPuppet_12 : decode cX1_hasPuppet 12 = .ok (.iconst 1, 1) := by decide +kernel
theorem dX1_hasPuppet_13 : decode cX1_hasPuppet 13 = .ok (.goto 4, 3) := by decide +kernel
theorem dX1_hasPuppet_16 : decode cX1_hasPuppet 16 = .ok (.iconst 0, 1) := by decide +kernel
theorem dX1_hasPuppet_17 : decode cX1_hasPuppet 17 = .ok (.ireturn, 1) := by decide +kernel
theorem dX1_arePair_0 : decode cX1_arePair 0 = .ok (.aload_n 0, 1) := by decide +kernel
theorem dX1_arePair_1 : decode cX1_arePair 1 = .ok (.iload_n 1, 1) := by decide +kernel
theorem dX1_arePair_2 : decode cX1_arePair 2 = .ok (.invokevirtual 118, 3) := by decide +kernel
theorem dX1_arePair_5 : decode cX1_arePair 5 = .ok (.ifCond .eq 20, 3) := by decide +kernel
theorem dX1_arePair_8 : decode cX1_arePair 8 = .ok (.aload_n 0, 1) := by decide +kernel
theorem dX1_arePair_9 : decode cX1_arePair 9 = .ok (.iload_n 2, 1) := by decide +kernel
theorem dX1_arePair_10 : decode cX1_arePair 10 = .ok (.invokevirtual 118, 3) := by decide +kernel
theorem dX1_arePair_13 : decode cX1_arePair 13 = .ok (.ifCond .eq 12, 3) := by decide +kernel
theorem dX1_arePair_16 : decode cX1_arePair 16 = .ok (.iload_n 1, 1) := by decide +kernel
theorem dX1_arePair_17 : decode cX1_arePair 17 = .ok (.iload_n 2, 1) := by decide +kernel
theorem dX1_arePair_18 : decode cX1_arePair 18 = .ok (.if_icmp .eq 7, 3) := by decide +kernel
theorem dX1_arePair_21 : decode cX1_arePair 21 = .ok (.iconst 1, 1) := by decide +kernel
theorem dX1_arePair_22 : decode cX1_arePair 22 = .ok (.goto 4, 3) := by decide +kernel
theorem dX1_arePair_25 : decode cX1_arePair 25 = .ok (.iconst 0, 1) := by decide +kernel
theorem dX1_arePair_26 : decode cX1_arePair 26 = .ok (.ireturn, 1) := by decide +kernel
theorem dX1_isPulled_0 : decode cX1_isPulled 0 = .ok (.aload_n 0, 1) := by decide +kernel
theorem dX1_isPulled_1 : decode cX1_isPulled 1 = .ok (.getfield 23, 3) := by decide +kernel
theorem dX1_isPulled_4 : decode cX1_isPulled 4 = .ok (.iload_n 1, 1) := by decide +kernel
theorem dX1_isPulled_5 : decode cX1_isPulled 5 = .ok (.invokevirtual 128, 3) := by decide +kernel
theorem dX1_isPulled_8 : decode cX1_isPulled 8 = .ok (.iconst (-1), 1) := by decide +kernel
theorem dX1_isPulled_9 : decode cX1_isPulled 9 = .ok (.if_icmp .eq 7, 3) := by decide +kernel
theorem dX1_isPulled_12 : decode cX1_isPulled 12 = .ok (.iconst 1, 1) := by decide +kernel
theorem dX1_isPulled_13 : decode cX1_isPulled 13 = .ok (.goto 4, 3) := by decide +kernel
theorem dX1_isPulled_16 : decode cX1_isPulled 16 = .ok (.iconst 0, 1) := by decide +kernel
theorem dX1_isPulled_17 : decode cX1_isPulled 17 = .ok (.ireturn, 1) := by decide +kernel
theorem dX1_hangTogether_0 : decode cX1_hangTogether 0 = .ok (.aload_n 0, 1) := by decide +kernel
theorem dX1_hangTogether_1 : decode cX1_hangTogether 1 = .ok (.getfield 26, 3) := by decide +kernel
theorem dX1_hangTogether_4 : decode cX1_hangTogether 4 = .ok (.iload_n 1, 1) := by decide +kernel
theorem dX1_hangTogether_5 : decode cX1_hangTogether 5 = .ok (.invokevirtual 128, 3) := by decide +kernel
theorem dX1_hangTogether_8 : decode cX1_hangTogether 8 = .ok (.aload_n 0, 1) := by decide +kernel
theorem dX1_hangTogether_9 : decode cX1_hangTogether 9 = .ok (.getfield 26, 3) := by decide +kernel
theorem dX1_hangTogether_12 : decode cX1_hangTogether 12 = .ok (.iload_n 2, 1) := by decide +kernel
theorem dX1_hangTogether_13 : decode cX1_hangTogether 13 = .ok (.invokevirtual 128, 3) := by decide +kernel
theorem dX1_hangTogether_16 : decode cX1_hangTogether 16 = .ok (.if_icmp .ne 7, 3) := by decide +kernel
theorem dX1_hangTogether_19 : decode cX1_hangTogether 19 = .ok (.iconst 1, 1) := by decide +kernel
theorem dX1_hangTogether_20 : decode cX1_hangTogether 20 = .ok (.goto 4, 3) := by decide +kernel
theorem dX1_hangTogether_23 : decode cX1_hangTogether 23 = .ok (.iconst 0, 1) := by decide +kernel
theorem dX1_hangTogether_24 : decode cX1_hangTogether 24 = .ok (.ireturn, 1) := by decide +kernel
theorem dX1_reasonAgainstString_0 : decode cX1_reasonAgainstString 0 = .ok (.aload_n 0, 1) := by decide +kernel
theorem dX1_reasonAgainstString_1 : decode cX1_reasonAgainstString 1 = .ok (.getfield 38, 3) := by decide +kernel
theorem dX1_reasonAgainstString_4 : decode cX1_reasonAgainstString 4 = .ok (.iload_n 1, 1) := by decide +kernel
theorem dX1_reasonAgainstString_5 : decode cX1_reasonAgainstString 5 = .ok (.iload_n 2, 1) := by decide +kernel
theorem dX1_reasonAgainstString_6 : decode cX1_reasonAgainstString 6 = .ok (.invokevirtual 168, 3) := by decide +kernel
theorem dX1_reasonAgainstString_9 : decode cX1_reasonAgainstString 9 = .ok (.ifCond .eq 5, 3) := by decide +kernel
theorem dX1_reasonAgainstString_12 : decode cX1_reasonAgainstString 12 = .ok (.iconst 1, 1) := by decide +kernel
theorem dX1_reasonAgainstString_13 : decode cX1_reasonAgainstString 13 = .ok (.ireturn, 1) := by decide +kernel
theorem dX1_reasonAgainstString_14 : decode cX1_reasonAgainstString 14 = .ok (.aload_n 0, 1) := by decide +kernel
theorem dX1_reasonAgainstString_15 : decode cX1_reasonAgainstString 15 = .ok (.iload_n 1, 1) := by decide +kernel
theorem dX1_reasonAgainstString_16 : decode cX1_reasonAgainstString 16 = .ok (.iload_n 2, 1) := by decide +kernel
theorem dX1_reasonAgainstString_17 : decode cX1_reasonAgainstString 17 = .ok (.invokevirtual 171, 3) := by decide +kernel
theorem dX1_reasonAgainstString_20 : decode cX1_reasonAgainstString 20 = .ok (.ifCond .eq 30, 3) := by decide +kernel
theorem dX1_reasonAgainstString_23 : decode cX1_reasonAgainstString 23 = .ok (.aload_n 0, 1) := by decide +kernel
theorem dX1_reasonAgainstString_24 : decode cX1_reasonAgainstString 24 = .ok (.getfield 29, 3) := by decide +kernel
theorem dX1_reasonAgainstString_27 : decode cX1_reasonAgainstString 27 = .ok (.iload_n 1, 1) := by decide +kernel
theorem dX1_reasonAgainstString_28 : decode cX1_reasonAgainstString 28 = .ok (.invokevirtual 128, 3) := by decide +kernel
theorem dX1_reasonAgainstString_31 : decode cX1_reasonAgainstString 31 = .ok (.aload_n 0, 1) := by decide +kernel
theorem dX1_reasonAgainstString_32 : decode cX1_reasonAgainstString 32 = .ok (.getfield 29, 3) := by decide +kernel
theorem dX1_reasonAgainstString_35 : decode cX1_reasonAgainstString 35 = .ok (.iload_n 2, 1) := by decide +kernel
theorem dX1_reasonAgainstString_36 : decode cX1_reasonAgainstString 36 = .ok (.invokevirtual 128, 3) := by decide +kernel
theorem dX1_reasonAgainstString_39 : decode cX1_reasonAgainstString 39 = .ok (.ixor, 1) := by decide +kernel
theorem dX1_reasonAgainstString_40 : decode cX1_reasonAgainstString 40 = .ok (.iload_n 3, 1) := by decide +kernel
theorem dX1_reasonAgainstString_41 : decode cX1_reasonAgainstString 41 = .ok (.if_icmp .ne 7, 3) := by decide +kernel
theorem dX1_reasonAgainstString_44 : decode cX1_reasonAgainstString 44 = .ok (.iconst 0, 1) := by decide +kernel
theorem dX1_reasonAgainstString_45 : decode cX1_reasonAgainstString 45 = .ok (.goto 4, 3) := by decide +kernel
theorem dX1_reasonAgainstString_48 : decode cX1_reasonAgainstString 48 = .ok (.iconst 2, 1) := by decide +kernel
theorem dX1_reasonAgainstString_49 : decode cX1_reasonAgainstString 49 = .ok (.ireturn, 1) := by decide +kernel
theorem dX1_reasonAgainstString_50 : decode cX1_reasonAgainstString 50 = .ok (.aload_n 0, 1) := by decide +kernel
theorem dX1_reasonAgainstString_51 : decode cX1_reasonAgainstString 51 = .ok (.iload_n 1, 1) := by decide +kernel
theorem dX1_reasonAgainstString_52 : decode cX1_reasonAgainstString 52 = .ok (.invokevirtual 162, 3) := by decide +kernel
theorem dX1_reasonAgainstString_55 : decode cX1_reasonAgainstString 55 = .ok (.istore 4, 2) := by decide +kernel
theorem dX1_reasonAgainstString_57 : decode cX1_reasonAgainstString 57 = .ok (.aload_n 0, 1) := by decide +kernel
theorem dX1_reasonAgainstString_58 : decode cX1_reasonAgainstString 58 = .ok (.iload_n 2, 1) := by decide +kernel
theorem dX1_reasonAgainstString_59 : decode cX1_reasonAgainstString 59 = .ok (.invokevirtual 162, 3) := by decide +kernel
theorem dX1_reasonAgainstString_62 : decode cX1_reasonAgainstString 62 = .ok (.istore 5, 2) := by decide +kernel
theorem dX1_reasonAgainstString_64 : decode cX1_reasonAgainstString 64 = .ok (.iload 4, 2) := by decide +kernel
theorem dX1_reasonAgainstString_66 : decode cX1_reasonAgainstString 66 = .ok (.iconst (-1), 1) := by decide +kernel
theorem dX1_reasonAgainstString_67 : decode cX1_reasonAgainstString 67 = .ok (.if_icmp .eq 13, 3) := by decide +kernel
theorem dX1_reasonAgainstString_70 : decode cX1_reasonAgainstString 70 = .ok (.iload 5, 2) := by decide +kernel
theorem dX1_reasonAgainstString_72 : decode cX1_reasonAgainstString 72 = .ok (.iconst (-1), 1) := by decide +kernel
theorem dX1_reasonAgainstString_73 : decode cX1_reasonAgainstString 73 = .ok (.if_icmp .eq 7, 3) := by decide +kernel
theorem dX1_reasonAgainstString_76 : decode cX1_reasonAgainstString 76 = .ok (.iconst 1, 1) := by decide +kernel
theorem dX1_reasonAgainstString_77 : decode cX1_reasonAgainstString 77 = .ok (.goto 4, 3) := by decide +kernel
theorem dX1_reasonAgainstString_80 : decode cX1_reasonAgainstString 80 = .ok (.iconst 0, 1) := by decide +kernel
theorem dX1_reasonAgainstString_81 : decode cX1_reasonAgainstString 81 = .ok (.istore 6, 2) := by decide +kernel
theorem dX1_reasonAgainstString_83 : decode cX1_reasonAgainstString 83 = .ok (.iload 6, 2) := by decide +kernel
theorem dX1_reasonAgainstString_85 : decode cX1_reasonAgainstString 85 = .ok (.ifCond .eq 16, 3) := by decide +kernel
theorem dX1_reasonAgainstString_88 : decode cX1_reasonAgainstString 88 = .ok (.iload 4, 2) := by decide +kernel
theorem dX1_reasonAgainstString_90 : decode cX1_reasonAgainstString 90 = .ok (.iload 5, 2) := by decide +kernel
theorem dX1_reasonAgainstString_92 : decode cX1_reasonAgainstString 92 = .ok (.ixor, 1) := by decide +kernel
theorem dX1_reasonAgainstString_93 : decode cX1_reasonAgainstString 93 = .ok (.iload_n 3, 1) := by decide +kernel
theorem dX1_reasonAgainstString_94 : decode cX1_reasonAgainstString 94 = .ok (.if_icmp .eq 7, 3) := by decide +kernel
theorem dX1_reasonAgainstString_97 : decode cX1_reasonAgainstString 97 = .ok (.iconst 3, 1) := by decide +kernel
theorem dX1_reasonAgainstString_98 : decode cX1_reasonAgainstString 98 = .ok (.goto 4, 3) := by decide +kernel
theorem dX1_reasonAgainstString_101 : decode cX1_reasonAgainstString 101 = .ok (.iconst 0, 1) := by decide +kernel
theorem dX1_reasonAgainstString_102 : decode cX1_reasonAgainstString 102 = .ok (.ireturn, 1) := by decide +kernel
theorem dX1_reasonAgainstPull_0 : decode cX1_reasonAgainstPull 0 = .ok (.iload_n 1, 1) := by decide +kernel
theorem dX1_reasonAgainstPull_1 : decode cX1_reasonAgainstPull 1 = .ok (.aload_n 0, 1) := by decide +kernel
theorem dX1_reasonAgainstPull_2 : decode cX1_reasonAgainstPull 2 = .ok (.getfield 66, 3) := by decide +kernel
theorem dX1_reasonAgainstPull_5 : decode cX1_reasonAgainstPull 5 = .ok (.if_icmp .ne 5, 3) := by decide +kernel
theorem dX1_reasonAgainstPull_8 : decode cX1_reasonAgainstPull 8 = .ok (.iconst 1, 1) := by decide +kernel
theorem dX1_reasonAgainstPull_9 : decode cX1_reasonAgainstPull 9 = .ok (.ireturn, 1) := by decide +kernel
theorem dX1_reasonAgainstPull_10 : decode cX1_reasonAgainstPull 10 = .ok (.iconst 0, 1) := by decide +kernel
theorem dX1_reasonAgainstPull_11 : decode cX1_reasonAgainstPull 11 = .ok (.istore_n 3, 1) := by decide +kernel
theorem dX1_reasonAgainstPull_12 : decode cX1_reasonAgainstPull 12 = .ok (.iconst 0, 1) := by decide +kernel
theorem dX1_reasonAgainstPull_13 : decode cX1_reasonAgainstPull 13 = .ok (.istore 4, 2) := by decide +kernel
theorem dX1_reasonAgainstPull_15 : decode cX1_reasonAgainstPull 15 = .ok (.iload 4, 2) := by decide +kernel
theorem dX1_reasonAgainstPull_17 : decode cX1_reasonAgainstPull 17 = .ok (.aload_n 0, 1) := by decide +kernel
theorem dX1_reasonAgainstPull_18 : decode cX1_reasonAgainstPull 18 = .ok (.getfield 63, 3) := by decide +kernel
theorem dX1_reasonAgainstPull_21 : decode cX1_reasonAgainstPull 21 = .ok (.if_icmp .ge 78, 3) := by decide +kernel
theorem dX1_reasonAgainstPull_24 : decode cX1_reasonAgainstPull 24 = .ok (.iload 4, 2) := by decide +kernel
theorem dX1_reasonAgainstPull_26 : decode cX1_reasonAgainstPull 26 = .ok (.iload_n 1, 1) := by decide +kernel
theorem dX1_reasonAgainstPull_27 : decode cX1_reasonAgainstPull 27 = .ok (.if_icmp .eq 66, 3) := by decide +kernel
theorem dX1_reasonAgainstPull_30 : decode cX1_reasonAgainstPull 30 = .ok (.aload_n 0, 1) := by decide +kernel
theorem dX1_reasonAgainstPull_31 : decode cX1_reasonAgainstPull 31 = .ok (.iload 4, 2) := by decide +kernel
theorem dX1_reasonAgainstPull_33 : decode cX1_reasonAgainstPull 33 = .ok (.invokevirtual 125, 3) := by decide +kernel
theorem dX1_reasonAgainstPull_36 : decode cX1_reasonAgainstPull 36 = .ok (.ifCond .ne 6, 3) := by decide +kernel
theorem dX1_reasonAgainstPull_39 : decode cX1_reasonAgainstPull 39 = .ok (.goto 54, 3) := by decide +kernel
theorem dX1_reasonAgainstPull_42 : decode cX1_reasonAgainstPull 42 = .ok (.iinc 3 1, 3) := by decide +kernel
theorem dX1_reasonAgainstPull_45 : decode cX1_reasonAgainstPull 45 = .ok (.aload_n 0, 1) := by decide +kernel
theorem dX1_reasonAgainstPull_46 : decode cX1_reasonAgainstPull 46 = .ok (.getfield 23, 3) := by decide +kernel
theorem dX1_reasonAgainstPull_49 : decode cX1_reasonAgainstPull 49 = .ok (.iload 4, 2) := by decide +kernel
theorem dX1_reasonAgainstPull_51 : decode cX1_reasonAgainstPull 51 = .ok (.invokevirtual 128, 3) := by decide +kernel
theorem dX1_reasonAgainstPull_54 : decode cX1_reasonAgainstPull 54 = .ok (.aload_n 0, 1) := by decide +kernel
theorem dX1_reasonAgainstPull_55 : decode cX1_reasonAgainstPull 55 = .ok (.getfield 29, 3) := by decide +kernel
theorem dX1_reasonAgainstPull_58 : decode cX1_reasonAgainstPull 58 = .ok (.iload 4, 2) := by decide +kernel
theorem dX1_reasonAgainstPull_60 : decode cX1_reasonAgainstPull 60 = .ok (.invokevirtual 128, 3) := by decide +kernel
theorem dX1_reasonAgainstPull_63 : decode cX1_reasonAgainstPull 63 = .ok (.ixor, 1) := by decide +kernel
theorem dX1_reasonAgainstPull_64 : decode cX1_reasonAgainstPull 64 = .ok (.aload_n 0, 1) := by decide +kernel
theorem dX1_reasonAgainstPull_65 : decode cX1_reasonAgainstPull 65 = .ok (.getfield 29, 3) := by decide +kernel
theorem dX1_reasonAgainstPull_68 : decode cX1_reasonAgainstPull 68 = .ok (.iload_n 1, 1) := by decide +kernel
theorem dX1_reasonAgainstPull_69 : decode cX1_reasonAgainstPull 69 = .ok (.invokevirtual 128, 3) := by decide +kernel
theorem dX1_reasonAgainstPull_72 : decode cX1_reasonAgainstPull 72 = .ok (.ixor, 1) := by decide +kernel
theorem dX1_reasonAgainstPull_73 : decode cX1_reasonAgainstPull 73 = .ok (.istore 5, 2) := by decide +kernel
theorem dX1_reasonAgainstPull_75 : decode cX1_reasonAgainstPull 75 = .ok (.aload_n 0, 1) := by decide +kernel
theorem dX1_reasonAgainstPull_76 : decode cX1_reasonAgainstPull 76 = .ok (.iload 4, 2) := by decide +kernel
theorem dX1_reasonAgainstPull_78 : decode cX1_reasonAgainstPull 78 = .ok (.iload_n 1, 1) := by decide +kernel
theorem dX1_reasonAgainstPull_79 : decode cX1_reasonAgainstPull 79 = .ok (.invokevirtual 171, 3) := by decide +kernel
theorem dX1_reasonAgainstPull_82 : decode cX1_reasonAgainstPull 82 = .ok (.ifCond .eq 11, 3) := by decide +kernel
theorem dX1_reasonAgainstPull_85 : decode cX1_reasonAgainstPull 85 = .ok (.iload 5, 2) := by decide +kernel
theorem dX1_reasonAgainstPull_87 : decode cX1_reasonAgainstPull 87 = .ok (.iload_n 2, 1) := by decide +kernel
theorem dX1_reasonAgainstPull_88 : decode cX1_reasonAgainstPull 88 = .ok (.if_icmp .eq 5, 3) := by decide +kernel
theorem dX1_reasonAgainstPull_91 : decode cX1_reasonAgainstPull 91 = .ok (.iconst 2, 1) := by decide +kernel
theorem dX1_reasonAgainstPull_92 : decode cX1_reasonAgainstPull 92 = .ok (.ireturn, 1) := by decide +kernel
theorem dX1_reasonAgainstPull_93 : decode cX1_reasonAgainstPull 93 = .ok (.iinc 4 1, 3) := by decide +kernel
theorem dX1_reasonAgainstPull_96 : decode cX1_reasonAgainstPull 96 = .ok (.goto (-81), 3) := by decide +kernel
theorem dX1_reasonAgainstPull_99 : decode cX1_reasonAgainstPull 99 = .ok (.iload_n 3, 1) := by decide +kernel
theorem dX1_reasonAgainstPull_100 : decode cX1_reasonAgainstPull 100 = .ok (.aload_n 0, 1) := by decide +kernel
theorem dX1_reasonAgainstPull_101 : decode cX1_reasonAgainstPull 101 = .ok (.getfield 49, 3) := by decide +kernel
theorem dX1_reasonAgainstPull_104 : decode cX1_reasonAgainstPull 104 = .ok (.if_icmp .lt 7, 3) := by decide +kernel
theorem dX1_reasonAgainstPull_107 : decode cX1_reasonAgainstPull 107 = .ok (.iconst 3, 1) := by decide +kernel
theorem dX1_reasonAgainstPull_108 : decode cX1_reasonAgainstPull 108 = .ok (.goto 4, 3) := by decide +kernel
theorem dX1_reasonAgainstPull_111 : decode cX1_reasonAgainstPull 111 = .ok (.iconst 0, 1) := by decide +kernel
theorem dX1_reasonAgainstPull_112 : decode cX1_reasonAgainstPull 112 = .ok (.ireturn, 1) := by decide +kernel
theorem dX1_wouldPass_0 : decode cX1_wouldPass 0 = .ok (.aload_n 0, 1) := by decide +kernel
theorem dX1_wouldPass_1 : decode cX1_wouldPass 1 = .ok (.getfield 69, 3) := by decide +kernel
theorem dX1_wouldPass_4 : decode cX1_wouldPass 4 = .ok (.aload_n 0, 1) := by decide +kernel
theorem dX1_wouldPass_5 : decode cX1_wouldPass 5 = .ok (.getfield 72, 3) := by decide +kernel
theorem dX1_wouldPass_8 : decode cX1_wouldPass 8 = .ok (.isub, 1) := by decide +kernel
theorem dX1_wouldPass_9 : decode cX1_wouldPass 9 = .ok (.istore_n 1, 1) := by decide +kernel
theorem dX1_wouldPass_10 : decode cX1_wouldPass 10 = .ok (.aload_n 0, 1) := by decide +kernel
theorem dX1_wouldPass_11 : decode cX1_wouldPass 11 = .ok (.getfield 72, 3) := by decide +kernel
theorem dX1_wouldPass_14 : decode cX1_wouldPass 14 = .ok (.iload_n 1, 1) := by decide +kernel
theorem dX1_wouldPass_15 : decode cX1_wouldPass 15 = .ok (.if_icmp .ne 15, 3) := by decide +kernel
theorem dX1_wouldPass_18 : decode cX1_wouldPass 18 = .ok (.aload_n 0, 1) := by decide +kernel
theorem dX1_wouldPass_19 : decode cX1_wouldPass 19 = .ok (.getfield 32, 3) := by decide +kernel
theorem dX1_wouldPass_22 : decode cX1_wouldPass 22 = .ok (.aload_n 0, 1) := by decide +kernel
theorem dX1_wouldPass_23 : decode cX1_wouldPass 23 = .ok (.getfield 66, 3) := by decide +kernel
theorem dX1_wouldPass_26 : decode cX1_wouldPass 26 = .ok (.invokevirtual 128, 3) := by decide +kernel
theorem dX1_wouldPass_29 : decode cX1_wouldPass 29 = .ok (.ireturn, 1) := by decide +kernel
theorem dX1_wouldPass_30 : decode cX1_wouldPass 30 = .ok (.aload_n 0, 1) := by decide +kernel
theorem dX1_wouldPass_31 : decode cX1_wouldPass 31 = .ok (.getfield 72, 3) := by decide +kernel
theorem dX1_wouldPass_34 : decode cX1_wouldPass 34 = .ok (.iload_n 1, 1) := by decide +kernel
theorem dX1_wouldPass_35 : decode cX1_wouldPass 35 = .ok (.if_icmp .le 7, 3) := by decide +kernel
theorem dX1_wouldPass_38 : decode cX1_wouldPass 38 = .ok (.iconst 1, 1) := by decide +kernel
theorem dX1_wouldPass_39 : decode cX1_wouldPass 39 = .ok (.goto 4, 3) := by decide +kernel
theorem dX1_wouldPass_42 : decode cX1_wouldPass 42 = .ok (.iconst 0, 1) := by decide +kernel
theorem dX1_wouldPass_43 : decode cX1_wouldPass 43 = .ok (.ireturn, 1) := by decide +kernel
theorem dX1_seatsIn_0 : decode cX1_seatsIn 0 = .ok (.iconst 0, 1) := by decide +kernel
theorem dX1_seatsIn_1 : decode cX1_seatsIn 1 = .ok (.istore_n 2, 1) := by decide +kernel
theorem dX1_seatsIn_2 : decode cX1_seatsIn 2 = .ok (.iconst 0, 1) := by decide +kernel
theorem dX1_seatsIn_3 : decode cX1_seatsIn 3 = .ok (.istore_n 3, 1) := by decide +kernel
theorem dX1_seatsIn_4 : decode cX1_seatsIn 4 = .ok (.iload_n 3, 1) := by decide +kernel
theorem dX1_seatsIn_5 : decode cX1_seatsIn 5 = .ok (.aload_n 0, 1) := by decide +kernel
theorem dX1_seatsIn_6 : decode cX1_seatsIn 6 = .ok (.getfield 63, 3) := by decide +kernel
theorem dX1_seatsIn_9 : decode cX1_seatsIn 9 = .ok (.if_icmp .ge 28, 3) := by decide +kernel
theorem dX1_seatsIn_12 : decode cX1_seatsIn 12 = .ok (.iload_n 1, 1) := by decide +kernel
theorem dX1_seatsIn_13 : decode cX1_seatsIn 13 = .ok (.iload_n 3, 1) := by decide +kernel
theorem dX1_seatsIn_14 : decode cX1_seatsIn 14 = .ok (.invokestatic 174, 3) := by decide +kernel
theorem dX1_seatsIn_17 : decode cX1_seatsIn 17 = .ok (.ifCond .eq 14, 3) := by decide +kernel
theorem dX1_seatsIn_20 : decode cX1_seatsIn 20 = .ok (.iload_n 2, 1) := by decide +kernel
theorem dX1_seatsIn_21 : decode cX1_seatsIn 21 = .ok (.aload_n 0, 1) := by decide +kernel
theorem dX1_seatsIn_22 : decode cX1_seatsIn 22 = .ok (.getfield 14, 3) := by decide +kernel
theorem dX1_seatsIn_25 : decode cX1_seatsIn 25 = .ok (.iload_n 3, 1) := by decide +kernel
theorem dX1_seatsIn_26 : decode cX1_seatsIn 26 = .ok (.invokevirtual 128, 3) := by decide +kernel
theorem dX1_seatsIn_29 : decode cX1_seatsIn 29 = .ok (.iadd, 1) := by decide +kernel
theorem dX1_seatsIn_30 : decode cX1_seatsIn 30 = .ok (.istore_n 2, 1) := by decide +kernel
theorem dX1_seatsIn_31 : decode cX1_seatsIn 31 = .ok (.iinc 3 1, 3) := by decide +kernel
theorem dX1_seatsIn_34 : decode cX1_seatsIn 34 = .ok (.goto (-30), 3) := by decide +kernel
theorem dX1_seatsIn_37 : decode cX1_seatsIn 37 = .ok (.iload_n 2, 1) := by decide +kernel
theorem dX1_seatsIn_38 : decode cX1_seatsIn 38 = .ok (.ireturn, 1) := by decide +kernel
theorem dX1_pulledPuppets_0 : decode cX1_pulledPuppets 0 = .ok (.iconst 0, 1) := by decide +kernel
theorem dX1_pulledPuppets_1 : decode cX1_pulledPuppets 1 = .ok (.istore_n 1, 1) := by decide +kernel
theorem dX1_pulledPuppets_2 : decode cX1_pulledPuppets 2 = .ok (.iconst 0, 1) := by decide +kernel
theorem dX1_pulledPuppets_3 : decode cX1_pulledPuppets 3 = .ok (.istore_n 2, 1) := by decide +kernel
theorem dX1_pulledPuppets_4 : decode cX1_pulledPuppets 4 = .ok (.iload_n 2, 1) := by decide +kernel
theorem dX1_pulledPuppets_5 : decode cX1_pulledPuppets 5 = .ok (.aload_n 0, 1) := by decide +kernel
theorem dX1_pulledPuppets_6 : decode cX1_pulledPuppets 6 = .ok (.getfield 63, 3) := by decide +kernel
theorem dX1_pulledPuppets_9 : decode cX1_pulledPuppets 9 = .ok (.if_icmp .ge 23, 3) := by decide +kernel
theorem dX1_pulledPuppets_12 : decode cX1_pulledPuppets 12 = .ok (.aload_n 0, 1) := by decide +kernel
theorem dX1_pulledPuppets_13 : decode cX1_pulledPuppets 13 = .ok (.iload_n 2, 1) := by decide +kernel
theorem dX1_pulledPuppets_14 : decode cX1_pulledPuppets 14 = .ok (.invokevirtual 125, 3) := by decide +kernel
theorem dX1_pulledPuppets_17 : decode cX1_pulledPuppets 17 = .ok (.ifCond .eq 9, 3) := by decide +kernel
theorem dX1_pulledPuppets_20 : decode cX1_pulledPuppets 20 = .ok (.iload_n 1, 1) := by decide +kernel
theorem dX1_pulledPuppets_21 : decode cX1_pulledPuppets 21 = .ok (.iconst 1, 1) := by decide +kernel
theorem dX1_pulledPuppets_22 : decode cX1_pulledPuppets 22 = .ok (.iload_n 2, 1) := by decide +kernel
theorem dX1_pulledPuppets_23 : decode cX1_pulledPuppets 23 = .ok (.ishl, 1) := by decide +kernel
theorem dX1_pulledPuppets_24 : decode cX1_pulledPuppets 24 = .ok (.ior, 1) := by decide +kernel
theorem dX1_pulledPuppets_25 : decode cX1_pulledPuppets 25 = .ok (.istore_n 1, 1) := by decide +kernel
theorem dX1_pulledPuppets_26 : decode cX1_pulledPuppets 26 = .ok (.iinc 2 1, 3) := by decide +kernel
theorem dX1_pulledPuppets_29 : decode cX1_pulledPuppets 29 = .ok (.goto (-25), 3) := by decide +kernel
theorem dX1_pulledPuppets_32 : decode cX1_pulledPuppets 32 = .ok (.iload_n 1, 1) := by decide +kernel
theorem dX1_pulledPuppets_33 : decode cX1_pulledPuppets 33 = .ok (.ireturn, 1) := by decide +kernel
theorem dX1_membersOf_0 : decode cX1_membersOf 0 = .ok (.iconst 0, 1) := by decide +kernel
theorem dX1_membersOf_1 : decode cX1_membersOf 1 = .ok (.istore_n 2, 1) := by decide +kernel
theorem dX1_membersOf_2 : decode cX1_membersOf 2 = .ok (.iconst 0, 1) := by decide +kernel
theorem dX1_membersOf_3 : decode cX1_membersOf 3 = .ok (.istore_n 3, 1) := by decide +kernel
theorem dX1_membersOf_4 : decode cX1_membersOf 4 = .ok (.iload_n 3, 1) := by decide +kernel
theorem dX1_membersOf_5 : decode cX1_membersOf 5 = .ok (.aload_n 0, 1) := by decide +kernel
theorem dX1_membersOf_6 : decode cX1_membersOf 6 = .ok (.getfield 63, 3) := by decide +kernel
theorem dX1_membersOf_9 : decode cX1_membersOf 9 = .ok (.if_icmp .ge 27, 3) := by decide +kernel
theorem dX1_membersOf_12 : decode cX1_membersOf 12 = .ok (.aload_n 0, 1) := by decide +kernel
theorem dX1_membersOf_13 : decode cX1_membersOf 13 = .ok (.getfield 26, 3) := by decide +kernel
theorem dX1_membersOf_16 : decode cX1_membersOf 16 = .ok (.iload_n 3, 1) := by decide +kernel
theorem dX1_membersOf_17 : decode cX1_membersOf 17 = .ok (.invokevirtual 128, 3) := by decide +kernel
theorem dX1_membersOf_20 : decode cX1_membersOf 20 = .ok (.iload_n 1, 1) := by decide +kernel
theorem dX1_membersOf_21 : decode cX1_membersOf 21 = .ok (.if_icmp .ne 9, 3) := by decide +kernel
theorem dX1_membersOf_24 : decode cX1_membersOf 24 = .ok (.iload_n 2, 1) := by decide +kernel
theorem dX1_membersOf_25 : decode cX1_membersOf 25 = .ok (.iconst 1, 1) := by decide +kernel
theorem dX1_membersOf_26 : decode cX1_membersOf 26 = .ok (.iload_n 3, 1) := by decide +kernel
theorem dX1_membersOf_27 : decode cX1_membersOf 27 = .ok (.ishl, 1) := by decide +kernel
theorem dX1_membersOf_28 : decode cX1_membersOf 28 = .ok (.ior, 1) := by decide +kernel
theorem dX1_membersOf_29 : decode cX1_membersOf 29 = .ok (.istore_n 2, 1) := by decide +kernel
theorem dX1_membersOf_30 : decode cX1_membersOf 30 = .ok (.iinc 3 1, 3) := by decide +kernel
theorem dX1_membersOf_33 : decode cX1_membersOf 33 = .ok (.goto (-29), 3) := by decide +kernel
theorem dX1_membersOf_36 : decode cX1_membersOf 36 = .ok (.iload_n 2, 1) := by decide +kernel
theorem dX1_membersOf_37 : decode cX1_membersOf 37 = .ok (.ireturn, 1) := by decide +kernel
theorem dX1_groupsByJoining_0 : decode cX1_groupsByJoining 0 = .ok (.iconst 0, 1) := by decide +kernel
theorem dX1_groupsByJoining_1 : decode cX1_groupsByJoining 1 = .ok (.istore_n 1, 1) := by decide +kernel
theorem dX1_groupsByJoining_2 : decode cX1_groupsByJoining 2 = .ok (.iconst 0, 1) := by decide +kernel
theorem dX1_groupsByJoining_3 : decode cX1_groupsByJoining 3 = .ok (.istore_n 2, 1) := by decide +kernel
theorem dX1_groupsByJoining_4 : decode cX1_groupsByJoining 4 = .ok (.iload_n 2, 1) := by decide +kernel
theorem dX1_groupsByJoining_5 : decode cX1_groupsByJoining 5 = .ok (.aload_n 0, 1) := by decide +kernel
theorem dX1_groupsByJoining_6 : decode cX1_groupsByJoining 6 = .ok (.getfield 63, 3) := by decide +kernel
theorem dX1_groupsByJoining_9 : decode cX1_groupsByJoining 9 = .ok (.if_icmp .ge 24, 3) := by decide +kernel
theorem dX1_groupsByJoining_12 : decode cX1_groupsByJoining 12 = .ok (.aload_n 0, 1) := by decide +kernel
theorem dX1_groupsByJoining_13 : decode cX1_groupsByJoining 13 = .ok (.getfield 26, 3) := by decide +kernel
theorem dX1_groupsByJoining_16 : decode cX1_groupsByJoining 16 = .ok (.iload_n 2, 1) := by decide +kernel
theorem dX1_groupsByJoining_17 : decode cX1_groupsByJoining 17 = .ok (.invokevirtual 128, 3) := by decide +kernel
theorem dX1_groupsByJoining_20 : decode cX1_groupsByJoining 20 = .ok (.iload_n 2, 1) := by decide +kernel
theorem dX1_groupsByJoining_21 : decode cX1_groupsByJoining 21 = .ok (.if_icmp .ne 6, 3) := by decide +kernel
theorem dX1_groupsByJoining_24 : decode cX1_groupsByJoining 24 = .ok (.iinc 1 1, 3) := by decide +kernel
theorem dX1_groupsByJoining_27 : decode cX1_groupsByJoining 27 = .ok (.iinc 2 1, 3) := by decide +kernel
theorem dX1_groupsByJoining_30 : decode cX1_groupsByJoining 30 = .ok (.goto (-26), 3) := by decide +kernel
theorem dX1_groupsByJoining_33 : decode cX1_groupsByJoining 33 = .ok (.iload_n 1, 1) := by decide +kernel
theorem dX1_groupsByJoining_34 : decode cX1_groupsByJoining 34 = .ok (.ireturn, 1) := by decide +kernel
theorem dX1_groupsByWalking_0 : decode cX1_groupsByWalking 0 = .ok (.iconst 0, 1) := by decide +kernel
theorem dX1_groupsByWalking_1 : decode cX1_groupsByWalking 1 = .ok (.istore_n 1, 1) := by decide +kernel
theorem dX1_groupsByWalking_2 : decode cX1_groupsByWalking 2 = .ok (.iconst 0, 1) := by decide +kernel
theorem dX1_groupsByWalking_3 : decode cX1_groupsByWalking 3 = .ok (.istore_n 2, 1) := by decide +kernel
theorem dX1_groupsByWalking_4 : decode cX1_groupsByWalking 4 = .ok (.iconst 0, 1) := by decide +kernel
theorem dX1_groupsByWalking_5 : decode cX1_groupsByWalking 5 = .ok (.istore_n 3, 1) := by decide +kernel
theorem dX1_groupsByWalking_6 : decode cX1_groupsByWalking 6 = .ok (.iload_n 3, 1) := by decide +kernel
theorem dX1_groupsByWalking_7 : decode cX1_groupsByWalking 7 = .ok (.aload_n 0, 1) := by decide +kernel
theorem dX1_groupsByWalking_8 : decode cX1_groupsByWalking 8 = .ok (.getfield 63, 3) := by decide +kernel
theorem dX1_groupsByWalking_11 : decode cX1_groupsByWalking 11 = .ok (.if_icmp .ge 28, 3) := by decide +kernel
theorem dX1_groupsByWalking_14 : decode cX1_groupsByWalking 14 = .ok (.iload_n 2, 1) := by decide +kernel
theorem dX1_groupsByWalking_15 : decode cX1_groupsByWalking 15 = .ok (.iload_n 3, 1) := by decide +kernel
theorem dX1_groupsByWalking_16 : decode cX1_groupsByWalking 16 = .ok (.invokestatic 174, 3) := by decide +kernel
theorem dX1_groupsByWalking_19 : decode cX1_groupsByWalking 19 = .ok (.ifCond .ne 14, 3) := by decide +kernel
theorem dX1_groupsByWalking_22 : decode cX1_groupsByWalking 22 = .ok (.iload_n 2, 1) := by decide +kernel
theorem dX1_groupsByWalking_23 : decode cX1_groupsByWalking 23 = .ok (.aload_n 0, 1) := by decide +kernel
theorem dX1_groupsByWalking_24 : decode cX1_groupsByWalking 24 = .ok (.iload_n 3, 1) := by decide +kernel
theorem dX1_groupsByWalking_25 : decode cX1_groupsByWalking 25 = .ok (.invokevirtual 177, 3) := by decide +kernel
theorem dX1_groupsByWalking_28 : decode cX1_groupsByWalking 28 = .ok (.ior, 1) := by decide +kernel
theorem dX1_groupsByWalking_29 : decode cX1_groupsByWalking 29 = .ok (.istore_n 2, 1) := by decide +kernel
theorem dX1_groupsByWalking_30 : decode cX1_groupsByWalking 30 = .ok (.iinc 1 1, 3) := by decide +kernel
theorem dX1_groupsByWalking_33 : decode cX1_groupsByWalking 33 = .ok (.iinc 3 1, 3) := by decide +kernel
theorem dX1_groupsByWalking_36 : decode cX1_groupsByWalking 36 = .ok (.goto (-30), 3) := by decide +kernel
theorem dX1_groupsByWalking_39 : decode cX1_groupsByWalking 39 = .ok (.iload_n 1, 1) := by decide +kernel
theorem dX1_groupsByWalking_40 : decode cX1_groupsByWalking 40 = .ok (.ireturn, 1) := by decide +kernel
theorem dX1_walkFrom_0 : decode cX1_walkFrom 0 = .ok (.iconst 1, 1) := by decide +kernel
theorem dX1_walkFrom_1 : decode cX1_walkFrom 1 = .ok (.iload_n 1, 1) := by decide +kernel
theorem dX1_walkFrom_2 : decode cX1_walkFrom 2 = .ok (.ishl, 1) := by decide +kernel
theorem dX1_walkFrom_3 : decode cX1_walkFrom 3 = .ok (.istore_n 2, 1) := by decide +kernel
theorem dX1_walkFrom_4 : decode cX1_walkFrom 4 = .ok (.iconst 0, 1) := by decide +kernel
theorem dX1_walkFrom_5 : decode cX1_walkFrom 5 = .ok (.istore_n 3, 1) := by decide +kernel
theorem dX1_walkFrom_6 : decode cX1_walkFrom 6 = .ok (.iload_n 3, 1) := by decide +kernel
theorem dX1_walkFrom_7 : decode cX1_walkFrom 7 = .ok (.bipush 12, 2) := by decide +kernel
theorem dX1_walkFrom_9 : decode cX1_walkFrom 9 = .ok (.if_icmp .ge 18, 3) := by decide +kernel
theorem dX1_walkFrom_12 : decode cX1_walkFrom 12 = .ok (.aload_n 0, 1) := by decide +kernel
theorem dX1_walkFrom_13 : decode cX1_walkFrom 13 = .ok (.getfield 38, 3) := by decide +kernel
theorem dX1_walkFrom_16 : decode cX1_walkFrom 16 = .ok (.iload_n 2, 1) := by decide +kernel
theorem dX1_walkFrom_17 : decode cX1_walkFrom 17 = .ok (.invokevirtual 180, 3) := by decide +kernel
theorem dX1_walkFrom_20 : decode cX1_walkFrom 20 = .ok (.istore_n 2, 1) := by decide +kernel
theorem dX1_walkFrom_21 : decode cX1_walkFrom 21 = .ok (.iinc 3 1, 3) := by decide +kernel
theorem dX1_walkFrom_24 : decode cX1_walkFrom 24 = .ok (.goto (-18), 3) := by decide +kernel
theorem dX1_walkFrom_27 : decode cX1_walkFrom 27 = .ok (.iload_n 2, 1) := by decide +kernel
theorem dX1_walkFrom_28 : decode cX1_walkFrom 28 = .ok (.ireturn, 1) := by decide +kernel
