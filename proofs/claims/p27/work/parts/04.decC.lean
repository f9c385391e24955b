theorem dX6_init_0 : decode cX6_init 0 = .ok (.aload_n 0, 1) := by decide +kernel
theorem dX6_init_1 : decode cX6_init 1 = .ok (.invokespecial 1, 3) := by decide +kernel
theorem dX6_init_4 : decode cX6_init 4 = .ok (.aload_n 0, 1) := by decide +kernel
theorem dX6_init_5 : decode cX6_init 5 = .ok (.new 7, 3) := by decide +kernel
theorem dX6_init_8 : decode cX6_init 8 = .ok (.dup, 1) := by decide +kernel
theorem dX6_init_9 : decode cX6_init 9 = .ok (.invokespecial 9, 3) := by decide +kernel
theorem dX6_init_12 : decode cX6_init 12 = .ok (.putfield 10, 3) := by decide +kernel
theorem dX6_init_15 : decode cX6_init 15 = .ok (.aload_n 0, 1) := by decide +kernel
theorem dX6_init_16 : decode cX6_init 16 = .ok (.new 7, 3) := by decide +kernel
theorem dX6_init_19 : decode cX6_init 19 = .ok (.dup, 1) := by decide +kernel
theorem dX6_init_20 : decode cX6_init 20 = .ok (.invokespecial 9, 3) := by decide +kernel
theorem dX6_init_23 : decode cX6_init 23 = .ok (.putfield 16, 3) := by decide +kernel
theorem dX6_init_26 : decode cX6_init 26 = .ok (.aload_n 0, 1) := by decide +kernel
theorem dX6_init_27 : decode cX6_init 27 = .ok (.iconst 4, 1) := by decide +kernel
theorem dX6_init_28 : decode cX6_init 28 = .ok (.anewarray 7, 3) := by decide +kernel
theorem dX6_init_31 : decode cX6_init 31 = .ok (.putfield 19, 3) := by decide +kernel
theorem dX6_init_34 : decode cX6_init 34 = .ok (.iconst 0, 1) := by decide +kernel
theorem dX6_init_35 : decode cX6_init 35 = .ok (.istore_n 1, 1) := by decide +kernel
theorem dX6_init_36 : decode cX6_init 36 = .ok (.iload_n 1, 1) := by decide +kernel
theorem dX6_init_37 : decode cX6_init 37 = .ok (.aload_n 0, 1) := by decide +kernel
theorem dX6_init_38 : decode cX6_init 38 = .ok (.getfield 19, 3) := by decide +kernel
theorem dX6_init_41 : decode cX6_init 41 = .ok (.arraylength, 1) := by decide +kernel
theorem dX6_init_42 : decode cX6_init 42 = .ok (.if_icmp .ge 22, 3) := by decide +kernel
theorem dX6_init_45 : decode cX6_init 45 = .ok (.aload_n 0, 1) := by decide +kernel
theorem dX6_init_46 : decode cX6_init 46 = .ok (.getfield 19, 3) := by decide +kernel
theorem dX6_init_49 : decode cX6_init 49 = .ok (.iload_n 1, 1) := by decide +kernel
theorem dX6_init_50 : decode cX6_init 50 = .ok (.new 7, 3) := by decide +kernel
theorem dX6_init_53 : decode cX6_init 53 = .ok (.dup, 1) := by decide +kernel
theorem dX6_init_54 : decode cX6_init 54 = .ok (.invokespecial 9, 3) := by decide +kernel
theorem dX6_init_57 : decode cX6_init 57 = .ok (.aastore, 1) := by decide +kernel
theorem dX6_init_58 : decode cX6_init 58 = .ok (.iinc 1 1, 3) := by decide +kernel
theorem dX6_init_61 : decode cX6_init 61 = .ok (.goto (-25), 3) := by decide +kernel
theorem dX6_init_64 : decode cX6_init 64 = .ok (.aload_n 0, 1) := by decide +kernel
theorem dX6_init_65 : decode cX6_init 65 = .ok (.new 23, 3) := by decide +kernel
theorem dX6_init_68 : decode cX6_init 68 = .ok (.dup, 1) := by decide +kernel
theorem dX6_init_69 : decode cX6_init 69 = .ok (.invokespecial 25, 3) := by decide +kernel
theorem dX6_init_72 : decode cX6_init 72 = .ok (.putfield 26, 3) := by decide +kernel
theorem dX6_init_75 : decode cX6_init 75 = .ok (.aload_n 0, 1) := by decide +kernel
theorem dX6_init_76 : decode cX6_init 76 = .ok (.new 30, 3) := by decide +kernel
theorem dX6_init_79 : decode cX6_init 79 = .ok (.dup, 1) := by decide +kernel
theorem dX6_init_80 : decode cX6_init 80 = .ok (.invokespecial 32, 3) := by decide +kernel
theorem dX6_init_83 : decode cX6_init 83 = .ok (.putfield 33, 3) := by decide +kernel
theorem dX6_init_86 : decode cX6_init 86 = .ok (.return_, 1) := by decide +kernel
theorem dX6_puppet_0 : decode cX6_puppet 0 = .ok (.aload_n 0, 1) := by decide +kernel
theorem dX6_puppet_1 : decode cX6_puppet 1 = .ok (.getfield 16, 3) := by decide +kernel
theorem dX6_puppet_4 : decode cX6_puppet 4 = .ok (.aload_n 0, 1) := by decide +kernel
theorem dX6_puppet_5 : decode cX6_puppet 5 = .ok (.getfield 10, 3) := by decide +kernel
theorem dX6_puppet_8 : decode cX6_puppet 8 = .ok (.invokevirtual 37, 3) := by decide +kernel
theorem dX6_puppet_11 : decode cX6_puppet 11 = .ok (.aload_n 0, 1) := by decide +kernel
theorem dX6_puppet_12 : decode cX6_puppet 12 = .ok (.aload_n 0, 1) := by decide +kernel
theorem dX6_puppet_13 : decode cX6_puppet 13 = .ok (.getfield 16, 3) := by decide +kernel
theorem dX6_puppet_16 : decode cX6_puppet 16 = .ok (.iload_n 1, 1) := by decide +kernel
theorem dX6_puppet_17 : decode cX6_puppet 17 = .ok (.iload_n 2, 1) := by decide +kernel
theorem dX6_puppet_18 : decode cX6_puppet 18 = .ok (.invokevirtual 41, 3) := by decide +kernel
theorem dX6_puppet_21 : decode cX6_puppet 21 = .ok (.invokevirtual 45, 3) := by decide +kernel
theorem dX6_puppet_24 : decode cX6_puppet 24 = .ok (.ireturn, 1) := by decide +kernel
theorem dX6_tie_0 : decode cX6_tie 0 = .ok (.aload_n 0, 1) := by decide +kernel
theorem dX6_tie_1 : decode cX6_tie 1 = .ok (.getfield 16, 3) := by decide +kernel
theorem dX6_tie_4 : decode cX6_tie 4 = .ok (.aload_n 0, 1) := by decide +kernel
theorem dX6_tie_5 : decode cX6_tie 5 = .ok (.getfield 10, 3) := by decide +kernel
theorem dX6_tie_8 : decode cX6_tie 8 = .ok (.invokevirtual 37, 3) := by decide +kernel
theorem dX6_tie_11 : decode cX6_tie 11 = .ok (.aload_n 0, 1) := by decide +kernel
theorem dX6_tie_12 : decode cX6_tie 12 = .ok (.aload_n 0, 1) := by decide +kernel
theorem dX6_tie_13 : decode cX6_tie 13 = .ok (.getfield 16, 3) := by decide +kernel
theorem dX6_tie_16 : decode cX6_tie 16 = .ok (.iload_n 1, 1) := by decide +kernel
theorem dX6_tie_17 : decode cX6_tie 17 = .ok (.iload_n 2, 1) := by decide +kernel
theorem dX6_tie_18 : decode cX6_tie 18 = .ok (.iload_n 3, 1) := by decide +kernel
theorem dX6_tie_19 : decode cX6_tie 19 = .ok (.ifCond .eq 7, 3) := by decide +kernel
theorem dX6_tie_22 : decode cX6_tie 22 = .ok (.iconst 1, 1) := by decide +kernel
theorem dX6_tie_23 : decode cX6_tie 23 = .ok (.goto 4, 3) := by decide +kernel
theorem dX6_tie_26 : decode cX6_tie 26 = .ok (.iconst 0, 1) := by decide +kernel
theorem dX6_tie_27 : decode cX6_tie 27 = .ok (.iload 4, 2) := by decide +kernel
theorem dX6_tie_29 : decode cX6_tie 29 = .ok (.invokevirtual 49, 3) := by decide +kernel
theorem dX6_tie_32 : decode cX6_tie 32 = .ok (.invokevirtual 45, 3) := by decide +kernel
theorem dX6_tie_35 : decode cX6_tie 35 = .ok (.ireturn, 1) := by decide +kernel
theorem dX6_cut_0 : decode cX6_cut 0 = .ok (.aload_n 0, 1) := by decide +kernel
theorem dX6_cut_1 : decode cX6_cut 1 = .ok (.getfield 16, 3) := by decide +kernel
theorem dX6_cut_4 : decode cX6_cut 4 = .ok (.aload_n 0, 1) := by decide +kernel
theorem dX6_cut_5 : decode cX6_cut 5 = .ok (.getfield 10, 3) := by decide +kernel
theorem dX6_cut_8 : decode cX6_cut 8 = .ok (.invokevirtual 37, 3) := by decide +kernel
theorem dX6_cut_11 : decode cX6_cut 11 = .ok (.aload_n 0, 1) := by decide +kernel
theorem dX6_cut_12 : decode cX6_cut 12 = .ok (.aload_n 0, 1) := by decide +kernel
theorem dX6_cut_13 : decode cX6_cut 13 = .ok (.getfield 16, 3) := by decide +kernel
theorem dX6_cut_16 : decode cX6_cut 16 = .ok (.iload_n 1, 1) := by decide +kernel
theorem dX6_cut_17 : decode cX6_cut 17 = .ok (.invokevirtual 53, 3) := by decide +kernel
theorem dX6_cut_20 : decode cX6_cut 20 = .ok (.invokevirtual 45, 3) := by decide +kernel
theorem dX6_cut_23 : decode cX6_cut 23 = .ok (.ireturn, 1) := by decide +kernel
theorem dX6_cutDeal_0 : decode cX6_cutDeal 0 = .ok (.aload_n 0, 1) := by decide +kernel
theorem dX6_cutDeal_1 : decode cX6_cutDeal 1 = .ok (.getfield 16, 3) := by decide +kernel
theorem dX6_cutDeal_4 : decode cX6_cutDeal 4 = .ok (.aload_n 0, 1) := by decide +kernel
theorem dX6_cutDeal_5 : decode cX6_cutDeal 5 = .ok (.getfield 10, 3) := by decide +kernel
theorem dX6_cutDeal_8 : decode cX6_cutDeal 8 = .ok (.invokevirtual 37, 3) := by decide +kernel
theorem dX6_cutDeal_11 : decode cX6_cutDeal 11 = .ok (.aload_n 0, 1) := by decide +kernel
theorem dX6_cutDeal_12 : decode cX6_cutDeal 12 = .ok (.aload_n 0, 1) := by decide +kernel
theorem dX6_cutDeal_13 : decode cX6_cutDeal 13 = .ok (.getfield 16, 3) := by decide +kernel
theorem dX6_cutDeal_16 : decode cX6_cutDeal 16 = .ok (.iload_n 1, 1) := by decide +kernel
theorem dX6_cutDeal_17 : decode cX6_cutDeal 17 = .ok (.invokevirtual 56, 3) := by decide +kernel
theorem dX6_cutDeal_20 : decode cX6_cutDeal 20 = .ok (.invokevirtual 45, 3) := by decide +kernel
theorem dX6_cutDeal_23 : decode cX6_cutDeal 23 = .ok (.ireturn, 1) := by decide +kernel
theorem dX6_pull_0 : decode cX6_pull 0 = .ok (.aload_n 0, 1) := by decide +kernel
theorem dX6_pull_1 : decode cX6_pull 1 = .ok (.getfield 16, 3) := by decide +kernel
theorem dX6_pull_4 : decode cX6_pull 4 = .ok (.aload_n 0, 1) := by decide +kernel
theorem dX6_pull_5 : decode cX6_pull 5 = .ok (.getfield 10, 3) := by decide +kernel
theorem dX6_pull_8 : decode cX6_pull 8 = .ok (.invokevirtual 37, 3) := by decide +kernel
theorem dX6_pull_11 : decode cX6_pull 11 = .ok (.aload_n 0, 1) := by decide +kernel
theorem dX6_pull_12 : decode cX6_pull 12 = .ok (.aload_n 0, 1) := by decide +kernel
theorem dX6_pull_13 : decode cX6_pull 13 = .ok (.getfield 16, 3) := by decide +kernel
theorem dX6_pull_16 : decode cX6_pull 16 = .ok (.iload_n 1, 1) := by decide +kernel
theorem dX6_pull_17 : decode cX6_pull 17 = .ok (.iload_n 2, 1) := by decide +kernel
theorem dX6_pull_18 : decode cX6_pull 18 = .ok (.invokevirtual 59, 3) := by decide +kernel
theorem dX6_pull_21 : decode cX6_pull 21 = .ok (.invokevirtual 45, 3) := by decide +kernel
theorem dX6_pull_24 : decode cX6_pull 24 = .ok (.ireturn, 1) := by decide +kernel
theorem dX6_release_0 : decode cX6_release 0 = .ok (.aload_n 0, 1) := by decide +kernel
theorem dX6_release_1 : decode cX6_release 1 = .ok (.getfield 16, 3) := by decide +kernel
theorem dX6_release_4 : decode cX6_release 4 = .ok (.aload_n 0, 1) := by decide +kernel
theorem dX6_release_5 : decode cX6_release 5 = .ok (.getfield 10, 3) := by decide +kernel
theorem dX6_release_8 : decode cX6_release 8 = .ok (.invokevirtual 37, 3) := by decide +kernel
theorem dX6_release_11 : decode cX6_release 11 = .ok (.aload_n 0, 1) := by decide +kernel
theorem dX6_release_12 : decode cX6_release 12 = .ok (.aload_n 0, 1) := by decide +kernel
theorem dX6_release_13 : decode cX6_release 13 = .ok (.getfield 16, 3) := by decide +kernel
theorem dX6_release_16 : decode cX6_release 16 = .ok (.iload_n 1, 1) := by decide +kernel
theorem dX6_release_17 : decode cX6_release 17 = .ok (.invokevirtual 62, 3) := by decide +kernel
theorem dX6_release_20 : decode cX6_release 20 = .ok (.invokevirtual 45, 3) := by decide +kernel
theorem dX6_release_23 : decode cX6_release 23 = .ok (.ireturn, 1) := by decide +kernel
theorem dX6_session_0 : decode cX6_session 0 = .ok (.aload_n 0, 1) := by decide +kernel
theorem dX6_session_1 : decode cX6_session 1 = .ok (.getfield 16, 3) := by decide +kernel
theorem dX6_session_4 : decode cX6_session 4 = .ok (.aload_n 0, 1) := by decide +kernel
theorem dX6_session_5 : decode cX6_session 5 = .ok (.getfield 10, 3) := by decide +kernel
theorem dX6_session_8 : decode cX6_session 8 = .ok (.invokevirtual 37, 3) := by decide +kernel
theorem dX6_session_11 : decode cX6_session 11 = .ok (.aload_n 0, 1) := by decide +kernel
theorem dX6_session_12 : decode cX6_session 12 = .ok (.aload_n 0, 1) := by decide +kernel
theorem dX6_session_13 : decode cX6_session 13 = .ok (.getfield 16, 3) := by decide +kernel
theorem dX6_session_16 : decode cX6_session 16 = .ok (.invokevirtual 65, 3) := by decide +kernel
theorem dX6_session_19 : decode cX6_session 19 = .ok (.invokevirtual 45, 3) := by decide +kernel
theorem dX6_session_22 : decode cX6_session 22 = .ok (.ireturn, 1) := by decide +kernel
theorem dX6_set_0 : decode cX6_set 0 = .ok (.iload_n 1, 1) := by decide +kernel
theorem dX6_set_1 : decode cX6_set 1 = .ok (.ifCond .eq 6, 3) := by decide +kernel
theorem dX6_set_4 : decode cX6_set 4 = .ok (.ldc 69, 2) := by decide +kernel
theorem dX6_set_6 : decode cX6_set 6 = .ok (.ireturn, 1) := by decide +kernel
theorem dX6_set_7 : decode cX6_set 7 = .ok (.aload_n 0, 1) := by decide +kernel
theorem dX6_set_8 : decode cX6_set 8 = .ok (.getfield 16, 3) := by decide +kernel
theorem dX6_set_11 : decode cX6_set 11 = .ok (.aload_n 0, 1) := by decide +kernel
theorem dX6_set_12 : decode cX6_set 12 = .ok (.getfield 10, 3) := by decide +kernel
theorem dX6_set_15 : decode cX6_set 15 = .ok (.invokevirtual 37, 3) := by decide +kernel
theorem dX6_set_18 : decode cX6_set 18 = .ok (.aload_n 0, 1) := by decide +kernel
theorem dX6_set_19 : decode cX6_set 19 = .ok (.aload_n 0, 1) := by decide +kernel
theorem dX6_set_20 : decode cX6_set 20 = .ok (.getfield 16, 3) := by decide +kernel
theorem dX6_set_23 : decode cX6_set 23 = .ok (.iload_n 2, 1) := by decide +kernel
theorem dX6_set_24 : decode cX6_set 24 = .ok (.invokevirtual 70, 3) := by decide +kernel
theorem dX6_set_27 : decode cX6_set 27 = .ok (.invokevirtual 45, 3) := by decide +kernel
theorem dX6_set_30 : decode cX6_set 30 = .ok (.ireturn, 1) := by decide +kernel
theorem dX6_puppetOf_0 : decode cX6_puppetOf 0 = .ok (.aload_n 0, 1) := by decide +kernel
theorem dX6_puppetOf_1 : decode cX6_puppetOf 1 = .ok (.getfield 10, 3) := by decide +kernel
theorem dX6_puppetOf_4 : decode cX6_puppetOf 4 = .ok (.iload_n 1, 1) := by decide +kernel
theorem dX6_puppetOf_5 : decode cX6_puppetOf 5 = .ok (.invokevirtual 73, 3) := by decide +kernel
theorem dX6_puppetOf_8 : decode cX6_puppetOf 8 = .ok (.ifCond .ne 6, 3) := by decide +kernel
theorem dX6_puppetOf_11 : decode cX6_puppetOf 11 = .ok (.ldc 69, 2) := by decide +kernel
theorem dX6_puppetOf_13 : decode cX6_puppetOf 13 = .ok (.ireturn, 1) := by decide +kernel
theorem dX6_puppetOf_14 : decode cX6_puppetOf 14 = .ok (.aload_n 0, 1) := by decide +kernel
theorem dX6_puppetOf_15 : decode cX6_puppetOf 15 = .ok (.getfield 10, 3) := by decide +kernel
theorem dX6_puppetOf_18 : decode cX6_puppetOf 18 = .ok (.getfield 77, 3) := by decide +kernel
theorem dX6_puppetOf_21 : decode cX6_puppetOf 21 = .ok (.iload_n 1, 1) := by decide +kernel
theorem dX6_puppetOf_22 : decode cX6_puppetOf 22 = .ok (.invokevirtual 81, 3) := by decide +kernel
theorem dX6_puppetOf_25 : decode cX6_puppetOf 25 = .ok (.istore_n 3, 1) := by decide +kernel
theorem dX6_puppetOf_26 : decode cX6_puppetOf 26 = .ok (.iload_n 2, 1) := by decide +kernel
theorem dX6_puppetOf_27 : decode cX6_puppetOf 27 = .ok (.tableswitch 164 0 8 #[49, 61, 73, 101, 113, 115, 127, 139, 148], 49) := by decide +kernel
theorem dX6_puppetOf_76 : decode cX6_puppetOf 76 = .ok (.aload_n 0, 1) := by decide +kernel
theorem dX6_puppetOf_77 : decode cX6_puppetOf 77 = .ok (.getfield 10, 3) := by decide +kernel
theorem dX6_puppetOf_80 : decode cX6_puppetOf 80 = .ok (.getfield 86, 3) := by decide +kernel
theorem dX6_puppetOf_83 : decode cX6_puppetOf 83 = .ok (.iload_n 1, 1) := by decide +kernel
theorem dX6_puppetOf_84 : decode cX6_puppetOf 84 = .ok (.invokevirtual 81, 3) := by decide +kernel
theorem dX6_puppetOf_87 : decode cX6_puppetOf 87 = .ok (.ireturn, 1) := by decide +kernel
theorem dX6_puppetOf_88 : decode cX6_puppetOf 88 = .ok (.aload_n 0, 1) := by decide +kernel
theorem dX6_puppetOf_89 : decode cX6_puppetOf 89 = .ok (.getfield 10, 3) := by decide +kernel
theorem dX6_puppetOf_92 : decode cX6_puppetOf 92 = .ok (.getfield 89, 3) := by decide +kernel
theorem dX6_puppetOf_95 : decode cX6_puppetOf 95 = .ok (.iload_n 1, 1) := by decide +kernel
theorem dX6_puppetOf_96 : decode cX6_puppetOf 96 = .ok (.invokevirtual 81, 3) := by decide +kernel
theorem dX6_puppetOf_99 : decode cX6_puppetOf 99 = .ok (.ireturn, 1) := by decide +kernel
theorem dX6_puppetOf_100 : decode cX6_puppetOf 100 = .ok (.aload_n 0, 1) := by decide +kernel
theorem dX6_puppetOf_101 : decode cX6_puppetOf 101 = .ok (.getfield 10, 3) := by decide +kernel
theorem dX6_puppetOf_104 : decode cX6_puppetOf 104 = .ok (.iload_n 1, 1) := by decide +kernel
theorem dX6_puppetOf_105 : decode cX6_puppetOf 105 = .ok (.invokevirtual 92, 3) := by decide +kernel
theorem dX6_puppetOf_108 : decode cX6_puppetOf 108 = .ok (.ifCond .eq 17, 3) := by decide +kernel
theorem dX6_puppetOf_111 : decode cX6_puppetOf 111 = .ok (.aload_n 0, 1) := by decide +kernel
theorem dX6_puppetOf_112 : decode cX6_puppetOf 112 = .ok (.getfield 10, 3) := by decide +kernel
theorem dX6_puppetOf_115 : decode cX6_puppetOf 115 = .ok (.getfield 95, 3) := by decide +kernel
theorem dX6_puppetOf_118 : decode cX6_puppetOf 118 = .ok (.iload_n 1, 1) := by decide +kernel
theorem dX6_puppetOf_119 : decode cX6_puppetOf 119 = .ok (.invokevirtual 81, 3) := by decide +kernel
theorem dX6_puppetOf_122 : decode cX6_puppetOf 122 = .ok (.goto 5, 3) := by decide +kernel
theorem dX6_puppetOf_125 : decode cX6_puppetOf 125 = .ok (.ldc 98, 2) := by decide +kernel
theorem dX6_puppetOf_127 : decode cX6_puppetOf 127 = .ok (.ireturn, 1) := by decide +kernel
theorem dX6_puppetOf_128 : decode cX6_puppetOf 128 = .ok (.aload_n 0, 1) := by decide +kernel
theorem dX6_puppetOf_129 : decode cX6_puppetOf 129 = .ok (.getfield 10, 3) := by decide +kernel
theorem dX6_puppetOf_132 : decode cX6_puppetOf 132 = .ok (.getfield 99, 3) := by decide +kernel
theorem dX6_puppetOf_135 : decode cX6_puppetOf 135 = .ok (.iload_n 1, 1) := by decide +kernel
theorem dX6_puppetOf_136 : decode cX6_puppetOf 136 = .ok (.invokevirtual 81, 3) := by decide +kernel
theorem dX6_puppetOf_139 : decode cX6_puppetOf 139 = .ok (.ireturn, 1) := by decide +kernel
theorem dX6_puppetOf_140 : decode cX6_puppetOf 140 = .ok (.iload_n 3, 1) := by decide +kernel
theorem dX6_puppetOf_141 : decode cX6_puppetOf 141 = .ok (.ireturn, 1) := by decide +kernel
theorem dX6_puppetOf_142 : decode cX6_puppetOf 142 = .ok (.aload_n 0, 1) := by decide +kernel
theorem dX6_puppetOf_143 : decode cX6_puppetOf 143 = .ok (.getfield 10, 3) := by decide +kernel
theorem dX6_puppetOf_146 : decode cX6_puppetOf 146 = .ok (.getfield 102, 3) := by decide +kernel
theorem dX6_puppetOf_149 : decode cX6_puppetOf 149 = .ok (.iload_n 1, 1) := by decide +kernel
theorem dX6_puppetOf_150 : decode cX6_puppetOf 150 = .ok (.invokevirtual 81, 3) := by decide +kernel
theorem dX6_puppetOf_153 : decode cX6_puppetOf 153 = .ok (.ireturn, 1) := by decide +kernel
theorem dX6_puppetOf_154 : decode cX6_puppetOf 154 = .ok (.aload_n 0, 1) := by decide +kernel
theorem dX6_puppetOf_155 : decode cX6_puppetOf 155 = .ok (.getfield 10, 3) := by decide +kernel
theorem dX6_puppetOf_158 : decode cX6_puppetOf 158 = .ok (.getfield 105, 3) := by decide +kernel
theorem dX6_puppetOf_161 : decode cX6_puppetOf 161 = .ok (.iload_n 1, 1) := by decide +kernel
theorem dX6_puppetOf_162 : decode cX6_puppetOf 162 = .ok (.invokevirtual 109, 3) := by decide +kernel
theorem dX6_puppetOf_165 : decode cX6_puppetOf 165 = .ok (.ireturn, 1) := by decide +kernel
theorem dX6_puppetOf_166 : decode cX6_puppetOf 166 = .ok (.aload_n 0, 1) := by decide +kernel
theorem dX6_puppetOf_167 : decode cX6_puppetOf 167 = .ok (.getfield 10, 3) := by decide +kernel
theorem dX6_puppetOf_170 : decode cX6_puppetOf 170 = .ok (.iload_n 3, 1) := by decide +kernel
theorem dX6_puppetOf_171 : decode cX6_puppetOf 171 = .ok (.invokevirtual 114, 3) := by decide +kernel
theorem dX6_puppetOf_174 : decode cX6_puppetOf 174 = .ok (.ireturn, 1) := by decide +kernel
theorem dX6_puppetOf_175 : decode cX6_puppetOf 175 = .ok (.aload_n 0, 1) := by decide +kernel
theorem dX6_puppetOf_176 : decode cX6_puppetOf 176 = .ok (.getfield 10, 3) := by decide +kernel
theorem dX6_puppetOf_179 : decode cX6_puppetOf 179 = .ok (.aload_n 0, 1) := by decide +kernel
theorem dX6_puppetOf_180 : decode cX6_puppetOf 180 = .ok (.getfield 10, 3) := by decide +kernel
theorem dX6_puppetOf_183 : decode cX6_puppetOf 183 = .ok (.iload_n 3, 1) := by decide +kernel
theorem dX6_puppetOf_184 : decode cX6_puppetOf 184 = .ok (.invokevirtual 114, 3) := by decide +kernel
theorem dX6_puppetOf_187 : decode cX6_puppetOf 187 = .ok (.invokevirtual 117, 3) := by decide +kernel
theorem dX6_puppetOf_190 : decode cX6_puppetOf 190 = .ok (.ireturn, 1) := by decide +kernel
theorem dX6_puppetOf_191 : decode cX6_puppetOf 191 = .ok (.ldc 69, 2) := by decide +kernel
theorem dX6_puppetOf_193 : decode cX6_puppetOf 193 = .ok (.ireturn, 1) := by decide +kernel
theorem dX6_stringOf_0 : decode cX6_stringOf 0 = .ok (.aload_n 0, 1) := by decide +kernel
theorem dX6_stringOf_1 : decode cX6_stringOf 1 = .ok (.getfield 10, 3) := by decide +kernel
theorem dX6_stringOf_4 : decode cX6_stringOf 4 = .ok (.getfield 105, 3) := by decide +kernel
theorem dX6_stringOf_7 : decode cX6_stringOf 7 = .ok (.iload_n 1, 1) := by decide +kernel
theorem dX6_stringOf_8 : decode cX6_stringOf 8 = .ok (.invokevirtual 120, 3) := by decide +kernel
theorem dX6_stringOf_11 : decode cX6_stringOf 11 = .ok (.ifCond .ne 6, 3) := by decide +kernel
theorem dX6_stringOf_14 : decode cX6_stringOf 14 = .ok (.ldc 69, 2) := by decide +kernel
theorem dX6_stringOf_16 : decode cX6_stringOf 16 = .ok (.ireturn, 1) := by decide +kernel
theorem dX6_stringOf_17 : decode cX6_stringOf 17 = .ok (.iload_n 2, 1) := by decide +kernel
theorem dX6_stringOf_18 : decode cX6_stringOf 18 = .ok (.tableswitch 108 0 4 #[34, 49, 64, 79, 94], 34) := by decide +kernel
theorem dX6_stringOf_52 : decode cX6_stringOf 52 = .ok (.aload_n 0, 1) := by decide +kernel
theorem dX6_stringOf_53 : decode cX6_stringOf 53 = .ok (.getfield 10, 3) := by decide +kernel
theorem dX6_stringOf_56 : decode cX6_stringOf 56 = .ok (.getfield 105, 3) := by decide +kernel
theorem dX6_stringOf_59 : decode cX6_stringOf 59 = .ok (.getfield 123, 3) := by decide +kernel
theorem dX6_stringOf_62 : decode cX6_stringOf 62 = .ok (.iload_n 1, 1) := by decide +kernel
theorem dX6_stringOf_63 : decode cX6_stringOf 63 = .ok (.invokevirtual 81, 3) := by decide +kernel
theorem dX6_stringOf_66 : decode cX6_stringOf 66 = .ok (.ireturn, 1) := by decide +kernel
theorem dX6_stringOf_67 : decode cX6_stringOf 67 = .ok (.aload_n 0, 1) := by decide +kernel
theorem dX6_stringOf_68 : decode cX6_stringOf 68 = .ok (.getfield 10, 3) := by decide +kernel
theorem dX6_stringOf_71 : decode cX6_stringOf 71 = .ok (.getfield 105, 3) := by decide +kernel
theorem dX6_stringOf_74 : decode cX6_stringOf 74 = .ok (.getfield 126, 3) := by decide +kernel
theorem dX6_stringOf_77 : decode cX6_stringOf 77 = .ok (.iload_n 1, 1) := by decide +kernel
theorem dX6_stringOf_78 : decode cX6_stringOf 78 = .ok (.invokevirtual 81, 3) := by decide +kernel
theorem dX6_stringOf_81 : decode cX6_stringOf 81 = .ok (.ireturn, 1) := by decide +kernel
theorem dX6_stringOf_82 : decode cX6_stringOf 82 = .ok (.aload_n 0, 1) := by decide +kernel
theorem dX6_stringOf_83 : decode cX6_stringOf 83 = .ok (.getfield 10, 3) := by decide +kernel
theorem dX6_stringOf_86 : decode cX6_stringOf 86 = .ok (.getfield 105, 3) := by decide +kernel
theorem dX6_stringOf_89 : decode cX6_stringOf 89 = .ok (.getfield 129, 3) := by decide +kernel
theorem dX6_stringOf_92 : decode cX6_stringOf 92 = .ok (.iload_n 1, 1) := by decide +kernel
theorem dX6_stringOf_93 : decode cX6_stringOf 93 = .ok (.invokevirtual 81, 3) := by decide +kernel
theorem dX6_stringOf_96 : decode cX6_stringOf 96 = .ok (.ireturn, 1) := by decide +kernel
theorem dX6_stringOf_97 : decode cX6_stringOf 97 = .ok (.aload_n 0, 1) := by decide +kernel
theorem dX6_stringOf_98 : decode cX6_stringOf 98 = .ok (.getfield 10, 3) := by decide +kernel
theorem dX6_stringOf_101 : decode cX6_stringOf 101 = .ok (.getfield 105, 3) := by decide +kernel
theorem dX6_stringOf_104 : decode cX6_stringOf 104 = .ok (.getfield 132, 3) := by decide +kernel
theorem dX6_stringOf_107 : decode cX6_stringOf 107 = .ok (.iload_n 1, 1) := by decide +kernel
theorem dX6_stringOf_108 : decode cX6_stringOf 108 = .ok (.invokevirtual 81, 3) := by decide +kernel
theorem dX6_stringOf_111 : decode cX6_stringOf 111 = .ok (.ireturn, 1) := by decide +kernel
theorem dX6_stringOf_112 : decode cX6_stringOf 112 = .ok (.aload_n 0, 1) := by decide +kernel
theorem dX6_stringOf_113 : decode cX6_stringOf 113 = .ok (.iload_n 1, 1) := by decide +kernel
theorem dX6_stringOf_114 : decode cX6_stringOf 114 = .ok (.invokevirtual 135, 3) := by decide +kernel
theorem dX6_stringOf_117 : decode cX6_stringOf 117 = .ok (.ifCond .eq 7, 3) := by decide +kernel
theorem dX6_stringOf_120 : decode cX6_stringOf 120 = .ok (.iconst 1, 1) := by decide +kernel
theorem dX6_stringOf_121 : decode cX6_stringOf 121 = .ok (.goto 4, 3) := by decide +kernel
theorem dX6_stringOf_124 : decode cX6_stringOf 124 = .ok (.iconst 0, 1) := by decide +kernel
theorem dX6_stringOf_125 : decode cX6_stringOf 125 = .ok (.ireturn, 1) := by decide +kernel
theorem dX6_stringOf_126 : decode cX6_stringOf 126 = .ok (.ldc 69, 2) := by decide +kernel
theorem dX6_stringOf_128 : decode cX6_stringOf 128 = .ok (.ireturn, 1) := by decide +kernel
theorem dX6_hangTogetherWithout_0 : decode cX6_hangTogetherWithout 0 = .ok (.aload_n 0, 1) := by decide +kernel
theorem dX6_hangTogetherWithout_1 : decode cX6_hangTogetherWithout 1 = .ok (.getfield 16, 3) := by decide +kernel
theorem dX6_hangTogetherWithout_4 : decode cX6_hangTogetherWithout 4 = .ok (.aload_n 0, 1) := by decide +kernel
theorem dX6_hangTogetherWithout_5 : decode cX6_hangTogetherWithout 5 = .ok (.getfield 10, 3) := by decide +kernel
theorem dX6_hangTogetherWithout_8 : decode cX6_hangTogetherWithout 8 = .ok (.invokevirtual 37, 3) := by decide +kernel
theorem dX6_hangTogetherWithout_11 : decode cX6_hangTogetherWithout 11 = .ok (.aload_n 0, 1) := by decide +kernel
theorem dX6_hangTogetherWithout_12 : decode cX6_hangTogetherWithout 12 = .ok (.getfield 16, 3) := by decide +kernel
theorem dX6_hangTogetherWithout_15 : decode cX6_hangTogetherWithout 15 = .ok (.iload_n 1, 1) := by decide +kernel
theorem dX6_hangTogetherWithout_16 : decode cX6_hangTogetherWithout 16 = .ok (.invokevirtual 53, 3) := by decide +kernel
theorem dX6_hangTogetherWithout_19 : decode cX6_hangTogetherWithout 19 = .ok (.pop, 1) := by decide +kernel
theorem dX6_hangTogetherWithout_20 : decode cX6_hangTogetherWithout 20 = .ok (.aload_n 0, 1) := by decide +kernel
theorem dX6_hangTogetherWithout_21 : decode cX6_hangTogetherWithout 21 = .ok (.getfield 16, 3) := by decide +kernel
theorem dX6_hangTogetherWithout_24 : decode cX6_hangTogetherWithout 24 = .ok (.aload_n 0, 1) := by decide +kernel
theorem dX6_hangTogetherWithout_25 : decode cX6_hangTogetherWithout 25 = .ok (.getfield 10, 3) := by decide +kernel
theorem dX6_hangTogetherWithout_28 : decode cX6_hangTogetherWithout 28 = .ok (.getfield 105, 3) := by decide +kernel
theorem dX6_hangTogetherWithout_31 : decode cX6_hangTogetherWithout 31 = .ok (.getfield 123, 3) := by decide +kernel
theorem dX6_hangTogetherWithout_34 : decode cX6_hangTogetherWithout 34 = .ok (.iload_n 1, 1) := by decide +kernel
theorem dX6_hangTogetherWithout_35 : decode cX6_hangTogetherWithout 35 = .ok (.invokevirtual 81, 3) := by decide +kernel
theorem dX6_hangTogetherWithout_38 : decode cX6_hangTogetherWithout 38 = .ok (.aload_n 0, 1) := by decide +kernel
theorem dX6_hangTogetherWithout_39 : decode cX6_hangTogetherWithout 39 = .ok (.getfield 10, 3) := by decide +kernel
theorem dX6_hangTogetherWithout_42 : decode cX6_hangTogetherWithout 42 = .ok (.getfield 105, 3) := by decide +kernel
theorem dX6_hangTogetherWithout_45 : decode cX6_hangTogetherWithout 45 = .ok (.getfield 126, 3) := by decide +kernel
theorem dX6_hangTogetherWithout_48 : decode cX6_hangTogetherWithout 48 = .ok (.iload_n 1, 1) := by decide +kernel
theorem dX6_hangTogetherWithout_49 : decode cX6_hangTogetherWithout 49 = .ok (.invokevirtual 81, 3) := by decide +kernel
theorem dX6_hangTogetherWithout_52 : decode cX6_hangTogetherWithout 52 = .ok (.invokevirtual 138, 3) := by decide +kernel
theorem dX6_hangTogetherWithout_55 : decode cX6_hangTogetherWithout 55 = .ok (.ireturn, 1) := by decide +kernel
theorem dX6_book_0 : decode cX6_book 0 = .ok (.iload_n 1, 1) := by decide +kernel
theorem dX6_book_1 : decode cX6_book 1 = .ok (.ifCond .lt 12, 3) := by decide +kernel
theorem dX6_book_4 : decode cX6_book 4 = .ok (.iload_n 2, 1) := by decide +kernel
theorem dX6_book_5 : decode cX6_book 5 = .ok (.iconst 0, 1) := by decide +kernel
theorem dX6_book_6 : decode cX6_book 6 = .ok (.iconst 3, 1) := by decide +kernel
theorem dX6_book_7 : decode cX6_book 7 = .ok (.invokestatic 148, 3) := by decide +kernel
theorem dX6_book_10 : decode cX6_book 10 = .ok (.ifCond .ne 6, 3) := by decide +kernel
theorem dX6_book_13 : decode cX6_book 13 = .ok (.ldc 69, 2) := by decide +kernel
theorem dX6_book_15 : decode cX6_book 15 = .ok (.ireturn, 1) := by decide +kernel
theorem dX6_book_16 : decode cX6_book 16 = .ok (.iload_n 1, 1) := by decide +kernel
theorem dX6_book_17 : decode cX6_book 17 = .ok (.aload_n 0, 1) := by decide +kernel
theorem dX6_book_18 : decode cX6_book 18 = .ok (.getfield 10, 3) := by decide +kernel
theorem dX6_book_21 : decode cX6_book 21 = .ok (.getfield 152, 3) := by decide +kernel
theorem dX6_book_24 : decode cX6_book 24 = .ok (.invokevirtual 156, 3) := by decide +kernel
theorem dX6_book_27 : decode cX6_book 27 = .ok (.if_icmp .ge 18, 3) := by decide +kernel
theorem dX6_book_30 : decode cX6_book 30 = .ok (.aload_n 0, 1) := by decide +kernel
theorem dX6_book_31 : decode cX6_book 31 = .ok (.getfield 10, 3) := by decide +kernel
theorem dX6_book_34 : decode cX6_book 34 = .ok (.getfield 152, 3) := by decide +kernel
theorem dX6_book_37 : decode cX6_book 37 = .ok (.iload_n 1, 1) := by decide +kernel
theorem dX6_book_38 : decode cX6_book 38 = .ok (.iload_n 2, 1) := by decide +kernel
theorem dX6_book_39 : decode cX6_book 39 = .ok (.invokevirtual 161, 3) := by decide +kernel
theorem dX6_book_42 : decode cX6_book 42 = .ok (.goto 5, 3) := by decide +kernel
theorem dX6_book_45 : decode cX6_book 45 = .ok (.ldc 98, 2) := by decide +kernel
theorem dX6_book_47 : decode cX6_book 47 = .ok (.ireturn, 1) := by decide +kernel
theorem dX6_whyTie_0 : decode cX6_whyTie 0 = .ok (.aload_n 0, 1) := by decide +kernel
theorem dX6_whyTie_1 : decode cX6_whyTie 1 = .ok (.getfield 10, 3) := by decide +kernel
theorem dX6_whyTie_4 : decode cX6_whyTie 4 = .ok (.iload_n 1, 1) := by decide +kernel
theorem dX6_whyTie_5 : decode cX6_whyTie 5 = .ok (.iload_n 2, 1) := by decide +kernel
theorem dX6_whyTie_6 : decode cX6_whyTie 6 = .ok (.invokevirtual 164, 3) := by decide +kernel
theorem dX6_whyTie_9 : decode cX6_whyTie 9 = .ok (.ifCond .ne 6, 3) := by decide +kernel
theorem dX6_whyTie_12 : decode cX6_whyTie 12 = .ok (.ldc 69, 2) := by decide +kernel
theorem dX6_whyTie_14 : decode cX6_whyTie 14 = .ok (.ireturn, 1) := by decide +kernel
theorem dX6_whyTie_15 : decode cX6_whyTie 15 = .ok (.aload_n 0, 1) := by decide +kernel
theorem dX6_whyTie_16 : decode cX6_whyTie 16 = .ok (.getfield 10, 3) := by decide +kernel
theorem dX6_whyTie_19 : decode cX6_whyTie 19 = .ok (.iload_n 1, 1) := by decide +kernel
theorem dX6_whyTie_20 : decode cX6_whyTie 20 = .ok (.iload_n 2, 1) := by decide +kernel
theorem dX6_whyTie_21 : decode cX6_whyTie 21 = .ok (.iload_n 3, 1) := by decide +kernel
theorem dX6_whyTie_22 : decode cX6_whyTie 22 = .ok (.ifCond .eq 7, 3) := by decide +kernel
theorem dX6_whyTie_25 : decode cX6_whyTie 25 = .ok (.iconst 1, 1) := by decide +kernel
theorem dX6_whyTie_26 : decode cX6_whyTie 26 = .ok (.goto 4, 3) := by decide +kernel
theorem dX6_whyTie_29 : decode cX6_whyTie 29 = .ok (.iconst 0, 1) := by decide +kernel
theorem dX6_whyTie_30 : decode cX6_whyTie 30 = .ok (.invokevirtual 167, 3) := by decide +kernel
theorem dX6_whyTie_33 : decode cX6_whyTie 33 = .ok (.ireturn, 1) := by decide +kernel
theorem dX6_whyPull_0 : decode cX6_whyPull 0 = .ok (.aload_n 0, 1) := by decide +kernel
theorem dX6_whyPull_1 : decode cX6_whyPull 1 = .ok (.getfield 10, 3) := by decide +kernel
theorem dX6_whyPull_4 : decode cX6_whyPull 4 = .ok (.iload_n 1, 1) := by decide +kernel
theorem dX6_whyPull_5 : decode cX6_whyPull 5 = .ok (.invokevirtual 73, 3) := by decide +kernel
theorem dX6_whyPull_8 : decode cX6_whyPull 8 = .ok (.ifCond .eq 12, 3) := by decide +kernel
theorem dX6_whyPull_11 : decode cX6_whyPull 11 = .ok (.iload_n 2, 1) := by decide +kernel
theorem dX6_whyPull_12 : decode cX6_whyPull 12 = .ok (.iconst 0, 1) := by decide +kernel
theorem dX6_whyPull_13 : decode cX6_whyPull 13 = .ok (.iconst 1, 1) := by decide +kernel
theorem dX6_whyPull_14 : decode cX6_whyPull 14 = .ok (.invokestatic 148, 3) := by decide +kernel
theorem dX6_whyPull_17 : decode cX6_whyPull 17 = .ok (.ifCond .ne 6, 3) := by decide +kernel
theorem dX6_whyPull_20 : decode cX6_whyPull 20 = .ok (.ldc 69, 2) := by decide +kernel
theorem dX6_whyPull_22 : decode cX6_whyPull 22 = .ok (.ireturn, 1) := by decide +kernel
theorem dX6_whyPull_23 : decode cX6_whyPull 23 = .ok (.aload_n 0, 1) := by decide +kernel
theorem dX6_whyPull_24 : decode cX6_whyPull 24 = .ok (.getfield 10, 3) := by decide +kernel
theorem dX6_whyPull_27 : decode cX6_whyPull 27 = .ok (.iload_n 1, 1) := by decide +kernel
theorem dX6_whyPull_28 : decode cX6_whyPull 28 = .ok (.iload_n 2, 1) := by decide +kernel
theorem dX6_whyPull_29 : decode cX6_whyPull 29 = .ok (.invokevirtual 171, 3) := by decide +kernel
theorem dX6_whyPull_32 : decode cX6_whyPull 32 = .ok (.ireturn, 1) := by decide +kernel
theorem dX6_ifCut_0 : decode cX6_ifCut 0 = .ok (.aload_n 0, 1) := by decide +kernel
theorem dX6_ifCut_1 : decode cX6_ifCut 1 = .ok (.getfield 10, 3) := by decide +kernel
theorem dX6_ifCut_4 : decode cX6_ifCut 4 = .ok (.getfield 105, 3) := by decide +kernel
theorem dX6_ifCut_7 : decode cX6_ifCut 7 = .ok (.iload_n 1, 1) := by decide +kernel
theorem dX6_ifCut_8 : decode cX6_ifCut 8 = .ok (.invokevirtual 120, 3) := by decide +kernel
theorem dX6_ifCut_11 : decode cX6_ifCut 11 = .ok (.ifCond .eq 12, 3) := by decide +kernel
theorem dX6_ifCut_14 : decode cX6_ifCut 14 = .ok (.iload_n 2, 1) := by decide +kernel
theorem dX6_ifCut_15 : decode cX6_ifCut 15 = .ok (.iconst 0, 1) := by decide +kernel
theorem dX6_ifCut_16 : decode cX6_ifCut 16 = .ok (.iconst 1, 1) := by decide +kernel
theorem dX6_ifCut_17 : decode cX6_ifCut 17 = .ok (.invokestatic 148, 3) := by decide +kernel
theorem dX6_ifCut_20 : decode cX6_ifCut 20 = .ok (.ifCond .ne 6, 3) := by decide +kernel
theorem dX6_ifCut_23 : decode cX6_ifCut 23 = .ok (.ldc 69, 2) := by decide +kernel
theorem dX6_ifCut_25 : decode cX6_ifCut 25 = .ok (.ireturn, 1) := by decide +kernel
theorem dX6_ifCut_26 : decode cX6_ifCut 26 = .ok (.aload_n 0, 1) := by decide +kernel
theorem dX6_ifCut_27 : decode cX6_ifCut 27 = .ok (.getfield 16, 3) := by decide +kernel
theorem dX6_ifCut_30 : decode cX6_ifCut 30 = .ok (.aload_n 0, 1) := by decide +kernel
theorem dX6_ifCut_31 : decode cX6_ifCut 31 = .ok (.getfield 10, 3) := by decide +kernel
theorem dX6_ifCut_34 : decode cX6_ifCut 34 = .ok (.invokevirtual 37, 3) := by decide +kernel
theorem dX6_ifCut_37 : decode cX6_ifCut 37 = .ok (.aload_n 0, 1) := by decide +kernel
theorem dX6_ifCut_38 : decode cX6_ifCut 38 = .ok (.getfield 16, 3) := by decide +kernel
theorem dX6_ifCut_41 : decode cX6_ifCut 41 = .ok (.iload_n 1, 1) := by decide +kernel
theorem dX6_ifCut_42 : decode cX6_ifCut 42 = .ok (.invokevirtual 53, 3) := by decide +kernel
theorem dX6_ifCut_45 : decode cX6_ifCut 45 = .ok (.pop, 1) := by decide +kernel
theorem dX6_ifCut_46 : decode cX6_ifCut 46 = .ok (.iload_n 2, 1) := by decide +kernel
theorem dX6_ifCut_47 : decode cX6_ifCut 47 = .ok (.ifCond .ne 13, 3) := by decide +kernel
theorem dX6_ifCut_50 : decode cX6_ifCut 50 = .ok (.aload_n 0, 1) := by decide +kernel
theorem dX6_ifCut_51 : decode cX6_ifCut 51 = .ok (.getfield 16, 3) := by decide +kernel
theorem dX6_ifCut_54 : decode cX6_ifCut 54 = .ok (.getfield 174, 3) := by decide +kernel
theorem dX6_ifCut_57 : decode cX6_ifCut 57 = .ok (.goto 10, 3) := by decide +kernel
theorem dX6_ifCut_60 : decode cX6_ifCut 60 = .ok (.aload_n 0, 1) := by decide +kernel
theorem dX6_ifCut_61 : decode cX6_ifCut 61 = .ok (.getfield 16, 3) := by decide +kernel
theorem dX6_ifCut_64 : decode cX6_ifCut 64 = .ok (.invokevirtual 198, 3) := by decide +kernel
theorem dX6_ifCut_67 : decode cX6_ifCut 67 = .ok (.ireturn, 1) := by decide +kernel
theorem dX6_count_0 : decode cX6_count 0 = .ok (.iload_n 1, 1) := by decide +kernel
theorem dX6_count_1 : decode cX6_count 1 = .ok (.tableswitch 285 0 20 #[99, 107, 118, 126, 134, 142, 150, 166, 189, 212, 220, 231, 242, 253, 258, 266, 285, 285, 285, 285, 277], 99) := by decide +kernel
theorem dX6_count_100 : decode cX6_count 100 = .ok (.aload_n 0, 1) := by decide +kernel
theorem dX6_count_101 : decode cX6_count 101 = .ok (.getfield 10, 3) := by decide +kernel
theorem dX6_count_104 : decode cX6_count 104 = .ok (.getfield 178, 3) := by decide +kernel
theorem dX6_count_107 : decode cX6_count 107 = .ok (.ireturn, 1) := by decide +kernel
theorem dX6_count_108 : decode cX6_count 108 = .ok (.aload_n 0, 1) := by decide +kernel
theorem dX6_count_109 : decode cX6_count 109 = .ok (.getfield 10, 3) := by decide +kernel
theorem dX6_count_112 : decode cX6_count 112 = .ok (.getfield 105, 3) := by decide +kernel
theorem dX6_count_115 : decode cX6_count 115 = .ok (.getfield 209, 3) := by decide +kernel
theorem dX6_count_118 : decode cX6_count 118 = .ok (.ireturn, 1) := by decide +kernel
theorem dX6_count_119 : decode cX6_count 119 = .ok (.aload_n 0, 1) := by decide +kernel
theorem dX6_count_120 : decode cX6_count 120 = .ok (.getfield 10, 3) := by decide +kernel
theorem dX6_count_123 : decode cX6_count 123 = .ok (.invokevirtual 198, 3) := by decide +kernel
theorem dX6_count_126 : decode cX6_count 126 = .ok (.ireturn, 1) := by decide +kernel
theorem dX6_count_127 : decode cX6_count 127 = .ok (.aload_n 0, 1) := by decide +kernel
theorem dX6_count_128 : decode cX6_count 128 = .ok (.getfield 10, 3) := by decide +kernel
theorem dX6_count_131 : decode cX6_count 131 = .ok (.invokevirtual 212, 3) := by decide +kernel
theorem dX6_count_134 : decode cX6_count 134 = .ok (.ireturn, 1) := by decide +kernel
theorem dX6_count_135 : decode cX6_count 135 = .ok (.aload_n 0, 1) := by decide +kernel
theorem dX6_count_136 : decode cX6_count 136 = .ok (.getfield 10, 3) := by decide +kernel
theorem dX6_count_139 : decode cX6_count 139 = .ok (.getfield 201, 3) := by decide +kernel
theorem dX6_count_142 : decode cX6_count 142 = .ok (.ireturn, 1) := by decide +kernel
theorem dX6_count_143 : decode cX6_count 143 = .ok (.aload_n 0, 1) := by decide +kernel
theorem dX6_count_144 : decode cX6_count 144 = .ok (.getfield 10, 3) := by decide +kernel
theorem dX6_count_147 : decode cX6_count 147 = .ok (.getfield 174, 3) := by decide +kernel
theorem dX6_count_150 : decode cX6_count 150 = .ok (.ireturn, 1) := by decide +kernel
theorem dX6_count_151 : decode cX6_count 151 = .ok (.aload_n 0, 1) := by decide +kernel
theorem dX6_count_152 : decode cX6_count 152 = .ok (.getfield 10, 3) := by decide +kernel
theorem dX6_count_155 : decode cX6_count 155 = .ok (.getfield 201, 3) := by decide +kernel
theorem dX6_count_158 : decode cX6_count 158 = .ok (.aload_n 0, 1) := by decide +kernel
theorem dX6_count_159 : decode cX6_count 159 = .ok (.getfield 10, 3) := by decide +kernel
theorem dX6_count_162 : decode cX6_count 162 = .ok (.getfield 174, 3) := by decide +kernel
theorem dX6_count_165 : decode cX6_count 165 = .ok (.isub, 1) := by decide +kernel
theorem dX6_count_166 : decode cX6_count 166 = .ok (.ireturn, 1) := by decide +kernel
theorem dX6_count_167 : decode cX6_count 167 = .ok (.aload_n 0, 1) := by decide +kernel
theorem dX6_count_168 : decode cX6_count 168 = .ok (.getfield 10, 3) := by decide +kernel
theorem dX6_count_171 : decode cX6_count 171 = .ok (.getfield 178, 3) := by decide +kernel
theorem dX6_count_174 : decode cX6_count 174 = .ok (.ifCond .ne 8, 3) := by decide +kernel
theorem dX6_count_177 : decode cX6_count 177 = .ok (.ldc 98, 2) := by decide +kernel
theorem dX6_count_179 : decode cX6_count 179 = .ok (.goto 10, 3) := by decide +kernel
theorem dX6_count_182 : decode cX6_count 182 = .ok (.aload_n 0, 1) := by decide +kernel
theorem dX6_count_183 : decode cX6_count 183 = .ok (.getfield 10, 3) := by decide +kernel
theorem dX6_count_186 : decode cX6_count 186 = .ok (.invokevirtual 215, 3) := by decide +kernel
theorem dX6_count_189 : decode cX6_count 189 = .ok (.ireturn, 1) := by decide +kernel
theorem dX6_count_190 : decode cX6_count 190 = .ok (.aload_n 0, 1) := by decide +kernel
theorem dX6_count_191 : decode cX6_count 191 = .ok (.getfield 10, 3) := by decide +kernel
theorem dX6_count_194 : decode cX6_count 194 = .ok (.getfield 178, 3) := by decide +kernel
theorem dX6_count_197 : decode cX6_count 197 = .ok (.ifCond .ne 8, 3) := by decide +kernel
theorem dX6_count_200 : decode cX6_count 200 = .ok (.ldc 98, 2) := by decide +kernel
theorem dX6_count_202 : decode cX6_count 202 = .ok (.goto 10, 3) := by decide +kernel
theorem dX6_count_205 : decode cX6_count 205 = .ok (.aload_n 0, 1) := by decide +kernel
theorem dX6_count_206 : decode cX6_count 206 = .ok (.getfield 10, 3) := by decide +kernel
theorem dX6_count_209 : decode cX6_count 209 = .ok (.getfield 218, 3) := by decide +kernel
theorem dX6_count_212 : decode cX6_count 212 = .ok (.ireturn, 1) := by decide +kernel
theorem dX6_count_213 : decode cX6_count 213 = .ok (.aload_n 0, 1) := by decide +kernel
theorem dX6_count_214 : decode cX6_count 214 = .ok (.getfield 10, 3) := by decide +kernel
theorem dX6_count_217 : decode cX6_count 217 = .ok (.invokevirtual 221, 3) := by decide +kernel
theorem dX6_count_220 : decode cX6_count 220 = .ok (.ireturn, 1) := by decide +kernel
theorem dX6_count_221 : decode cX6_count 221 = .ok (.aload_n 0, 1) := by decide +kernel
theorem dX6_count_222 : decode cX6_count 222 = .ok (.getfield 10, 3) := by decide +kernel
theorem dX6_count_225 : decode cX6_count 225 = .ok (.getfield 152, 3) := by decide +kernel
theorem dX6_count_228 : decode cX6_count 228 = .ok (.getfield 224, 3) := by decide +kernel
theorem dX6_count_231 : decode cX6_count 231 = .ok (.ireturn, 1) := by decide +kernel
theorem dX6_count_232 : decode cX6_count 232 = .ok (.aload_n 0, 1) := by decide +kernel
theorem dX6_count_233 : decode cX6_count 233 = .ok (.getfield 10, 3) := by decide +kernel
theorem dX6_count_236 : decode cX6_count 236 = .ok (.getfield 152, 3) := by decide +kernel
theorem dX6_count_239 : decode cX6_count 239 = .ok (.getfield 227, 3) := by decide +kernel
theorem dX6_count_242 : decode cX6_count 242 = .ok (.ireturn, 1) := by decide +kernel
theorem dX6_count_243 : decode cX6_count 243 = .ok (.aload_n 0, 1) := by decide +kernel
theorem dX6_count_244 : decode cX6_count 244 = .ok (.getfield 10, 3) := by decide +kernel
theorem dX6_count_247 : decode cX6_count 247 = .ok (.getfield 152, 3) := by decide +kernel
theorem dX6_count_250 : decode cX6_count 250 = .ok (.invokevirtual 156, 3) := by decide +kernel
theorem dX6_count_253 : decode cX6_count 253 = .ok (.ireturn, 1) := by decide +kernel
theorem dX6_count_254 : decode cX6_count 254 = .ok (.aload_n 0, 1) := by decide +kernel
theorem dX6_count_255 : decode cX6_count 255 = .ok (.getfield 230, 3) := by decide +kernel
theorem dX6_count_258 : decode cX6_count 258 = .ok (.ireturn, 1) := by decide +kernel
theorem dX6_count_259 : decode cX6_count 259 = .ok (.aload_n 0, 1) := by decide +kernel
theorem dX6_count_260 : decode cX6_count 260 = .ok (.getfield 33, 3) := by decide +kernel
theorem dX6_count_263 : decode cX6_count 263 = .ok (.getfield 233, 3) := by decide +kernel
theorem dX6_count_266 : decode cX6_count 266 = .ok (.ireturn, 1) := by decide +kernel
theorem dX6_count_267 : decode cX6_count 267 = .ok (.aload_n 0, 1) := by decide +kernel
theorem dX6_count_268 : decode cX6_count 268 = .ok (.getfield 10, 3) := by decide +kernel
theorem dX6_count_271 : decode cX6_count 271 = .ok (.getfield 105, 3) := by decide +kernel
theorem dX6_count_274 : decode cX6_count 274 = .ok (.getfield 236, 3) := by decide +kernel
theorem dX6_count_277 : decode cX6_count 277 = .ok (.ireturn, 1) := by decide +kernel
theorem dX6_count_278 : decode cX6_count 278 = .ok (.aload_n 0, 1) := by decide +kernel
theorem dX6_count_279 : decode cX6_count 279 = .ok (.getfield 10, 3) := by decide +kernel
theorem dX6_count_282 : decode cX6_count 282 = .ok (.getfield 239, 3) := by decide +kernel
theorem dX6_count_285 : decode cX6_count 285 = .ok (.ireturn, 1) := by decide +kernel
theorem dX6_count_286 : decode cX6_count 286 = .ok (.ldc 69, 2) := by decide +kernel
theorem dX6_count_288 : decode cX6_count 288 = .ok (.ireturn, 1) := by decide +kernel
theorem dX6_settle_0 : decode cX6_settle 0 = .ok (.iload_n 1, 1) := by decide +kernel
theorem dX6_settle_1 : decode cX6_settle 1 = .ok (.invokestatic 279, 3) := by decide +kernel
theorem dX6_settle_4 : decode cX6_settle 4 = .ok (.ifCond .ne 18, 3) := by decide +kernel
theorem dX6_settle_7 : decode cX6_settle 7 = .ok (.aload_n 0, 1) := by decide +kernel
theorem dX6_settle_8 : decode cX6_settle 8 = .ok (.invokevirtual 288, 3) := by decide +kernel
theorem dX6_settle_11 : decode cX6_settle 11 = .ok (.aload_n 0, 1) := by decide +kernel
theorem dX6_settle_12 : decode cX6_settle 12 = .ok (.getfield 10, 3) := by decide +kernel
theorem dX6_settle_15 : decode cX6_settle 15 = .ok (.aload_n 0, 1) := by decide +kernel
theorem dX6_settle_16 : decode cX6_settle 16 = .ok (.getfield 16, 3) := by decide +kernel
theorem dX6_settle_19 : decode cX6_settle 19 = .ok (.invokevirtual 37, 3) := by decide +kernel
theorem dX6_settle_22 : decode cX6_settle 22 = .ok (.iload_n 1, 1) := by decide +kernel
theorem dX6_settle_23 : decode cX6_settle 23 = .ok (.ireturn, 1) := by decide +kernel
theorem dX6_remember_0 : decode cX6_remember 0 = .ok (.aload_n 0, 1) := by decide +kernel
theorem dX6_remember_1 : decode cX6_remember 1 = .ok (.getfield 230, 3) := by decide +kernel
theorem dX6_remember_4 : decode cX6_remember 4 = .ok (.iconst 4, 1) := by decide +kernel
theorem dX6_remember_5 : decode cX6_remember 5 = .ok (.if_icmp .ne 25, 3) := by decide +kernel
theorem dX6_remember_8 : decode cX6_remember 8 = .ok (.aload_n 0, 1) := by decide +kernel
theorem dX6_remember_9 : decode cX6_remember 9 = .ok (.aload_n 0, 1) := by decide +kernel
theorem dX6_remember_10 : decode cX6_remember 10 = .ok (.getfield 291, 3) := by decide +kernel
theorem dX6_remember_13 : decode cX6_remember 13 = .ok (.iconst 1, 1) := by decide +kernel
theorem dX6_remember_14 : decode cX6_remember 14 = .ok (.iadd, 1) := by decide +kernel
theorem dX6_remember_15 : decode cX6_remember 15 = .ok (.iconst 4, 1) := by decide +kernel
theorem dX6_remember_16 : decode cX6_remember 16 = .ok (.irem, 1) := by decide +kernel
theorem dX6_remember_17 : decode cX6_remember 17 = .ok (.putfield 291, 3) := by decide +kernel
theorem dX6_remember_20 : decode cX6_remember 20 = .ok (.aload_n 0, 1) := by decide +kernel
theorem dX6_remember_21 : decode cX6_remember 21 = .ok (.dup, 1) := by decide +kernel
theorem dX6_remember_22 : decode cX6_remember 22 = .ok (.getfield 230, 3) := by decide +kernel
theorem dX6_remember_25 : decode cX6_remember 25 = .ok (.iconst 1, 1) := by decide +kernel
theorem dX6_remember_26 : decode cX6_remember 26 = .ok (.isub, 1) := by decide +kernel
theorem dX6_remember_27 : decode cX6_remember 27 = .ok (.putfield 230, 3) := by decide +kernel
theorem dX6_remember_30 : decode cX6_remember 30 = .ok (.aload_n 0, 1) := by decide +kernel
theorem dX6_remember_31 : decode cX6_remember 31 = .ok (.aload_n 0, 1) := by decide +kernel
theorem dX6_remember_32 : decode cX6_remember 32 = .ok (.getfield 230, 3) := by decide +kernel
theorem dX6_remember_35 : decode cX6_remember 35 = .ok (.invokevirtual 243, 3) := by decide +kernel
theorem dX6_remember_38 : decode cX6_remember 38 = .ok (.astore_n 1, 1) := by decide +kernel
theorem dX6_remember_39 : decode cX6_remember 39 = .ok (.aload_n 1, 1) := by decide +kernel
theorem dX6_remember_40 : decode cX6_remember 40 = .ok (.ifnull 11, 3) := by decide +kernel
theorem dX6_remember_43 : decode cX6_remember 43 = .ok (.aload_n 1, 1) := by decide +kernel
theorem dX6_remember_44 : decode cX6_remember 44 = .ok (.aload_n 0, 1) := by decide +kernel
theorem dX6_remember_45 : decode cX6_remember 45 = .ok (.getfield 10, 3) := by decide +kernel
theorem dX6_remember_48 : decode cX6_remember 48 = .ok (.invokevirtual 37, 3) := by decide +kernel
theorem dX6_remember_51 : decode cX6_remember 51 = .ok (.aload_n 0, 1) := by decide +kernel
theorem dX6_remember_52 : decode cX6_remember 52 = .ok (.dup, 1) := by decide +kernel
theorem dX6_remember_53 : decode cX6_remember 53 = .ok (.getfield 230, 3) := by decide +kernel
theorem dX6_remember_56 : decode cX6_remember 56 = .ok (.iconst 1, 1) := by decide +kernel
theorem dX6_remember_57 : decode cX6_remember 57 = .ok (.iadd, 1) := by decide +kernel
theorem dX6_remember_58 : decode cX6_remember 58 = .ok (.putfield 230, 3) := by decide +kernel
theorem dX6_remember_61 : decode cX6_remember 61 = .ok (.return_, 1) := by decide +kernel
theorem dX6_pastState_0 : decode cX6_pastState 0 = .ok (.aload_n 0, 1) := by decide +kernel
theorem dX6_pastState_1 : decode cX6_pastState 1 = .ok (.getfield 291, 3) := by decide +kernel
theorem dX6_pastState_4 : decode cX6_pastState 4 = .ok (.iload_n 1, 1) := by decide +kernel
theorem dX6_pastState_5 : decode cX6_pastState 5 = .ok (.iadd, 1) := by decide +kernel
theorem dX6_pastState_6 : decode cX6_pastState 6 = .ok (.iconst 4, 1) := by decide +kernel
theorem dX6_pastState_7 : decode cX6_pastState 7 = .ok (.irem, 1) := by decide +kernel
theorem dX6_pastState_8 : decode cX6_pastState 8 = .ok (.istore_n 2, 1) := by decide +kernel
theorem dX6_pastState_9 : decode cX6_pastState 9 = .ok (.iload_n 2, 1) := by decide +kernel
theorem dX6_pastState_10 : decode cX6_pastState 10 = .ok (.ifCond .lt 21, 3) := by decide +kernel
theorem dX6_pastState_13 : decode cX6_pastState 13 = .ok (.iload_n 2, 1) := by decide +kernel
theorem dX6_pastState_14 : decode cX6_pastState 14 = .ok (.aload_n 0, 1) := by decide +kernel
theorem dX6_pastState_15 : decode cX6_pastState 15 = .ok (.getfield 19, 3) := by decide +kernel
theorem dX6_pastState_18 : decode cX6_pastState 18 = .ok (.arraylength, 1) := by decide +kernel
theorem dX6_pastState_19 : decode cX6_pastState 19 = .ok (.if_icmp .ge 12, 3) := by decide +kernel
theorem dX6_pastState_22 : decode cX6_pastState 22 = .ok (.aload_n 0, 1) := by decide +kernel
theorem dX6_pastState_23 : decode cX6_pastState 23 = .ok (.getfield 19, 3) := by decide +kernel
theorem dX6_pastState_26 : decode cX6_pastState 26 = .ok (.iload_n 2, 1) := by decide +kernel
theorem dX6_pastState_27 : decode cX6_pastState 27 = .ok (.aaload, 1) := by decide +kernel
theorem dX6_pastState_28 : decode cX6_pastState 28 = .ok (.goto 4, 3) := by decide +kernel
theorem dX6_pastState_31 : decode cX6_pastState 31 = .ok (.aconst_null, 1) := by decide +kernel
theorem dX6_pastState_32 : decode cX6_pastState 32 = .ok (.areturn, 1) := by decide +kernel
theorem dX6_isError_0 : decode cX6_isError 0 = .ok (.iload_n 0, 1) := by decide +kernel
theorem dX6_isError_1 : decode cX6_isError 1 = .ok (.ifCond .ge 7, 3) := by decide +kernel
theorem dX6_isError_4 : decode cX6_isError 4 = .ok (.iconst 1, 1) := by decide +kernel
theorem dX6_isError_5 : decode cX6_isError 5 = .ok (.goto 4, 3) := by decide +kernel
theorem dX6_isError_8 : decode cX6_isError 8 = .ok (.iconst 0, 1) := by decide +kernel
theorem dX6_isError_9 : decode cX6_isError 9 = .ok (.ireturn, 1) := by decide +kernel
theorem dX6_isIn_0 : decode cX6_isIn 0 = .ok (.iload_n 0, 1) := by decide +kernel
theorem dX6_isIn_1 : decode cX6_isIn 1 = .ok (.iload_n 1, 1) := by decide +kernel
theorem dX6_isIn_2 : decode cX6_isIn 2 = .ok (.if_icmp .lt 12, 3) := by decide +kernel
theorem dX6_isIn_5 : decode cX6_isIn 5 = .ok (.iload_n 0, 1) := by decide +kernel
theorem dX6_isIn_6 : decode cX6_isIn 6 = .ok (.iload_n 2, 1) := by decide +kernel
theorem dX6_isIn_7 : decode cX6_isIn 7 = .ok (.if_icmp .gt 7, 3) := by decide +kernel
theorem dX6_isIn_10 : decode cX6_isIn 10 = .ok (.iconst 1, 1) := by decide +kernel
theorem dX6_isIn_11 : decode cX6_isIn 11 = .ok (.goto 4, 3) := by decide +kernel
theorem dX6_isIn_14 : decode cX6_isIn 14 = .ok (.iconst 0, 1) := by decide +kernel
theorem dX6_isIn_15 : decode cX6_isIn 15 = .ok (.ireturn, 1) := by decide +kernel
theorem dX6_isMember_0 : decode cX6_isMember 0 = .ok (.iload_n 0, 1) := by decide +kernel
theorem dX6_isMember_1 : decode cX6_isMember 1 = .ok (.iload_n 1, 1) := by decide +kernel
theorem dX6_isMember_2 : decode cX6_isMember 2 = .ok (.ishr, 1) := by decide +kernel
theorem dX6_isMember_3 : decode cX6_isMember 3 = .ok (.iconst 1, 1) := by decide +kernel
theorem dX6_isMember_4 : decode cX6_isMember 4 = .ok (.iand, 1) := by decide +kernel
theorem dX6_isMember_5 : decode cX6_isMember 5 = .ok (.iconst 1, 1) := by decide +kernel
theorem dX6_isMember_6 : decode cX6_isMember 6 = .ok (.if_icmp .ne 7, 3) := by decide +kernel
theorem dX6_isMember_9 : decode cX6_isMember 9 = .ok (.iconst 1, 1) := by decide +kernel
theorem dX6_isMember_10 : decode cX6_isMember 10 = .ok (.goto 4, 3) := by decide +kernel
theorem dX6_isMember_13 : decode cX6_isMember 13 = .ok (.iconst 0, 1) := by decide +kernel
theorem dX6_isMember_14 : decode cX6_isMember 14 = .ok (.ireturn, 1) := by decide +kernel
