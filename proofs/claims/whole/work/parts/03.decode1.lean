theorem dX4_worth_138 : decode cX4_worth 138 = .ok (.iadd, 1) := by decide +kernel
theorem dX4_worth_139 : decode cX4_worth 139 = .ok (.istore 7, 2) := by decide +kernel
theorem dX4_worth_141 : decode cX4_worth 141 = .ok (.iinc 8 1, 3) := by decide +kernel
theorem dX4_worth_144 : decode cX4_worth 144 = .ok (.goto (-67), 3) := by decide +kernel
theorem dX4_worth_147 : decode cX4_worth 147 = .ok (.iload 7, 2) := by decide +kernel
theorem dX4_worth_149 : decode cX4_worth 149 = .ok (.iload 6, 2) := by decide +kernel
theorem dX4_worth_151 : decode cX4_worth 151 = .ok (.iconst 1, 1) := by decide +kernel
theorem dX4_worth_152 : decode cX4_worth 152 = .ok (.iadd, 1) := by decide +kernel
theorem dX4_worth_153 : decode cX4_worth 153 = .ok (.invokestatic 189, 3) := by decide +kernel
theorem dX4_worth_156 : decode cX4_worth 156 = .ok (.iload_n 3, 1) := by decide +kernel
theorem dX4_worth_157 : decode cX4_worth 157 = .ok (.invokestatic 180, 3) := by decide +kernel
theorem dX4_worth_160 : decode cX4_worth 160 = .ok (.ireturn, 1) := by decide +kernel
theorem dX4_hammers_0 : decode cX4_hammers 0 = .ok (.iload_n 1, 1) := by decide +kernel
theorem dX4_hammers_1 : decode cX4_hammers 1 = .ok (.invokestatic 162, 3) := by decide +kernel
theorem dX4_hammers_4 : decode cX4_hammers 4 = .ok (.ifCond .eq 21, 3) := by decide +kernel
theorem dX4_hammers_7 : decode cX4_hammers 7 = .ok (.iload_n 2, 1) := by decide +kernel
theorem dX4_hammers_8 : decode cX4_hammers 8 = .ok (.iconst 1, 1) := by decide +kernel
theorem dX4_hammers_9 : decode cX4_hammers 9 = .ok (.if_icmp .lt 16, 3) := by decide +kernel
theorem dX4_hammers_12 : decode cX4_hammers 12 = .ok (.iload_n 2, 1) := by decide +kernel
theorem dX4_hammers_13 : decode cX4_hammers 13 = .ok (.bipush 10, 2) := by decide +kernel
theorem dX4_hammers_15 : decode cX4_hammers 15 = .ok (.if_icmp .gt 10, 3) := by decide +kernel
theorem dX4_hammers_18 : decode cX4_hammers 18 = .ok (.iload_n 3, 1) := by decide +kernel
theorem dX4_hammers_19 : decode cX4_hammers 19 = .ok (.invokestatic 192, 3) := by decide +kernel
theorem dX4_hammers_22 : decode cX4_hammers 22 = .ok (.ifCond .ne 6, 3) := by decide +kernel
theorem dX4_hammers_25 : decode cX4_hammers 25 = .ok (.bipush (-2), 2) := by decide +kernel
theorem dX4_hammers_27 : decode cX4_hammers 27 = .ok (.ireturn, 1) := by decide +kernel
theorem dX4_hammers_28 : decode cX4_hammers 28 = .ok (.aload_n 0, 1) := by decide +kernel
theorem dX4_hammers_29 : decode cX4_hammers 29 = .ok (.iload_n 1, 1) := by decide +kernel
theorem dX4_hammers_30 : decode cX4_hammers 30 = .ok (.invokevirtual 195, 3) := by decide +kernel
theorem dX4_hammers_33 : decode cX4_hammers 33 = .ok (.aload_n 0, 1) := by decide +kernel
theorem dX4_hammers_34 : decode cX4_hammers 34 = .ok (.iload_n 2, 1) := by decide +kernel
theorem dX4_hammers_35 : decode cX4_hammers 35 = .ok (.invokevirtual 198, 3) := by decide +kernel
theorem dX4_hammers_38 : decode cX4_hammers 38 = .ok (.istore 4, 2) := by decide +kernel
theorem dX4_hammers_40 : decode cX4_hammers 40 = .ok (.iload 4, 2) := by decide +kernel
theorem dX4_hammers_42 : decode cX4_hammers 42 = .ok (.bipush (-9), 2) := by decide +kernel
theorem dX4_hammers_44 : decode cX4_hammers 44 = .ok (.if_icmp .ne 6, 3) := by decide +kernel
theorem dX4_hammers_47 : decode cX4_hammers 47 = .ok (.bipush (-9), 2) := by decide +kernel
theorem dX4_hammers_49 : decode cX4_hammers 49 = .ok (.ireturn, 1) := by decide +kernel
theorem dX4_hammers_50 : decode cX4_hammers 50 = .ok (.iload_n 3, 1) := by decide +kernel
theorem dX4_hammers_51 : decode cX4_hammers 51 = .ok (.ifCond .ne 11, 3) := by decide +kernel
theorem dX4_hammers_54 : decode cX4_hammers 54 = .ok (.iload 4, 2) := by decide +kernel
theorem dX4_hammers_56 : decode cX4_hammers 56 = .ok (.bipush 100, 2) := by decide +kernel
theorem dX4_hammers_58 : decode cX4_hammers 58 = .ok (.idiv, 1) := by decide +kernel
theorem dX4_hammers_59 : decode cX4_hammers 59 = .ok (.goto 8, 3) := by decide +kernel
theorem dX4_hammers_62 : decode cX4_hammers 62 = .ok (.iload 4, 2) := by decide +kernel
theorem dX4_hammers_64 : decode cX4_hammers 64 = .ok (.bipush 100, 2) := by decide +kernel
theorem dX4_hammers_66 : decode cX4_hammers 66 = .ok (.irem, 1) := by decide +kernel
theorem dX4_hammers_67 : decode cX4_hammers 67 = .ok (.ireturn, 1) := by decide +kernel
theorem dX4_bestHours_0 : decode cX4_bestHours 0 = .ok (.iload_n 1, 1) := by decide +kernel
theorem dX4_bestHours_1 : decode cX4_bestHours 1 = .ok (.iconst 1, 1) := by decide +kernel
theorem dX4_bestHours_2 : decode cX4_bestHours 2 = .ok (.if_icmp .lt 16, 3) := by decide +kernel
theorem dX4_bestHours_5 : decode cX4_bestHours 5 = .ok (.iload_n 1, 1) := by decide +kernel
theorem dX4_bestHours_6 : decode cX4_bestHours 6 = .ok (.bipush 10, 2) := by decide +kernel
theorem dX4_bestHours_8 : decode cX4_bestHours 8 = .ok (.if_icmp .gt 10, 3) := by decide +kernel
theorem dX4_bestHours_11 : decode cX4_bestHours 11 = .ok (.iload_n 2, 1) := by decide +kernel
theorem dX4_bestHours_12 : decode cX4_bestHours 12 = .ok (.invokestatic 192, 3) := by decide +kernel
theorem dX4_bestHours_15 : decode cX4_bestHours 15 = .ok (.ifCond .ne 6, 3) := by decide +kernel
theorem dX4_bestHours_18 : decode cX4_bestHours 18 = .ok (.bipush (-2), 2) := by decide +kernel
theorem dX4_bestHours_20 : decode cX4_bestHours 20 = .ok (.ireturn, 1) := by decide +kernel
theorem dX4_bestHours_21 : decode cX4_bestHours 21 = .ok (.iconst 0, 1) := by decide +kernel
theorem dX4_bestHours_22 : decode cX4_bestHours 22 = .ok (.istore_n 3, 1) := by decide +kernel
theorem dX4_bestHours_23 : decode cX4_bestHours 23 = .ok (.iload_n 3, 1) := by decide +kernel
theorem dX4_bestHours_24 : decode cX4_bestHours 24 = .ok (.bipush 10, 2) := by decide +kernel
theorem dX4_bestHours_26 : decode cX4_bestHours 26 = .ok (.if_icmp .ge 27, 3) := by decide +kernel
theorem dX4_bestHours_29 : decode cX4_bestHours 29 = .ok (.aload_n 0, 1) := by decide +kernel
theorem dX4_bestHours_30 : decode cX4_bestHours 30 = .ok (.iload_n 3, 1) := by decide +kernel
theorem dX4_bestHours_31 : decode cX4_bestHours 31 = .ok (.invokevirtual 165, 3) := by decide +kernel
theorem dX4_bestHours_34 : decode cX4_bestHours 34 = .ok (.aload_n 0, 1) := by decide +kernel
theorem dX4_bestHours_35 : decode cX4_bestHours 35 = .ok (.getfield 58, 3) := by decide +kernel
theorem dX4_bestHours_38 : decode cX4_bestHours 38 = .ok (.iload_n 3, 1) := by decide +kernel
theorem dX4_bestHours_39 : decode cX4_bestHours 39 = .ok (.aload_n 0, 1) := by decide +kernel
theorem dX4_bestHours_40 : decode cX4_bestHours 40 = .ok (.sipush 255, 3) := by decide +kernel
theorem dX4_bestHours_43 : decode cX4_bestHours 43 = .ok (.invokevirtual 177, 3) := by decide +kernel
theorem dX4_bestHours_46 : decode cX4_bestHours 46 = .ok (.iastore, 1) := by decide +kernel
theorem dX4_bestHours_47 : decode cX4_bestHours 47 = .ok (.iinc 3 1, 3) := by decide +kernel
theorem dX4_bestHours_50 : decode cX4_bestHours 50 = .ok (.goto (-27), 3) := by decide +kernel
theorem dX4_bestHours_53 : decode cX4_bestHours 53 = .ok (.iconst 0, 1) := by decide +kernel
theorem dX4_bestHours_54 : decode cX4_bestHours 54 = .ok (.istore_n 3, 1) := by decide +kernel
theorem dX4_bestHours_55 : decode cX4_bestHours 55 = .ok (.iconst (-1), 1) := by decide +kernel
theorem dX4_bestHours_56 : decode cX4_bestHours 56 = .ok (.istore 4, 2) := by decide +kernel
theorem dX4_bestHours_58 : decode cX4_bestHours 58 = .ok (.iconst 0, 1) := by decide +kernel
theorem dX4_bestHours_59 : decode cX4_bestHours 59 = .ok (.istore 5, 2) := by decide +kernel
theorem dX4_bestHours_61 : decode cX4_bestHours 61 = .ok (.iload 5, 2) := by decide +kernel
theorem dX4_bestHours_63 : decode cX4_bestHours 63 = .ok (.bipush 10, 2) := by decide +kernel
theorem dX4_bestHours_65 : decode cX4_bestHours 65 = .ok (.if_icmp .ge 59, 3) := by decide +kernel
theorem dX4_bestHours_68 : decode cX4_bestHours 68 = .ok (.iconst 0, 1) := by decide +kernel
theorem dX4_bestHours_69 : decode cX4_bestHours 69 = .ok (.istore 6, 2) := by decide +kernel
theorem dX4_bestHours_71 : decode cX4_bestHours 71 = .ok (.iconst 0, 1) := by decide +kernel
theorem dX4_bestHours_72 : decode cX4_bestHours 72 = .ok (.istore 7, 2) := by decide +kernel
theorem dX4_bestHours_74 : decode cX4_bestHours 74 = .ok (.iload 7, 2) := by decide +kernel
theorem dX4_bestHours_76 : decode cX4_bestHours 76 = .ok (.iload_n 1, 1) := by decide +kernel
theorem dX4_bestHours_77 : decode cX4_bestHours 77 = .ok (.if_icmp .ge 27, 3) := by decide +kernel
theorem dX4_bestHours_80 : decode cX4_bestHours 80 = .ok (.iload 6, 2) := by decide +kernel
theorem dX4_bestHours_82 : decode cX4_bestHours 82 = .ok (.aload_n 0, 1) := by decide +kernel
theorem dX4_bestHours_83 : decode cX4_bestHours 83 = .ok (.getfield 58, 3) := by decide +kernel
theorem dX4_bestHours_86 : decode cX4_bestHours 86 = .ok (.iload 5, 2) := by decide +kernel
theorem dX4_bestHours_88 : decode cX4_bestHours 88 = .ok (.iload 7, 2) := by decide +kernel
theorem dX4_bestHours_90 : decode cX4_bestHours 90 = .ok (.iadd, 1) := by decide +kernel
theorem dX4_bestHours_91 : decode cX4_bestHours 91 = .ok (.bipush 10, 2) := by decide +kernel
theorem dX4_bestHours_93 : decode cX4_bestHours 93 = .ok (.irem, 1) := by decide +kernel
theorem dX4_bestHours_94 : decode cX4_bestHours 94 = .ok (.iaload, 1) := by decide +kernel
theorem dX4_bestHours_95 : decode cX4_bestHours 95 = .ok (.iadd, 1) := by decide +kernel
theorem dX4_bestHours_96 : decode cX4_bestHours 96 = .ok (.istore 6, 2) := by decide +kernel
theorem dX4_bestHours_98 : decode cX4_bestHours 98 = .ok (.iinc 7 1, 3) := by decide +kernel
theorem dX4_bestHours_101 : decode cX4_bestHours 101 = .ok (.goto (-27), 3) := by decide +kernel
theorem dX4_bestHours_104 : decode cX4_bestHours 104 = .ok (.iload 6, 2) := by decide +kernel
theorem dX4_bestHours_106 : decode cX4_bestHours 106 = .ok (.iload 4, 2) := by decide +kernel
theorem dX4_bestHours_108 : decode cX4_bestHours 108 = .ok (.if_icmp .le 10, 3) := by decide +kernel
theorem dX4_bestHours_111 : decode cX4_bestHours 111 = .ok (.iload 6, 2) := by decide +kernel
theorem dX4_bestHours_113 : decode cX4_bestHours 113 = .ok (.istore 4, 2) := by decide +kernel
theorem dX4_bestHours_115 : decode cX4_bestHours 115 = .ok (.iload 5, 2) := by decide +kernel
theorem dX4_bestHours_117 : decode cX4_bestHours 117 = .ok (.istore_n 3, 1) := by decide +kernel
theorem dX4_bestHours_118 : decode cX4_bestHours 118 = .ok (.iinc 5 1, 3) := by decide +kernel
theorem dX4_bestHours_121 : decode cX4_bestHours 121 = .ok (.goto (-60), 3) := by decide +kernel
theorem dX4_bestHours_124 : decode cX4_bestHours 124 = .ok (.iload_n 2, 1) := by decide +kernel
theorem dX4_bestHours_125 : decode cX4_bestHours 125 = .ok (.ifCond .ne 7, 3) := by decide +kernel
theorem dX4_bestHours_128 : decode cX4_bestHours 128 = .ok (.iload_n 3, 1) := by decide +kernel
theorem dX4_bestHours_129 : decode cX4_bestHours 129 = .ok (.goto 5, 3) := by decide +kernel
theorem dX4_bestHours_132 : decode cX4_bestHours 132 = .ok (.iload 4, 2) := by decide +kernel
theorem dX4_bestHours_134 : decode cX4_bestHours 134 = .ok (.ireturn, 1) := by decide +kernel
theorem dX4_grounded_0 : decode cX4_grounded 0 = .ok (.aload_n 0, 1) := by decide +kernel
theorem dX4_grounded_1 : decode cX4_grounded 1 = .ok (.getfield 19, 3) := by decide +kernel
theorem dX4_grounded_4 : decode cX4_grounded 4 = .ok (.iload_n 1, 1) := by decide +kernel
theorem dX4_grounded_5 : decode cX4_grounded 5 = .ok (.invokevirtual 118, 3) := by decide +kernel
theorem dX4_grounded_8 : decode cX4_grounded 8 = .ok (.ifCond .ne 5, 3) := by decide +kernel
theorem dX4_grounded_11 : decode cX4_grounded 11 = .ok (.iconst (-1), 1) := by decide +kernel
theorem dX4_grounded_12 : decode cX4_grounded 12 = .ok (.ireturn, 1) := by decide +kernel
theorem dX4_grounded_13 : decode cX4_grounded 13 = .ok (.iload_n 2, 1) := by decide +kernel
theorem dX4_grounded_14 : decode cX4_grounded 14 = .ok (.invokestatic 140, 3) := by decide +kernel
theorem dX4_grounded_17 : decode cX4_grounded 17 = .ok (.ifCond .eq 31, 3) := by decide +kernel
theorem dX4_grounded_20 : decode cX4_grounded 20 = .ok (.iload_n 3, 1) := by decide +kernel
theorem dX4_grounded_21 : decode cX4_grounded 21 = .ok (.invokestatic 140, 3) := by decide +kernel
theorem dX4_grounded_24 : decode cX4_grounded 24 = .ok (.ifCond .eq 24, 3) := by decide +kernel
theorem dX4_grounded_27 : decode cX4_grounded 27 = .ok (.iload 4, 2) := by decide +kernel
theorem dX4_grounded_29 : decode cX4_grounded 29 = .ok (.invokestatic 162, 3) := by decide +kernel
theorem dX4_grounded_32 : decode cX4_grounded 32 = .ok (.ifCond .eq 16, 3) := by decide +kernel
theorem dX4_grounded_35 : decode cX4_grounded 35 = .ok (.iload 5, 2) := by decide +kernel
theorem dX4_grounded_37 : decode cX4_grounded 37 = .ok (.iconst 1, 1) := by decide +kernel
theorem dX4_grounded_38 : decode cX4_grounded 38 = .ok (.if_icmp .lt 10, 3) := by decide +kernel
theorem dX4_grounded_41 : decode cX4_grounded 41 = .ok (.iload 5, 2) := by decide +kernel
theorem dX4_grounded_43 : decode cX4_grounded 43 = .ok (.bipush 9, 2) := by decide +kernel
theorem dX4_grounded_45 : decode cX4_grounded 45 = .ok (.if_icmp .le 6, 3) := by decide +kernel
theorem dX4_grounded_48 : decode cX4_grounded 48 = .ok (.bipush (-2), 2) := by decide +kernel
theorem dX4_grounded_50 : decode cX4_grounded 50 = .ok (.ireturn, 1) := by decide +kernel
theorem dX4_grounded_51 : decode cX4_grounded 51 = .ok (.iconst 1, 1) := by decide +kernel
theorem dX4_grounded_52 : decode cX4_grounded 52 = .ok (.iload_n 1, 1) := by decide +kernel
theorem dX4_grounded_53 : decode cX4_grounded 53 = .ok (.ishl, 1) := by decide +kernel
theorem dX4_grounded_54 : decode cX4_grounded 54 = .ok (.istore 6, 2) := by decide +kernel
theorem dX4_grounded_56 : decode cX4_grounded 56 = .ok (.aload_n 0, 1) := by decide +kernel
theorem dX4_grounded_57 : decode cX4_grounded 57 = .ok (.iload_n 2, 1) := by decide +kernel
theorem dX4_grounded_58 : decode cX4_grounded 58 = .ok (.iload 4, 2) := by decide +kernel
theorem dX4_grounded_60 : decode cX4_grounded 60 = .ok (.invokevirtual 146, 3) := by decide +kernel
theorem dX4_grounded_63 : decode cX4_grounded 63 = .ok (.istore 7, 2) := by decide +kernel
theorem dX4_grounded_65 : decode cX4_grounded 65 = .ok (.iload 7, 2) := by decide +kernel
theorem dX4_grounded_67 : decode cX4_grounded 67 = .ok (.iload 6, 2) := by decide +kernel
theorem dX4_grounded_69 : decode cX4_grounded 69 = .ok (.iand, 1) := by decide +kernel
theorem dX4_grounded_70 : decode cX4_grounded 70 = .ok (.ifCond .ne 18, 3) := by decide +kernel
theorem dX4_grounded_73 : decode cX4_grounded 73 = .ok (.iload 7, 2) := by decide +kernel
theorem dX4_grounded_75 : decode cX4_grounded 75 = .ok (.iload 6, 2) := by decide +kernel
theorem dX4_grounded_77 : decode cX4_grounded 77 = .ok (.ior, 1) := by decide +kernel
theorem dX4_grounded_78 : decode cX4_grounded 78 = .ok (.aload_n 0, 1) := by decide +kernel
theorem dX4_grounded_79 : decode cX4_grounded 79 = .ok (.iload_n 3, 1) := by decide +kernel
theorem dX4_grounded_80 : decode cX4_grounded 80 = .ok (.iload 4, 2) := by decide +kernel
theorem dX4_grounded_82 : decode cX4_grounded 82 = .ok (.invokevirtual 146, 3) := by decide +kernel
theorem dX4_grounded_85 : decode cX4_grounded 85 = .ok (.if_icmp .eq 5, 3) := by decide +kernel
theorem dX4_grounded_88 : decode cX4_grounded 88 = .ok (.iconst 0, 1) := by decide +kernel
theorem dX4_grounded_89 : decode cX4_grounded 89 = .ok (.ireturn, 1) := by decide +kernel
theorem dX4_grounded_90 : decode cX4_grounded 90 = .ok (.iconst 0, 1) := by decide +kernel
theorem dX4_grounded_91 : decode cX4_grounded 91 = .ok (.istore 8, 2) := by decide +kernel
theorem dX4_grounded_93 : decode cX4_grounded 93 = .ok (.iconst 0, 1) := by decide +kernel
theorem dX4_grounded_94 : decode cX4_grounded 94 = .ok (.istore 9, 2) := by decide +kernel
theorem dX4_grounded_96 : decode cX4_grounded 96 = .ok (.iload 9, 2) := by decide +kernel
theorem dX4_grounded_98 : decode cX4_grounded 98 = .ok (.bipush 10, 2) := by decide +kernel
theorem dX4_grounded_100 : decode cX4_grounded 100 = .ok (.if_icmp .ge 44, 3) := by decide +kernel
theorem dX4_grounded_103 : decode cX4_grounded 103 = .ok (.iconst 0, 1) := by decide +kernel
theorem dX4_grounded_104 : decode cX4_grounded 104 = .ok (.iload 5, 2) := by decide +kernel
theorem dX4_grounded_106 : decode cX4_grounded 106 = .ok (.iload 9, 2) := by decide +kernel
theorem dX4_grounded_108 : decode cX4_grounded 108 = .ok (.iload_n 2, 1) := by decide +kernel
theorem dX4_grounded_109 : decode cX4_grounded 109 = .ok (.aload_n 0, 1) := by decide +kernel
theorem dX4_grounded_110 : decode cX4_grounded 110 = .ok (.getfield 26, 3) := by decide +kernel
theorem dX4_grounded_113 : decode cX4_grounded 113 = .ok (.getfield 96, 3) := by decide +kernel
theorem dX4_grounded_116 : decode cX4_grounded 116 = .ok (.aload_n 0, 1) := by decide +kernel
theorem dX4_grounded_117 : decode cX4_grounded 117 = .ok (.getfield 26, 3) := by decide +kernel
theorem dX4_grounded_120 : decode cX4_grounded 120 = .ok (.getfield 99, 3) := by decide +kernel
theorem dX4_grounded_123 : decode cX4_grounded 123 = .ok (.invokestatic 201, 3) := by decide +kernel
theorem dX4_grounded_126 : decode cX4_grounded 126 = .ok (.ifCond .eq 12, 3) := by decide +kernel
theorem dX4_grounded_129 : decode cX4_grounded 129 = .ok (.iload 8, 2) := by decide +kernel
theorem dX4_grounded_131 : decode cX4_grounded 131 = .ok (.iconst 1, 1) := by decide +kernel
theorem dX4_grounded_132 : decode cX4_grounded 132 = .ok (.iload 9, 2) := by decide +kernel
theorem dX4_grounded_134 : decode cX4_grounded 134 = .ok (.ishl, 1) := by decide +kernel
theorem dX4_grounded_135 : decode cX4_grounded 135 = .ok (.ior, 1) := by decide +kernel
theorem dX4_grounded_136 : decode cX4_grounded 136 = .ok (.istore 8, 2) := by decide +kernel
theorem dX4_grounded_138 : decode cX4_grounded 138 = .ok (.iinc 9 1, 3) := by decide +kernel
theorem dX4_grounded_141 : decode cX4_grounded 141 = .ok (.goto (-45), 3) := by decide +kernel
theorem dX4_grounded_144 : decode cX4_grounded 144 = .ok (.iload 8, 2) := by decide +kernel
theorem dX4_grounded_146 : decode cX4_grounded 146 = .ok (.ireturn, 1) := by decide +kernel
theorem dX4_see_0 : decode cX4_see 0 = .ok (.aload_n 0, 1) := by decide +kernel
theorem dX4_see_1 : decode cX4_see 1 = .ok (.getfield 19, 3) := by decide +kernel
theorem dX4_see_4 : decode cX4_see 4 = .ok (.iload_n 1, 1) := by decide +kernel
theorem dX4_see_5 : decode cX4_see 5 = .ok (.invokevirtual 118, 3) := by decide +kernel
theorem dX4_see_8 : decode cX4_see 8 = .ok (.ifCond .ne 5, 3) := by decide +kernel
theorem dX4_see_11 : decode cX4_see 11 = .ok (.iconst (-1), 1) := by decide +kernel
theorem dX4_see_12 : decode cX4_see 12 = .ok (.ireturn, 1) := by decide +kernel
theorem dX4_see_13 : decode cX4_see 13 = .ok (.iload_n 2, 1) := by decide +kernel
theorem dX4_see_14 : decode cX4_see 14 = .ok (.invokestatic 140, 3) := by decide +kernel
theorem dX4_see_17 : decode cX4_see 17 = .ok (.ifCond .eq 10, 3) := by decide +kernel
theorem dX4_see_20 : decode cX4_see 20 = .ok (.iload_n 3, 1) := by decide +kernel
theorem dX4_see_21 : decode cX4_see 21 = .ok (.invokestatic 162, 3) := by decide +kernel
theorem dX4_see_24 : decode cX4_see 24 = .ok (.ifCond .ne 6, 3) := by decide +kernel
theorem dX4_see_27 : decode cX4_see 27 = .ok (.bipush (-2), 2) := by decide +kernel
theorem dX4_see_29 : decode cX4_see 29 = .ok (.ireturn, 1) := by decide +kernel
theorem dX4_see_30 : decode cX4_see 30 = .ok (.aload_n 0, 1) := by decide +kernel
theorem dX4_see_31 : decode cX4_see 31 = .ok (.getfield 33, 3) := by decide +kernel
theorem dX4_see_34 : decode cX4_see 34 = .ok (.getfield 117, 3) := by decide +kernel
theorem dX4_see_37 : decode cX4_see 37 = .ok (.bipush 6, 2) := by decide +kernel
theorem dX4_see_39 : decode cX4_see 39 = .ok (.if_icmp .lt 6, 3) := by decide +kernel
theorem dX4_see_42 : decode cX4_see 42 = .ok (.bipush (-4), 2) := by decide +kernel
theorem dX4_see_44 : decode cX4_see 44 = .ok (.ireturn, 1) := by decide +kernel
theorem dX4_see_45 : decode cX4_see 45 = .ok (.aload_n 0, 1) := by decide +kernel
theorem dX4_see_46 : decode cX4_see 46 = .ok (.getfield 33, 3) := by decide +kernel
theorem dX4_see_49 : decode cX4_see 49 = .ok (.iload_n 1, 1) := by decide +kernel
theorem dX4_see_50 : decode cX4_see 50 = .ok (.iload_n 2, 1) := by decide +kernel
theorem dX4_see_51 : decode cX4_see 51 = .ok (.iload_n 3, 1) := by decide +kernel
theorem dX4_see_52 : decode cX4_see 52 = .ok (.iload 4, 2) := by decide +kernel
theorem dX4_see_54 : decode cX4_see 54 = .ok (.invokevirtual 205, 3) := by decide +kernel
theorem dX4_see_57 : decode cX4_see 57 = .ok (.aload_n 0, 1) := by decide +kernel
theorem dX4_see_58 : decode cX4_see 58 = .ok (.getfield 33, 3) := by decide +kernel
theorem dX4_see_61 : decode cX4_see 61 = .ok (.getfield 117, 3) := by decide +kernel
theorem dX4_see_64 : decode cX4_see 64 = .ok (.ireturn, 1) := by decide +kernel
theorem dX4_unsee_0 : decode cX4_unsee 0 = .ok (.aload_n 0, 1) := by decide +kernel
theorem dX4_unsee_1 : decode cX4_unsee 1 = .ok (.getfield 33, 3) := by decide +kernel
theorem dX4_unsee_4 : decode cX4_unsee 4 = .ok (.getfield 117, 3) := by decide +kernel
theorem dX4_unsee_7 : decode cX4_unsee 7 = .ok (.istore_n 1, 1) := by decide +kernel
theorem dX4_unsee_8 : decode cX4_unsee 8 = .ok (.aload_n 0, 1) := by decide +kernel
theorem dX4_unsee_9 : decode cX4_unsee 9 = .ok (.getfield 33, 3) := by decide +kernel
theorem dX4_unsee_12 : decode cX4_unsee 12 = .ok (.iconst 0, 1) := by decide +kernel
theorem dX4_unsee_13 : decode cX4_unsee 13 = .ok (.putfield 117, 3) := by decide +kernel
theorem dX4_unsee_16 : decode cX4_unsee 16 = .ok (.iload_n 1, 1) := by decide +kernel
theorem dX4_unsee_17 : decode cX4_unsee 17 = .ok (.ireturn, 1) := by decide +kernel
theorem dX4_weather_0 : decode cX4_weather 0 = .ok (.iload_n 1, 1) := by decide +kernel
theorem dX4_weather_1 : decode cX4_weather 1 = .ok (.invokestatic 192, 3) := by decide +kernel
theorem dX4_weather_4 : decode cX4_weather 4 = .ok (.ifCond .ne 6, 3) := by decide +kernel
theorem dX4_weather_7 : decode cX4_weather 7 = .ok (.bipush (-2), 2) := by decide +kernel
theorem dX4_weather_9 : decode cX4_weather 9 = .ok (.ireturn, 1) := by decide +kernel
theorem dX4_weather_10 : decode cX4_weather 10 = .ok (.iconst 0, 1) := by decide +kernel
theorem dX4_weather_11 : decode cX4_weather 11 = .ok (.istore_n 2, 1) := by decide +kernel
theorem dX4_weather_12 : decode cX4_weather 12 = .ok (.bipush (-9), 2) := by decide +kernel
theorem dX4_weather_14 : decode cX4_weather 14 = .ok (.istore_n 3, 1) := by decide +kernel
theorem dX4_weather_15 : decode cX4_weather 15 = .ok (.iconst 0, 1) := by decide +kernel
theorem dX4_weather_16 : decode cX4_weather 16 = .ok (.istore 4, 2) := by decide +kernel
theorem dX4_weather_18 : decode cX4_weather 18 = .ok (.iload 4, 2) := by decide +kernel
theorem dX4_weather_20 : decode cX4_weather 20 = .ok (.iconst 4, 1) := by decide +kernel
theorem dX4_weather_21 : decode cX4_weather 21 = .ok (.if_icmp .gt 55, 3) := by decide +kernel
theorem dX4_weather_24 : decode cX4_weather 24 = .ok (.iconst 0, 1) := by decide +kernel
theorem dX4_weather_25 : decode cX4_weather 25 = .ok (.istore 5, 2) := by decide +kernel
theorem dX4_weather_27 : decode cX4_weather 27 = .ok (.iload 5, 2) := by decide +kernel
theorem dX4_weather_29 : decode cX4_weather 29 = .ok (.iconst 2, 1) := by decide +kernel
theorem dX4_weather_30 : decode cX4_weather 30 = .ok (.if_icmp .gt 40, 3) := by decide +kernel
theorem dX4_weather_33 : decode cX4_weather 33 = .ok (.aload_n 0, 1) := by decide +kernel
theorem dX4_weather_34 : decode cX4_weather 34 = .ok (.iload 4, 2) := by decide +kernel
theorem dX4_weather_36 : decode cX4_weather 36 = .ok (.iload 5, 2) := by decide +kernel
theorem dX4_weather_38 : decode cX4_weather 38 = .ok (.invokevirtual 208, 3) := by decide +kernel
theorem dX4_weather_41 : decode cX4_weather 41 = .ok (.ifCond .eq 23, 3) := by decide +kernel
theorem dX4_weather_44 : decode cX4_weather 44 = .ok (.iload_n 2, 1) := by decide +kernel
theorem dX4_weather_45 : decode cX4_weather 45 = .ok (.ifCond .ne 14, 3) := by decide +kernel
theorem dX4_weather_48 : decode cX4_weather 48 = .ok (.bipush 10, 2) := by decide +kernel
theorem dX4_weather_50 : decode cX4_weather 50 = .ok (.iload 4, 2) := by decide +kernel
theorem dX4_weather_52 : decode cX4_weather 52 = .ok (.imul, 1) := by decide +kernel
theorem dX4_weather_53 : decode cX4_weather 53 = .ok (.iload 5, 2) := by decide +kernel
theorem dX4_weather_55 : decode cX4_weather 55 = .ok (.iadd, 1) := by decide +kernel
theorem dX4_weather_56 : decode cX4_weather 56 = .ok (.goto 4, 3) := by decide +kernel
theorem dX4_weather_59 : decode cX4_weather 59 = .ok (.iload_n 3, 1) := by decide +kernel
theorem dX4_weather_60 : decode cX4_weather 60 = .ok (.istore_n 3, 1) := by decide +kernel
theorem dX4_weather_61 : decode cX4_weather 61 = .ok (.iinc 2 1, 3) := by decide +kernel
theorem dX4_weather_64 : decode cX4_weather 64 = .ok (.iinc 5 1, 3) := by decide +kernel
theorem dX4_weather_67 : decode cX4_weather 67 = .ok (.goto (-40), 3) := by decide +kernel
theorem dX4_weather_70 : decode cX4_weather 70 = .ok (.iinc 4 1, 3) := by decide +kernel
theorem dX4_weather_73 : decode cX4_weather 73 = .ok (.goto (-55), 3) := by decide +kernel
theorem dX4_weather_76 : decode cX4_weather 76 = .ok (.iload_n 1, 1) := by decide +kernel
theorem dX4_weather_77 : decode cX4_weather 77 = .ok (.ifCond .ne 7, 3) := by decide +kernel
theorem dX4_weather_80 : decode cX4_weather 80 = .ok (.iload_n 2, 1) := by decide +kernel
theorem dX4_weather_81 : decode cX4_weather 81 = .ok (.goto 4, 3) := by decide +kernel
theorem dX4_weather_84 : decode cX4_weather 84 = .ok (.iload_n 3, 1) := by decide +kernel
theorem dX4_weather_85 : decode cX4_weather 85 = .ok (.ireturn, 1) := by decide +kernel
theorem dX4_rivals_0 : decode cX4_rivals 0 = .ok (.iload_n 1, 1) := by decide +kernel
theorem dX4_rivals_1 : decode cX4_rivals 1 = .ok (.invokestatic 162, 3) := by decide +kernel
theorem dX4_rivals_4 : decode cX4_rivals 4 = .ok (.ifCond .eq 10, 3) := by decide +kernel
theorem dX4_rivals_7 : decode cX4_rivals 7 = .ok (.iload_n 2, 1) := by decide +kernel
theorem dX4_rivals_8 : decode cX4_rivals 8 = .ok (.invokestatic 192, 3) := by decide +kernel
theorem dX4_rivals_11 : decode cX4_rivals 11 = .ok (.ifCond .ne 6, 3) := by decide +kernel
theorem dX4_rivals_14 : decode cX4_rivals 14 = .ok (.bipush (-2), 2) := by decide +kernel
theorem dX4_rivals_16 : decode cX4_rivals 16 = .ok (.ireturn, 1) := by decide +kernel
theorem dX4_rivals_17 : decode cX4_rivals 17 = .ok (.aload_n 0, 1) := by decide +kernel
theorem dX4_rivals_18 : decode cX4_rivals 18 = .ok (.iload_n 1, 1) := by decide +kernel
theorem dX4_rivals_19 : decode cX4_rivals 19 = .ok (.invokevirtual 195, 3) := by decide +kernel
theorem dX4_rivals_22 : decode cX4_rivals 22 = .ok (.aload_n 0, 1) := by decide +kernel
theorem dX4_rivals_23 : decode cX4_rivals 23 = .ok (.invokevirtual 212, 3) := by decide +kernel
theorem dX4_rivals_26 : decode cX4_rivals 26 = .ok (.iconst 0, 1) := by decide +kernel
theorem dX4_rivals_27 : decode cX4_rivals 27 = .ok (.istore_n 3, 1) := by decide +kernel
theorem dX4_rivals_28 : decode cX4_rivals 28 = .ok (.bipush (-9), 2) := by decide +kernel
theorem dX4_rivals_30 : decode cX4_rivals 30 = .ok (.istore 4, 2) := by decide +kernel
theorem dX4_rivals_32 : decode cX4_rivals 32 = .ok (.iconst 0, 1) := by decide +kernel
theorem dX4_rivals_33 : decode cX4_rivals 33 = .ok (.istore 5, 2) := by decide +kernel
theorem dX4_rivals_35 : decode cX4_rivals 35 = .ok (.iload 5, 2) := by decide +kernel
theorem dX4_rivals_37 : decode cX4_rivals 37 = .ok (.bipush 11, 2) := by decide +kernel
theorem dX4_rivals_39 : decode cX4_rivals 39 = .ok (.if_icmp .ge 58, 3) := by decide +kernel
theorem dX4_rivals_42 : decode cX4_rivals 42 = .ok (.iconst 0, 1) := by decide +kernel
theorem dX4_rivals_43 : decode cX4_rivals 43 = .ok (.istore 6, 2) := by decide +kernel
theorem dX4_rivals_45 : decode cX4_rivals 45 = .ok (.iload 6, 2) := by decide +kernel
theorem dX4_rivals_47 : decode cX4_rivals 47 = .ok (.bipush 11, 2) := by decide +kernel
theorem dX4_rivals_49 : decode cX4_rivals 49 = .ok (.if_icmp .ge 42, 3) := by decide +kernel
theorem dX4_rivals_52 : decode cX4_rivals 52 = .ok (.aload_n 0, 1) := by decide +kernel
theorem dX4_rivals_53 : decode cX4_rivals 53 = .ok (.iload 5, 2) := by decide +kernel
theorem dX4_rivals_55 : decode cX4_rivals 55 = .ok (.iload 6, 2) := by decide +kernel
theorem dX4_rivals_57 : decode cX4_rivals 57 = .ok (.invokevirtual 215, 3) := by decide +kernel
theorem dX4_rivals_60 : decode cX4_rivals 60 = .ok (.ifCond .eq 25, 3) := by decide +kernel
theorem dX4_rivals_63 : decode cX4_rivals 63 = .ok (.iload_n 3, 1) := by decide +kernel
theorem dX4_rivals_64 : decode cX4_rivals 64 = .ok (.ifCond .ne 14, 3) := by decide +kernel
theorem dX4_rivals_67 : decode cX4_rivals 67 = .ok (.bipush 11, 2) := by decide +kernel
theorem dX4_rivals_69 : decode cX4_rivals 69 = .ok (.iload 5, 2) := by decide +kernel
theorem dX4_rivals_71 : decode cX4_rivals 71 = .ok (.imul, 1) := by decide +kernel
theorem dX4_rivals_72 : decode cX4_rivals 72 = .ok (.iload 6, 2) := by decide +kernel
theorem dX4_rivals_74 : decode cX4_rivals 74 = .ok (.iadd, 1) := by decide +kernel
theorem dX4_rivals_75 : decode cX4_rivals 75 = .ok (.goto 5, 3) := by decide +kernel
theorem dX4_rivals_78 : decode cX4_rivals 78 = .ok (.iload 4, 2) := by decide +kernel
theorem dX4_rivals_80 : decode cX4_rivals 80 = .ok (.istore 4, 2) := by decide +kernel
theorem dX4_rivals_82 : decode cX4_rivals 82 = .ok (.iinc 3 1, 3) := by decide +kernel
theorem dX4_rivals_85 : decode cX4_rivals 85 = .ok (.iinc 6 1, 3) := by decide +kernel
theorem dX4_rivals_88 : decode cX4_rivals 88 = .ok (.goto (-43), 3) := by decide +kernel
theorem dX4_rivals_91 : decode cX4_rivals 91 = .ok (.iinc 5 1, 3) := by decide +kernel
theorem dX4_rivals_94 : decode cX4_rivals 94 = .ok (.goto (-59), 3) := by decide +kernel
theorem dX4_rivals_97 : decode cX4_rivals 97 = .ok (.iload_n 2, 1) := by decide +kernel
theorem dX4_rivals_98 : decode cX4_rivals 98 = .ok (.ifCond .ne 7, 3) := by decide +kernel
theorem dX4_rivals_101 : decode cX4_rivals 101 = .ok (.iload_n 3, 1) := by decide +kernel
theorem dX4_rivals_102 : decode cX4_rivals 102 = .ok (.goto 5, 3) := by decide +kernel
theorem dX4_rivals_105 : decode cX4_rivals 105 = .ok (.iload 4, 2) := by decide +kernel
theorem dX4_rivals_107 : decode cX4_rivals 107 = .ok (.ireturn, 1) := by decide +kernel
theorem dX4_chance_0 : decode cX4_chance 0 = .ok (.iload_n 1, 1) := by decide +kernel
theorem dX4_chance_1 : decode cX4_chance 1 = .ok (.invokestatic 140, 3) := by decide +kernel
theorem dX4_chance_4 : decode cX4_chance 4 = .ok (.ifCond .eq 20, 3) := by decide +kernel
theorem dX4_chance_7 : decode cX4_chance 7 = .ok (.iload_n 2, 1) := by decide +kernel
theorem dX4_chance_8 : decode cX4_chance 8 = .ok (.invokestatic 162, 3) := by decide +kernel
theorem dX4_chance_11 : decode cX4_chance 11 = .ok (.ifCond .eq 13, 3) := by decide +kernel
theorem dX4_chance_14 : decode cX4_chance 14 = .ok (.iload_n 3, 1) := by decide +kernel
theorem dX4_chance_15 : decode cX4_chance 15 = .ok (.ifCond .lt 9, 3) := by decide +kernel
theorem dX4_chance_18 : decode cX4_chance 18 = .ok (.iload_n 3, 1) := by decide +kernel
theorem dX4_chance_19 : decode cX4_chance 19 = .ok (.bipush 10, 2) := by decide +kernel
theorem dX4_chance_21 : decode cX4_chance 21 = .ok (.if_icmp .le 6, 3) := by decide +kernel
theorem dX4_chance_24 : decode cX4_chance 24 = .ok (.bipush (-2), 2) := by decide +kernel
theorem dX4_chance_26 : decode cX4_chance 26 = .ok (.ireturn, 1) := by decide +kernel
theorem dX4_chance_27 : decode cX4_chance 27 = .ok (.aload_n 0, 1) := by decide +kernel
theorem dX4_chance_28 : decode cX4_chance 28 = .ok (.iload_n 2, 1) := by decide +kernel
theorem dX4_chance_29 : decode cX4_chance 29 = .ok (.invokevirtual 165, 3) := by decide +kernel
theorem dX4_chance_32 : decode cX4_chance 32 = .ok (.aload_n 0, 1) := by decide +kernel
theorem dX4_chance_33 : decode cX4_chance 33 = .ok (.invokevirtual 174, 3) := by decide +kernel
theorem dX4_chance_36 : decode cX4_chance 36 = .ok (.istore 5, 2) := by decide +kernel
theorem dX4_chance_38 : decode cX4_chance 38 = .ok (.iload 5, 2) := by decide +kernel
theorem dX4_chance_40 : decode cX4_chance 40 = .ok (.invokestatic 184, 3) := by decide +kernel
theorem dX4_chance_43 : decode cX4_chance 43 = .ok (.istore 6, 2) := by decide +kernel
theorem dX4_chance_45 : decode cX4_chance 45 = .ok (.iconst 0, 1) := by decide +kernel
theorem dX4_chance_46 : decode cX4_chance 46 = .ok (.istore 7, 2) := by decide +kernel
theorem dX4_chance_48 : decode cX4_chance 48 = .ok (.iconst 0, 1) := by decide +kernel
theorem dX4_chance_49 : decode cX4_chance 49 = .ok (.istore 8, 2) := by decide +kernel
theorem dX4_chance_51 : decode cX4_chance 51 = .ok (.iload 8, 2) := by decide +kernel
theorem dX4_chance_53 : decode cX4_chance 53 = .ok (.bipush 64, 2) := by decide +kernel
theorem dX4_chance_55 : decode cX4_chance 55 = .ok (.if_icmp .ge 60, 3) := by decide +kernel
theorem dX4_chance_58 : decode cX4_chance 58 = .ok (.iload 8, 2) := by decide +kernel
theorem dX4_chance_60 : decode cX4_chance 60 = .ok (.iload 5, 2) := by decide +kernel
theorem dX4_chance_62 : decode cX4_chance 62 = .ok (.iconst (-1), 1) := by decide +kernel
theorem dX4_chance_63 : decode cX4_chance 63 = .ok (.ixor, 1) := by decide +kernel
theorem dX4_chance_64 : decode cX4_chance 64 = .ok (.iand, 1) := by decide +kernel
theorem dX4_chance_65 : decode cX4_chance 65 = .ok (.ifCond .ne 44, 3) := by decide +kernel
theorem dX4_chance_68 : decode cX4_chance 68 = .ok (.aload_n 0, 1) := by decide +kernel
theorem dX4_chance_69 : decode cX4_chance 69 = .ok (.iload_n 1, 1) := by decide +kernel
theorem dX4_chance_70 : decode cX4_chance 70 = .ok (.iload 8, 2) := by decide +kernel
theorem dX4_chance_72 : decode cX4_chance 72 = .ok (.invokevirtual 218, 3) := by decide +kernel
theorem dX4_chance_75 : decode cX4_chance 75 = .ok (.ifCond .eq 34, 3) := by decide +kernel
theorem dX4_chance_78 : decode cX4_chance 78 = .ok (.iload 8, 2) := by decide +kernel
theorem dX4_chance_80 : decode cX4_chance 80 = .ok (.invokestatic 184, 3) := by decide +kernel
theorem dX4_chance_83 : decode cX4_chance 83 = .ok (.istore 9, 2) := by decide +kernel
theorem dX4_chance_85 : decode cX4_chance 85 = .ok (.iload 7, 2) := by decide +kernel
theorem dX4_chance_87 : decode cX4_chance 87 = .ok (.bipush 10, 2) := by decide +kernel
theorem dX4_chance_89 : decode cX4_chance 89 = .ok (.iload_n 3, 1) := by decide +kernel
theorem dX4_chance_90 : decode cX4_chance 90 = .ok (.isub, 1) := by decide +kernel
theorem dX4_chance_91 : decode cX4_chance 91 = .ok (.iload 9, 2) := by decide +kernel
theorem dX4_chance_93 : decode cX4_chance 93 = .ok (.invokestatic 221, 3) := by decide +kernel
theorem dX4_chance_96 : decode cX4_chance 96 = .ok (.iload_n 3, 1) := by decide +kernel
theorem dX4_chance_97 : decode cX4_chance 97 = .ok (.iload 6, 2) := by decide +kernel
theorem dX4_chance_99 : decode cX4_chance 99 = .ok (.iload 9, 2) := by decide +kernel
theorem dX4_chance_101 : decode cX4_chance 101 = .ok (.isub, 1) := by decide +kernel
theorem dX4_chance_102 : decode cX4_chance 102 = .ok (.invokestatic 221, 3) := by decide +kernel
theorem dX4_chance_105 : decode cX4_chance 105 = .ok (.imul, 1) := by decide +kernel
theorem dX4_chance_106 : decode cX4_chance 106 = .ok (.iadd, 1) := by decide +kernel
theorem dX4_chance_107 : decode cX4_chance 107 = .ok (.istore 7, 2) := by decide +kernel
theorem dX4_chance_109 : decode cX4_chance 109 = .ok (.iinc 8 1, 3) := by decide +kernel
theorem dX4_chance_112 : decode cX4_chance 112 = .ok (.goto (-61), 3) := by decide +kernel
theorem dX4_chance_115 : decode cX4_chance 115 = .ok (.iload 7, 2) := by decide +kernel
theorem dX4_chance_117 : decode cX4_chance 117 = .ok (.bipush 10, 2) := by decide +kernel
theorem dX4_chance_119 : decode cX4_chance 119 = .ok (.iload 6, 2) := by decide +kernel
theorem dX4_chance_121 : decode cX4_chance 121 = .ok (.invokestatic 221, 3) := by decide +kernel
theorem dX4_chance_124 : decode cX4_chance 124 = .ok (.iload 4, 2) := by decide +kernel
theorem dX4_chance_126 : decode cX4_chance 126 = .ok (.invokestatic 180, 3) := by decide +kernel
theorem dX4_chance_129 : decode cX4_chance 129 = .ok (.ireturn, 1) := by decide +kernel
theorem dX4_seed_0 : decode cX4_seed 0 = .ok (.aload_n 0, 1) := by decide +kernel
theorem dX4_seed_1 : decode cX4_seed 1 = .ok (.getfield 48, 3) := by decide +kernel
theorem dX4_seed_4 : decode cX4_seed 4 = .ok (.lstore_n 3, 1) := by decide +kernel
theorem dX4_seed_5 : decode cX4_seed 5 = .ok (.aload_n 0, 1) := by decide +kernel
theorem dX4_seed_6 : decode cX4_seed 6 = .ok (.lload_n 1, 1) := by decide +kernel
theorem dX4_seed_7 : decode cX4_seed 7 = .ok (.putfield 48, 3) := by decide +kernel
theorem dX4_seed_10 : decode cX4_seed 10 = .ok (.lload_n 3, 1) := by decide +kernel
theorem dX4_seed_11 : decode cX4_seed 11 = .ok (.lreturn, 1) := by decide +kernel
theorem dX4_days_0 : decode cX4_days 0 = .ok (.iload_n 1, 1) := by decide +kernel
theorem dX4_days_1 : decode cX4_days 1 = .ok (.iconst 1, 1) := by decide +kernel
theorem dX4_days_2 : decode cX4_days 2 = .ok (.if_icmp .lt 9, 3) := by decide +kernel
theorem dX4_days_5 : decode cX4_days 5 = .ok (.iload_n 1, 1) := by decide +kernel
theorem dX4_days_6 : decode cX4_days 6 = .ok (.bipush 30, 2) := by decide +kernel
theorem dX4_days_8 : decode cX4_days 8 = .ok (.if_icmp .le 6, 3) := by decide +kernel
theorem dX4_days_11 : decode cX4_days 11 = .ok (.bipush (-2), 2) := by decide +kernel
theorem dX4_days_13 : decode cX4_days 13 = .ok (.ireturn, 1) := by decide +kernel
theorem dX4_days_14 : decode cX4_days 14 = .ok (.aload_n 0, 1) := by decide +kernel
theorem dX4_days_15 : decode cX4_days 15 = .ok (.getfield 26, 3) := by decide +kernel
theorem dX4_days_18 : decode cX4_days 18 = .ok (.getfield 93, 3) := by decide +kernel
theorem dX4_days_21 : decode cX4_days 21 = .ok (.istore_n 2, 1) := by decide +kernel
theorem dX4_days_22 : decode cX4_days 22 = .ok (.iconst 0, 1) := by decide +kernel
theorem dX4_days_23 : decode cX4_days 23 = .ok (.istore_n 3, 1) := by decide +kernel
theorem dX4_days_24 : decode cX4_days 24 = .ok (.iconst 0, 1) := by decide +kernel
theorem dX4_days_25 : decode cX4_days 25 = .ok (.istore 4, 2) := by decide +kernel
theorem dX4_days_27 : decode cX4_days 27 = .ok (.iload 4, 2) := by decide +kernel
theorem dX4_days_29 : decode cX4_days 29 = .ok (.iload_n 1, 1) := by decide +kernel
theorem dX4_days_30 : decode cX4_days 30 = .ok (.if_icmp .ge 75, 3) := by decide +kernel
theorem dX4_days_33 : decode cX4_days 33 = .ok (.aload_n 0, 1) := by decide +kernel
theorem dX4_days_34 : decode cX4_days 34 = .ok (.aload_n 0, 1) := by decide +kernel
theorem dX4_days_35 : decode cX4_days 35 = .ok (.getfield 48, 3) := by decide +kernel
theorem dX4_days_38 : decode cX4_days 38 = .ok (.ldc2_w 224, 3) := by decide +kernel
theorem dX4_days_41 : decode cX4_days 41 = .ok (.lmul, 1) := by decide +kernel
theorem dX4_days_42 : decode cX4_days 42 = .ok (.ldc2_w 226, 3) := by decide +kernel
theorem dX4_days_45 : decode cX4_days 45 = .ok (.ladd, 1) := by decide +kernel
theorem dX4_days_46 : decode cX4_days 46 = .ok (.putfield 48, 3) := by decide +kernel
theorem dX4_days_49 : decode cX4_days 49 = .ok (.aload_n 0, 1) := by decide +kernel
theorem dX4_days_50 : decode cX4_days 50 = .ok (.getfield 48, 3) := by decide +kernel
theorem dX4_days_53 : decode cX4_days 53 = .ok (.bipush 33, 2) := by decide +kernel
theorem dX4_days_55 : decode cX4_days 55 = .ok (.lushr, 1) := by decide +kernel
theorem dX4_days_56 : decode cX4_days 56 = .ok (.ldc2_w 228, 3) := by decide +kernel
theorem dX4_days_59 : decode cX4_days 59 = .ok (.lrem, 1) := by decide +kernel
theorem dX4_days_60 : decode cX4_days 60 = .ok (.l2i, 1) := by decide +kernel
theorem dX4_days_61 : decode cX4_days 61 = .ok (.istore 5, 2) := by decide +kernel
theorem dX4_days_63 : decode cX4_days 63 = .ok (.aload_n 0, 1) := by decide +kernel
theorem dX4_days_64 : decode cX4_days 64 = .ok (.iload_n 2, 1) := by decide +kernel
theorem dX4_days_65 : decode cX4_days 65 = .ok (.invokevirtual 165, 3) := by decide +kernel
theorem dX4_days_68 : decode cX4_days 68 = .ok (.aload_n 0, 1) := by decide +kernel
theorem dX4_days_69 : decode cX4_days 69 = .ok (.aload_n 0, 1) := by decide +kernel
theorem dX4_days_70 : decode cX4_days 70 = .ok (.getfield 26, 3) := by decide +kernel
theorem dX4_days_73 : decode cX4_days 73 = .ok (.getfield 90, 3) := by decide +kernel
theorem dX4_days_76 : decode cX4_days 76 = .ok (.aload_n 0, 1) := by decide +kernel
theorem dX4_days_77 : decode cX4_days 77 = .ok (.invokevirtual 174, 3) := by decide +kernel
theorem dX4_days_80 : decode cX4_days 80 = .ok (.iload 5, 2) := by decide +kernel
theorem dX4_days_82 : decode cX4_days 82 = .ok (.iconst (-1), 1) := by decide +kernel
theorem dX4_days_83 : decode cX4_days 83 = .ok (.ixor, 1) := by decide +kernel
theorem dX4_days_84 : decode cX4_days 84 = .ok (.iand, 1) := by decide +kernel
theorem dX4_days_85 : decode cX4_days 85 = .ok (.invokevirtual 218, 3) := by decide +kernel
theorem dX4_days_88 : decode cX4_days 88 = .ok (.ifCond .eq 6, 3) := by decide +kernel
theorem dX4_days_91 : decode cX4_days 91 = .ok (.iinc 3 1, 3) := by decide +kernel
theorem dX4_days_94 : decode cX4_days 94 = .ok (.iload_n 2, 1) := by decide +kernel
theorem dX4_days_95 : decode cX4_days 95 = .ok (.invokestatic 156, 3) := by decide +kernel
theorem dX4_days_98 : decode cX4_days 98 = .ok (.istore_n 2, 1) := by decide +kernel
theorem dX4_days_99 : decode cX4_days 99 = .ok (.iinc 4 1, 3) := by decide +kernel
theorem dX4_days_102 : decode cX4_days 102 = .ok (.goto (-75), 3) := by decide +kernel
theorem dX4_days_105 : decode cX4_days 105 = .ok (.iload_n 3, 1) := by decide +kernel
theorem dX4_days_106 : decode cX4_days 106 = .ok (.ireturn, 1) := by decide +kernel
theorem dX4_keep_0 : decode cX4_keep 0 = .ok (.iload_n 1, 1) := by decide +kernel
theorem dX4_keep_1 : decode cX4_keep 1 = .ok (.ifCond .lt 8, 3) := by decide +kernel
theorem dX4_keep_4 : decode cX4_keep 4 = .ok (.iload_n 1, 1) := by decide +kernel
theorem dX4_keep_5 : decode cX4_keep 5 = .ok (.iconst 2, 1) := by decide +kernel
theorem dX4_keep_6 : decode cX4_keep 6 = .ok (.if_icmp .lt 5, 3) := by decide +kernel
theorem dX4_keep_9 : decode cX4_keep 9 = .ok (.iconst (-1), 1) := by decide +kernel
theorem dX4_keep_10 : decode cX4_keep 10 = .ok (.ireturn, 1) := by decide +kernel
theorem dX4_keep_11 : decode cX4_keep 11 = .ok (.aload_n 0, 1) := by decide +kernel
theorem dX4_keep_12 : decode cX4_keep 12 = .ok (.getfield 45, 3) := by decide +kernel
theorem dX4_keep_15 : decode cX4_keep 15 = .ok (.iload_n 1, 1) := by decide +kernel
theorem dX4_keep_16 : decode cX4_keep 16 = .ok (.aload_n 0, 1) := by decide +kernel
theorem dX4_keep_17 : decode cX4_keep 17 = .ok (.getfield 26, 3) := by decide +kernel
theorem dX4_keep_20 : decode cX4_keep 20 = .ok (.invokevirtual 230, 3) := by decide +kernel
theorem dX4_keep_23 : decode cX4_keep 23 = .ok (.iastore, 1) := by decide +kernel
theorem dX4_keep_24 : decode cX4_keep 24 = .ok (.aload_n 0, 1) := by decide +kernel
theorem dX4_keep_25 : decode cX4_keep 25 = .ok (.getfield 26, 3) := by decide +kernel
theorem dX4_keep_28 : decode cX4_keep 28 = .ok (.getfield 93, 3) := by decide +kernel
theorem dX4_keep_31 : decode cX4_keep 31 = .ok (.ireturn, 1) := by decide +kernel
theorem dX4_again_0 : decode cX4_again 0 = .ok (.iload_n 1, 1) := by decide +kernel
theorem dX4_again_1 : decode cX4_again 1 = .ok (.ifCond .lt 8, 3) := by decide +kernel
theorem dX4_again_4 : decode cX4_again 4 = .ok (.iload_n 1, 1) := by decide +kernel
theorem dX4_again_5 : decode cX4_again 5 = .ok (.iconst 2, 1) := by decide +kernel
theorem dX4_again_6 : decode cX4_again 6 = .ok (.if_icmp .lt 5, 3) := by decide +kernel
theorem dX4_again_9 : decode cX4_again 9 = .ok (.iconst (-1), 1) := by decide +kernel
theorem dX4_again_10 : decode cX4_again 10 = .ok (.ireturn, 1) := by decide +kernel
theorem dX4_again_11 : decode cX4_again 11 = .ok (.aload_n 0, 1) := by decide +kernel
theorem dX4_again_12 : decode cX4_again 12 = .ok (.getfield 45, 3) := by decide +kernel
theorem dX4_again_15 : decode cX4_again 15 = .ok (.iload_n 1, 1) := by decide +kernel
theorem dX4_again_16 : decode cX4_again 16 = .ok (.iaload, 1) := by decide +kernel
theorem dX4_again_17 : decode cX4_again 17 = .ok (.iconst (-1), 1) := by decide +kernel
theorem dX4_again_18 : decode cX4_again 18 = .ok (.if_icmp .ne 6, 3) := by decide +kernel
theorem dX4_again_21 : decode cX4_again 21 = .ok (.bipush (-3), 2) := by decide +kernel
theorem dX4_again_23 : decode cX4_again 23 = .ok (.ireturn, 1) := by decide +kernel
theorem dX4_again_24 : decode cX4_again 24 = .ok (.aload_n 0, 1) := by decide +kernel
theorem dX4_again_25 : decode cX4_again 25 = .ok (.getfield 26, 3) := by decide +kernel
theorem dX4_again_28 : decode cX4_again 28 = .ok (.aload_n 0, 1) := by decide +kernel
theorem dX4_again_29 : decode cX4_again 29 = .ok (.getfield 45, 3) := by decide +kernel
theorem dX4_again_32 : decode cX4_again 32 = .ok (.iload_n 1, 1) := by decide +kernel
theorem dX4_again_33 : decode cX4_again 33 = .ok (.iaload, 1) := by decide +kernel
theorem dX4_again_34 : decode cX4_again 34 = .ok (.invokevirtual 159, 3) := by decide +kernel
theorem dX4_again_37 : decode cX4_again 37 = .ok (.aload_n 0, 1) := by decide +kernel
theorem dX4_again_38 : decode cX4_again 38 = .ok (.iconst 0, 1) := by decide +kernel
theorem dX4_again_39 : decode cX4_again 39 = .ok (.putfield 41, 3) := by decide +kernel
theorem dX4_again_42 : decode cX4_again 42 = .ok (.aload_n 0, 1) := by decide +kernel
theorem dX4_again_43 : decode cX4_again 43 = .ok (.getfield 26, 3) := by decide +kernel
theorem dX4_again_46 : decode cX4_again 46 = .ok (.getfield 93, 3) := by decide +kernel
theorem dX4_again_49 : decode cX4_again 49 = .ok (.ireturn, 1) := by decide +kernel
theorem dX4_isCell_0 : decode cX4_isCell 0 = .ok (.iload_n 0, 1) := by decide +kernel
theorem dX4_isCell_1 : decode cX4_isCell 1 = .ok (.ifCond .lt 13, 3) := by decide +kernel
theorem dX4_isCell_4 : decode cX4_isCell 4 = .ok (.iload_n 0, 1) := by decide +kernel
theorem dX4_isCell_5 : decode cX4_isCell 5 = .ok (.bipush 10, 2) := by decide +kernel
theorem dX4_isCell_7 : decode cX4_isCell 7 = .ok (.if_icmp .ge 7, 3) := by decide +kernel
theorem dX4_isCell_10 : decode cX4_isCell 10 = .ok (.iconst 1, 1) := by decide +kernel
theorem dX4_isCell_11 : decode cX4_isCell 11 = .ok (.goto 4, 3) := by decide +kernel
theorem dX4_isCell_14 : decode cX4_isCell 14 = .ok (.iconst 0, 1) := by decide +kernel
theorem dX4_isCell_15 : decode cX4_isCell 15 = .ok (.ireturn, 1) := by decide +kernel
theorem dX4_isHour_0 : decode cX4_isHour 0 = .ok (.iload_n 0, 1) := by decide +kernel
theorem dX4_isHour_1 : decode cX4_isHour 1 = .ok (.ifCond .lt 13, 3) := by decide +kernel
theorem dX4_isHour_4 : decode cX4_isHour 4 = .ok (.iload_n 0, 1) := by decide +kernel
theorem dX4_isHour_5 : decode cX4_isHour 5 = .ok (.bipush 10, 2) := by decide +kernel
theorem dX4_isHour_7 : decode cX4_isHour 7 = .ok (.if_icmp .ge 7, 3) := by decide +kernel
theorem dX4_isHour_10 : decode cX4_isHour 10 = .ok (.iconst 1, 1) := by decide +kernel
theorem dX4_isHour_11 : decode cX4_isHour 11 = .ok (.goto 4, 3) := by decide +kernel
theorem dX4_isHour_14 : decode cX4_isHour 14 = .ok (.iconst 0, 1) := by decide +kernel
theorem dX4_isHour_15 : decode cX4_isHour 15 = .ok (.ireturn, 1) := by decide +kernel
theorem dX4_isSet_0 : decode cX4_isSet 0 = .ok (.iload_n 0, 1) := by decide +kernel
theorem dX4_isSet_1 : decode cX4_isSet 1 = .ok (.ifCond .lt 14, 3) := by decide +kernel
theorem dX4_isSet_4 : decode cX4_isSet 4 = .ok (.iload_n 0, 1) := by decide +kernel
theorem dX4_isSet_5 : decode cX4_isSet 5 = .ok (.sipush 255, 3) := by decide +kernel
theorem dX4_isSet_8 : decode cX4_isSet 8 = .ok (.if_icmp .gt 7, 3) := by decide +kernel
theorem dX4_isSet_11 : decode cX4_isSet 11 = .ok (.iconst 1, 1) := by decide +kernel
theorem dX4_isSet_12 : decode cX4_isSet 12 = .ok (.goto 4, 3) := by decide +kernel
theorem dX4_isSet_15 : decode cX4_isSet 15 = .ok (.iconst 0, 1) := by decide +kernel
theorem dX4_isSet_16 : decode cX4_isSet 16 = .ok (.ireturn, 1) := by decide +kernel
theorem dX4_isFirstOrSecond_0 : decode cX4_isFirstOrSecond 0 = .ok (.iload_n 0, 1) := by decide +kernel
theorem dX4_isFirstOrSecond_1 : decode cX4_isFirstOrSecond 1 = .ok (.ifCond .eq 8, 3) := by decide +kernel
theorem dX4_isFirstOrSecond_4 : decode cX4_isFirstOrSecond 4 = .ok (.iload_n 0, 1) := by decide +kernel
theorem dX4_isFirstOrSecond_5 : decode cX4_isFirstOrSecond 5 = .ok (.iconst 1, 1) := by decide +kernel
theorem dX4_isFirstOrSecond_6 : decode cX4_isFirstOrSecond 6 = .ok (.if_icmp .ne 7, 3) := by decide +kernel
theorem dX4_isFirstOrSecond_9 : decode cX4_isFirstOrSecond 9 = .ok (.iconst 1, 1) := by decide +kernel
theorem dX4_isFirstOrSecond_10 : decode cX4_isFirstOrSecond 10 = .ok (.goto 4, 3) := by decide +kernel
theorem dX4_isFirstOrSecond_13 : decode cX4_isFirstOrSecond 13 = .ok (.iconst 0, 1) := by decide +kernel
theorem dX4_isFirstOrSecond_14 : decode cX4_isFirstOrSecond 14 = .ok (.ireturn, 1) := by decide +kernel
theorem dX4_hourBehind_0 : decode cX4_hourBehind 0 = .ok (.iload_n 0, 1) := by decide +kernel
theorem dX4_hourBehind_1 : decode cX4_hourBehind 1 = .ok (.iconst 1, 1) := by decide +kernel
theorem dX4_hourBehind_2 : decode cX4_hourBehind 2 = .ok (.iadd, 1) := by decide +kernel
theorem dX4_hourBehind_3 : decode cX4_hourBehind 3 = .ok (.bipush 10, 2) := by decide +kernel
theorem dX4_hourBehind_5 : decode cX4_hourBehind 5 = .ok (.irem, 1) := by decide +kernel
theorem dX4_hourBehind_6 : decode cX4_hourBehind 6 = .ok (.ireturn, 1) := by decide +kernel
theorem dX4_toldCell_0 : decode cX4_toldCell 0 = .ok (.iload_n 0, 1) := by decide +kernel
theorem dX4_toldCell_1 : decode cX4_toldCell 1 = .ok (.bipush 10, 2) := by decide +kernel
theorem dX4_toldCell_3 : decode cX4_toldCell 3 = .ok (.if_icmp .ne 8, 3) := by decide +kernel
theorem dX4_toldCell_6 : decode cX4_toldCell 6 = .ok (.bipush (-9), 2) := by decide +kernel
theorem dX4_toldCell_8 : decode cX4_toldCell 8 = .ok (.goto 4, 3) := by decide +kernel
theorem dX4_toldCell_11 : decode cX4_toldCell 11 = .ok (.iload_n 0, 1) := by decide +kernel
theorem dX4_toldCell_12 : decode cX4_toldCell 12 = .ok (.ireturn, 1) := by decide +kernel
theorem dX4_rememberAct_0 : decode cX4_rememberAct 0 = .ok (.aload_n 0, 1) := by decide +kernel
theorem dX4_rememberAct_1 : decode cX4_rememberAct 1 = .ok (.getfield 41, 3) := by decide +kernel
theorem dX4_rememberAct_4 : decode cX4_rememberAct 4 = .ok (.bipush 14, 2) := by decide +kernel
theorem dX4_rememberAct_6 : decode cX4_rememberAct 6 = .ok (.if_icmp .lt 37, 3) := by decide +kernel
theorem dX4_rememberAct_9 : decode cX4_rememberAct 9 = .ok (.iconst 1, 1) := by decide +kernel
theorem dX4_rememberAct_10 : decode cX4_rememberAct 10 = .ok (.istore_n 1, 1) := by decide +kernel
theorem dX4_rememberAct_11 : decode cX4_rememberAct 11 = .ok (.iload_n 1, 1) := by decide +kernel
theorem dX4_rememberAct_12 : decode cX4_rememberAct 12 = .ok (.bipush 14, 2) := by decide +kernel
theorem dX4_rememberAct_14 : decode cX4_rememberAct 14 = .ok (.if_icmp .ge 23, 3) := by decide +kernel
theorem dX4_rememberAct_17 : decode cX4_rememberAct 17 = .ok (.aload_n 0, 1) := by decide +kernel
theorem dX4_rememberAct_18 : decode cX4_rememberAct 18 = .ok (.getfield 37, 3) := by decide +kernel
theorem dX4_rememberAct_21 : decode cX4_rememberAct 21 = .ok (.iload_n 1, 1) := by decide +kernel
theorem dX4_rememberAct_22 : decode cX4_rememberAct 22 = .ok (.iconst 1, 1) := by decide +kernel
theorem dX4_rememberAct_23 : decode cX4_rememberAct 23 = .ok (.isub, 1) := by decide +kernel
theorem dX4_rememberAct_24 : decode cX4_rememberAct 24 = .ok (.aload_n 0, 1) := by decide +kernel
theorem dX4_rememberAct_25 : decode cX4_rememberAct 25 = .ok (.getfield 37, 3) := by decide +kernel
theorem dX4_rememberAct_28 : decode cX4_rememberAct 28 = .ok (.iload_n 1, 1) := by decide +kernel
theorem dX4_rememberAct_29 : decode cX4_rememberAct 29 = .ok (.iaload, 1) := by decide +kernel
theorem dX4_rememberAct_30 : decode cX4_rememberAct 30 = .ok (.iastore, 1) := by decide +kernel
theorem dX4_rememberAct_31 : decode cX4_rememberAct 31 = .ok (.iinc 1 1, 3) := by decide +kernel
theorem dX4_rememberAct_34 : decode cX4_rememberAct 34 = .ok (.goto (-23), 3) := by decide +kernel
theorem dX4_rememberAct_37 : decode cX4_rememberAct 37 = .ok (.aload_n 0, 1) := by decide +kernel
theorem dX4_rememberAct_38 : decode cX4_rememberAct 38 = .ok (.bipush 13, 2) := by decide +kernel
theorem dX4_rememberAct_40 : decode cX4_rememberAct 40 = .ok (.putfield 41, 3) := by decide +kernel
theorem dX4_rememberAct_43 : decode cX4_rememberAct 43 = .ok (.aload_n 0, 1) := by decide +kernel
theorem dX4_rememberAct_44 : decode cX4_rememberAct 44 = .ok (.getfield 37, 3) := by decide +kernel
theorem dX4_rememberAct_47 : decode cX4_rememberAct 47 = .ok (.aload_n 0, 1) := by decide +kernel
theorem dX4_rememberAct_48 : decode cX4_rememberAct 48 = .ok (.getfield 41, 3) := by decide +kernel
theorem dX4_rememberAct_51 : decode cX4_rememberAct 51 = .ok (.aload_n 0, 1) := by decide +kernel
theorem dX4_rememberAct_52 : decode cX4_rememberAct 52 = .ok (.getfield 26, 3) := by decide +kernel
theorem dX4_rememberAct_55 : decode cX4_rememberAct 55 = .ok (.invokevirtual 230, 3) := by decide +kernel
theorem dX4_rememberAct_58 : decode cX4_rememberAct 58 = .ok (.iastore, 1) := by decide +kernel
theorem dX4_rememberAct_59 : decode cX4_rememberAct 59 = .ok (.aload_n 0, 1) := by decide +kernel
theorem dX4_rememberAct_60 : decode cX4_rememberAct 60 = .ok (.dup, 1) := by decide +kernel
theorem dX4_rememberAct_61 : decode cX4_rememberAct 61 = .ok (.getfield 41, 3) := by decide +kernel
theorem dX4_rememberAct_64 : decode cX4_rememberAct 64 = .ok (.iconst 1, 1) := by decide +kernel
theorem dX4_rememberAct_65 : decode cX4_rememberAct 65 = .ok (.iadd, 1) := by decide +kernel
theorem dX4_rememberAct_66 : decode cX4_rememberAct 66 = .ok (.putfield 41, 3) := by decide +kernel
theorem dX4_rememberAct_69 : decode cX4_rememberAct 69 = .ok (.return_, 1) := by decide +kernel
theorem dX4_reaches_0 : decode cX4_reaches 0 = .ok (.iload_n 0, 1) := by decide +kernel
theorem dX4_reaches_1 : decode cX4_reaches 1 = .ok (.iconst 3, 1) := by decide +kernel
theorem dX4_reaches_2 : decode cX4_reaches 2 = .ok (.if_icmp .ne 7, 3) := by decide +kernel
theorem dX4_reaches_5 : decode cX4_reaches 5 = .ok (.iload_n 2, 1) := by decide +kernel
theorem dX4_reaches_6 : decode cX4_reaches 6 = .ok (.goto 9, 3) := by decide +kernel
theorem dX4_reaches_9 : decode cX4_reaches 9 = .ok (.iload_n 2, 1) := by decide +kernel
theorem dX4_reaches_10 : decode cX4_reaches 10 = .ok (.iload 5, 2) := by decide +kernel
theorem dX4_reaches_12 : decode cX4_reaches 12 = .ok (.iadd, 1) := by decide +kernel
theorem dX4_reaches_13 : decode cX4_reaches 13 = .ok (.iconst 1, 1) := by decide +kernel
theorem dX4_reaches_14 : decode cX4_reaches 14 = .ok (.isub, 1) := by decide +kernel
theorem dX4_reaches_15 : decode cX4_reaches 15 = .ok (.istore 6, 2) := by decide +kernel
theorem dX4_reaches_17 : decode cX4_reaches 17 = .ok (.iload 4, 2) := by decide +kernel
theorem dX4_reaches_19 : decode cX4_reaches 19 = .ok (.istore 7, 2) := by decide +kernel
theorem dX4_reaches_21 : decode cX4_reaches 21 = .ok (.iload_n 0, 1) := by decide +kernel
theorem dX4_reaches_22 : decode cX4_reaches 22 = .ok (.iconst 1, 1) := by decide +kernel
theorem dX4_reaches_23 : decode cX4_reaches 23 = .ok (.if_icmp .ne 9, 3) := by decide +kernel
theorem dX4_reaches_26 : decode cX4_reaches 26 = .ok (.iconst 0, 1) := by decide +kernel
theorem dX4_reaches_27 : decode cX4_reaches 27 = .ok (.istore 7, 2) := by decide +kernel
theorem dX4_reaches_29 : decode cX4_reaches 29 = .ok (.goto 14, 3) := by decide +kernel
theorem dX4_reaches_32 : decode cX4_reaches 32 = .ok (.iload_n 0, 1) := by decide +kernel
theorem dX4_reaches_33 : decode cX4_reaches 33 = .ok (.iconst 2, 1) := by decide +kernel
theorem dX4_reaches_34 : decode cX4_reaches 34 = .ok (.if_icmp .ne 9, 3) := by decide +kernel
theorem dX4_reaches_37 : decode cX4_reaches 37 = .ok (.iconst 2, 1) := by decide +kernel
theorem dX4_reaches_38 : decode cX4_reaches 38 = .ok (.iload 4, 2) := by decide +kernel
theorem dX4_reaches_40 : decode cX4_reaches 40 = .ok (.imul, 1) := by decide +kernel
theorem dX4_reaches_41 : decode cX4_reaches 41 = .ok (.istore 7, 2) := by decide +kernel
theorem dX4_reaches_43 : decode cX4_reaches 43 = .ok (.iload_n 1, 1) := by decide +kernel
theorem dX4_reaches_44 : decode cX4_reaches 44 = .ok (.iload 7, 2) := by decide +kernel
theorem dX4_reaches_46 : decode cX4_reaches 46 = .ok (.iload_n 3, 1) := by decide +kernel
theorem dX4_reaches_47 : decode cX4_reaches 47 = .ok (.iload 6, 2) := by decide +kernel
theorem dX4_reaches_49 : decode cX4_reaches 49 = .ok (.isub, 1) := by decide +kernel
theorem dX4_reaches_50 : decode cX4_reaches 50 = .ok (.invokestatic 233, 3) := by decide +kernel
theorem dX4_reaches_53 : decode cX4_reaches 53 = .ok (.iadd, 1) := by decide +kernel
theorem dX4_reaches_54 : decode cX4_reaches 54 = .ok (.if_icmp .le 7, 3) := by decide +kernel
theorem dX4_reaches_57 : decode cX4_reaches 57 = .ok (.iconst 1, 1) := by decide +kernel
theorem dX4_reaches_58 : decode cX4_reaches 58 = .ok (.goto 4, 3) := by decide +kernel
theorem dX4_reaches_61 : decode cX4_reaches 61 = .ok (.iconst 0, 1) := by decide +kernel
theorem dX4_reaches_62 : decode cX4_reaches 62 = .ok (.ireturn, 1) := by decide +kernel
theorem dX4_liveSounds_0 : decode cX4_liveSounds 0 = .ok (.iconst 1, 1) := by decide +kernel
theorem dX4_liveSounds_1 : decode cX4_liveSounds 1 = .ok (.aload_n 0, 1) := by decide +kernel
theorem dX4_liveSounds_2 : decode cX4_liveSounds 2 = .ok (.getfield 19, 3) := by decide +kernel
theorem dX4_liveSounds_5 : decode cX4_liveSounds 5 = .ok (.getfield 87, 3) := by decide +kernel
theorem dX4_liveSounds_8 : decode cX4_liveSounds 8 = .ok (.ishl, 1) := by decide +kernel
theorem dX4_liveSounds_9 : decode cX4_liveSounds 9 = .ok (.iconst 1, 1) := by decide +kernel
theorem dX4_liveSounds_10 : decode cX4_liveSounds 10 = .ok (.isub, 1) := by decide +kernel
theorem dX4_liveSounds_11 : decode cX4_liveSounds 11 = .ok (.aload_n 0, 1) := by decide +kernel
theorem dX4_liveSounds_12 : decode cX4_liveSounds 12 = .ok (.getfield 26, 3) := by decide +kernel
theorem dX4_liveSounds_15 : decode cX4_liveSounds 15 = .ok (.getfield 102, 3) := by decide +kernel
theorem dX4_liveSounds_18 : decode cX4_liveSounds 18 = .ok (.iconst (-1), 1) := by decide +kernel
theorem dX4_liveSounds_19 : decode cX4_liveSounds 19 = .ok (.ixor, 1) := by decide +kernel
theorem dX4_liveSounds_20 : decode cX4_liveSounds 20 = .ok (.iand, 1) := by decide +kernel
theorem dX4_liveSounds_21 : decode cX4_liveSounds 21 = .ok (.ireturn, 1) := by decide +kernel
theorem dX4_isHeard_0 : decode cX4_isHeard 0 = .ok (.aload_n 0, 1) := by decide +kernel
theorem dX4_isHeard_1 : decode cX4_isHeard 1 = .ok (.getfield 26, 3) := by decide +kernel
theorem dX4_isHeard_4 : decode cX4_isHeard 4 = .ok (.getfield 102, 3) := by decide +kernel
theorem dX4_isHeard_7 : decode cX4_isHeard 7 = .ok (.iconst 1, 1) := by decide +kernel
theorem dX4_isHeard_8 : decode cX4_isHeard 8 = .ok (.iload_n 1, 1) := by decide +kernel
theorem dX4_isHeard_9 : decode cX4_isHeard 9 = .ok (.ishl, 1) := by decide +kernel
theorem dX4_isHeard_10 : decode cX4_isHeard 10 = .ok (.iand, 1) := by decide +kernel
theorem dX4_isHeard_11 : decode cX4_isHeard 11 = .ok (.ifCond .ne 24, 3) := by decide +kernel
theorem dX4_isHeard_14 : decode cX4_isHeard 14 = .ok (.aload_n 0, 1) := by decide +kernel
theorem dX4_isHeard_15 : decode cX4_isHeard 15 = .ok (.getfield 19, 3) := by decide +kernel
theorem dX4_isHeard_18 : decode cX4_isHeard 18 = .ok (.iload_n 1, 1) := by decide +kernel
theorem dX4_isHeard_19 : decode cX4_isHeard 19 = .ok (.iload_n 2, 1) := by decide +kernel
theorem dX4_isHeard_20 : decode cX4_isHeard 20 = .ok (.iload_n 3, 1) := by decide +kernel
theorem dX4_isHeard_21 : decode cX4_isHeard 21 = .ok (.iload 4, 2) := by decide +kernel
theorem dX4_isHeard_23 : decode cX4_isHeard 23 = .ok (.iload 5, 2) := by decide +kernel
theorem dX4_isHeard_25 : decode cX4_isHeard 25 = .ok (.invokevirtual 238, 3) := by decide +kernel
theorem dX4_isHeard_28 : decode cX4_isHeard 28 = .ok (.ifCond .eq 7, 3) := by decide +kernel
theorem dX4_isHeard_31 : decode cX4_isHeard 31 = .ok (.iconst 1, 1) := by decide +kernel
theorem dX4_isHeard_32 : decode cX4_isHeard 32 = .ok (.goto 4, 3) := by decide +kernel
theorem dX4_isHeard_35 : decode cX4_isHeard 35 = .ok (.iconst 0, 1) := by decide +kernel
theorem dX4_isHeard_36 : decode cX4_isHeard 36 = .ok (.ireturn, 1) := by decide +kernel
theorem dX4_cellsThatHear_0 : decode cX4_cellsThatHear 0 = .ok (.iconst 0, 1) := by decide +kernel
theorem dX4_cellsThatHear_1 : decode cX4_cellsThatHear 1 = .ok (.istore_n 2, 1) := by decide +kernel
theorem dX4_cellsThatHear_2 : decode cX4_cellsThatHear 2 = .ok (.iconst 0, 1) := by decide +kernel
theorem dX4_cellsThatHear_3 : decode cX4_cellsThatHear 3 = .ok (.istore_n 3, 1) := by decide +kernel
theorem dX4_cellsThatHear_4 : decode cX4_cellsThatHear 4 = .ok (.iload_n 3, 1) := by decide +kernel
theorem dX4_cellsThatHear_5 : decode cX4_cellsThatHear 5 = .ok (.bipush 10, 2) := by decide +kernel
theorem dX4_cellsThatHear_7 : decode cX4_cellsThatHear 7 = .ok (.if_icmp .ge 45, 3) := by decide +kernel
theorem dX4_cellsThatHear_10 : decode cX4_cellsThatHear 10 = .ok (.aload_n 0, 1) := by decide +kernel
theorem dX4_cellsThatHear_11 : decode cX4_cellsThatHear 11 = .ok (.iload_n 1, 1) := by decide +kernel
theorem dX4_cellsThatHear_12 : decode cX4_cellsThatHear 12 = .ok (.iload_n 3, 1) := by decide +kernel
theorem dX4_cellsThatHear_13 : decode cX4_cellsThatHear 13 = .ok (.aload_n 0, 1) := by decide +kernel
theorem dX4_cellsThatHear_14 : decode cX4_cellsThatHear 14 = .ok (.getfield 26, 3) := by decide +kernel
theorem dX4_cellsThatHear_17 : decode cX4_cellsThatHear 17 = .ok (.getfield 93, 3) := by decide +kernel
theorem dX4_cellsThatHear_20 : decode cX4_cellsThatHear 20 = .ok (.aload_n 0, 1) := by decide +kernel
theorem dX4_cellsThatHear_21 : decode cX4_cellsThatHear 21 = .ok (.getfield 26, 3) := by decide +kernel
theorem dX4_cellsThatHear_24 : decode cX4_cellsThatHear 24 = .ok (.getfield 96, 3) := by decide +kernel
theorem dX4_cellsThatHear_27 : decode cX4_cellsThatHear 27 = .ok (.aload_n 0, 1) := by decide +kernel
theorem dX4_cellsThatHear_28 : decode cX4_cellsThatHear 28 = .ok (.getfield 26, 3) := by decide +kernel
theorem dX4_cellsThatHear_31 : decode cX4_cellsThatHear 31 = .ok (.getfield 99, 3) := by decide +kernel
theorem dX4_cellsThatHear_34 : decode cX4_cellsThatHear 34 = .ok (.invokevirtual 242, 3) := by decide +kernel
theorem dX4_cellsThatHear_37 : decode cX4_cellsThatHear 37 = .ok (.ifCond .eq 9, 3) := by decide +kernel
theorem dX4_cellsThatHear_40 : decode cX4_cellsThatHear 40 = .ok (.iload_n 2, 1) := by decide +kernel
theorem dX4_cellsThatHear_41 : decode cX4_cellsThatHear 41 = .ok (.iconst 1, 1) := by decide +kernel
theorem dX4_cellsThatHear_42 : decode cX4_cellsThatHear 42 = .ok (.iload_n 3, 1) := by decide +kernel
theorem dX4_cellsThatHear_43 : decode cX4_cellsThatHear 43 = .ok (.ishl, 1) := by decide +kernel
theorem dX4_cellsThatHear_44 : decode cX4_cellsThatHear 44 = .ok (.ior, 1) := by decide +kernel
theorem dX4_cellsThatHear_45 : decode cX4_cellsThatHear 45 = .ok (.istore_n 2, 1) := by decide +kernel
theorem dX4_cellsThatHear_46 : decode cX4_cellsThatHear 46 = .ok (.iinc 3 1, 3) := by decide +kernel
theorem dX4_cellsThatHear_49 : decode cX4_cellsThatHear 49 = .ok (.goto (-45), 3) := by decide +kernel
theorem dX4_cellsThatHear_52 : decode cX4_cellsThatHear 52 = .ok (.iload_n 2, 1) := by decide +kernel
theorem dX4_cellsThatHear_53 : decode cX4_cellsThatHear 53 = .ok (.ireturn, 1) := by decide +kernel
theorem dX4_soundSet_0 : decode cX4_soundSet 0 = .ok (.aload_n 0, 1) := by decide +kernel
theorem dX4_soundSet_1 : decode cX4_soundSet 1 = .ok (.invokevirtual 174, 3) := by decide +kernel
theorem dX4_soundSet_4 : decode cX4_soundSet 4 = .ok (.istore_n 3, 1) := by decide +kernel
theorem dX4_soundSet_5 : decode cX4_soundSet 5 = .ok (.iconst 0, 1) := by decide +kernel
theorem dX4_soundSet_6 : decode cX4_soundSet 6 = .ok (.istore 4, 2) := by decide +kernel
theorem dX4_soundSet_8 : decode cX4_soundSet 8 = .ok (.iconst 0, 1) := by decide +kernel
theorem dX4_soundSet_9 : decode cX4_soundSet 9 = .ok (.istore 5, 2) := by decide +kernel
theorem dX4_soundSet_11 : decode cX4_soundSet 11 = .ok (.iload 5, 2) := by decide +kernel
theorem dX4_soundSet_13 : decode cX4_soundSet 13 = .ok (.aload_n 0, 1) := by decide +kernel
theorem dX4_soundSet_14 : decode cX4_soundSet 14 = .ok (.getfield 19, 3) := by decide +kernel
theorem dX4_soundSet_17 : decode cX4_soundSet 17 = .ok (.getfield 87, 3) := by decide +kernel
theorem dX4_soundSet_20 : decode cX4_soundSet 20 = .ok (.if_icmp .ge 57, 3) := by decide +kernel
theorem dX4_soundSet_23 : decode cX4_soundSet 23 = .ok (.iconst 1, 1) := by decide +kernel
theorem dX4_soundSet_24 : decode cX4_soundSet 24 = .ok (.iload 5, 2) := by decide +kernel
theorem dX4_soundSet_26 : decode cX4_soundSet 26 = .ok (.ishl, 1) := by decide +kernel
theorem dX4_soundSet_27 : decode cX4_soundSet 27 = .ok (.istore 6, 2) := by decide +kernel
theorem dX4_soundSet_29 : decode cX4_soundSet 29 = .ok (.iload_n 3, 1) := by decide +kernel
theorem dX4_soundSet_30 : decode cX4_soundSet 30 = .ok (.iload 6, 2) := by decide +kernel
theorem dX4_soundSet_32 : decode cX4_soundSet 32 = .ok (.iand, 1) := by decide +kernel
theorem dX4_soundSet_33 : decode cX4_soundSet 33 = .ok (.ifCond .eq 38, 3) := by decide +kernel
theorem dX4_soundSet_36 : decode cX4_soundSet 36 = .ok (.aload_n 0, 1) := by decide +kernel
theorem dX4_soundSet_37 : decode cX4_soundSet 37 = .ok (.getfield 19, 3) := by decide +kernel
theorem dX4_soundSet_40 : decode cX4_soundSet 40 = .ok (.iload 5, 2) := by decide +kernel
theorem dX4_soundSet_42 : decode cX4_soundSet 42 = .ok (.iload_n 1, 1) := by decide +kernel
theorem dX4_soundSet_43 : decode cX4_soundSet 43 = .ok (.iload_n 2, 1) := by decide +kernel
theorem dX4_soundSet_44 : decode cX4_soundSet 44 = .ok (.aload_n 0, 1) := by decide +kernel
theorem dX4_soundSet_45 : decode cX4_soundSet 45 = .ok (.getfield 26, 3) := by decide +kernel
theorem dX4_soundSet_48 : decode cX4_soundSet 48 = .ok (.getfield 96, 3) := by decide +kernel
theorem dX4_soundSet_51 : decode cX4_soundSet 51 = .ok (.aload_n 0, 1) := by decide +kernel
theorem dX4_soundSet_52 : decode cX4_soundSet 52 = .ok (.getfield 26, 3) := by decide +kernel
theorem dX4_soundSet_55 : decode cX4_soundSet 55 = .ok (.getfield 99, 3) := by decide +kernel
theorem dX4_soundSet_58 : decode cX4_soundSet 58 = .ok (.invokevirtual 238, 3) := by decide +kernel
theorem dX4_soundSet_61 : decode cX4_soundSet 61 = .ok (.ifCond .eq 10, 3) := by decide +kernel
theorem dX4_soundSet_64 : decode cX4_soundSet 64 = .ok (.iload 4, 2) := by decide +kernel
theorem dX4_soundSet_66 : decode cX4_soundSet 66 = .ok (.iload 6, 2) := by decide +kernel
theorem dX4_soundSet_68 : decode cX4_soundSet 68 = .ok (.ior, 1) := by decide +kernel
theorem dX4_soundSet_69 : decode cX4_soundSet 69 = .ok (.istore 4, 2) := by decide +kernel
theorem dX4_soundSet_71 : decode cX4_soundSet 71 = .ok (.iinc 5 1, 3) := by decide +kernel
theorem dX4_soundSet_74 : decode cX4_soundSet 74 = .ok (.goto (-63), 3) := by decide +kernel
theorem dX4_soundSet_77 : decode cX4_soundSet 77 = .ok (.iload 4, 2) := by decide +kernel
theorem dX4_soundSet_79 : decode cX4_soundSet 79 = .ok (.ireturn, 1) := by decide +kernel
theorem dX4_hammerSet_0 : decode cX4_hammerSet 0 = .ok (.iconst 0, 1) := by decide +kernel
theorem dX4_hammerSet_1 : decode cX4_hammerSet 1 = .ok (.istore 4, 2) := by decide +kernel
theorem dX4_hammerSet_3 : decode cX4_hammerSet 3 = .ok (.iload_n 2, 1) := by decide +kernel
theorem dX4_hammerSet_4 : decode cX4_hammerSet 4 = .ok (.bipush 10, 2) := by decide +kernel
theorem dX4_hammerSet_6 : decode cX4_hammerSet 6 = .ok (.if_icmp .eq 34, 3) := by decide +kernel
theorem dX4_hammerSet_9 : decode cX4_hammerSet 9 = .ok (.iconst 0, 1) := by decide +kernel
theorem dX4_hammerSet_10 : decode cX4_hammerSet 10 = .ok (.iconst 3, 1) := by decide +kernel
theorem dX4_hammerSet_11 : decode cX4_hammerSet 11 = .ok (.iload_n 2, 1) := by decide +kernel
theorem dX4_hammerSet_12 : decode cX4_hammerSet 12 = .ok (.iload_n 1, 1) := by decide +kernel
theorem dX4_hammerSet_13 : decode cX4_hammerSet 13 = .ok (.aload_n 0, 1) := by decide +kernel
theorem dX4_hammerSet_14 : decode cX4_hammerSet 14 = .ok (.getfield 26, 3) := by decide +kernel
theorem dX4_hammerSet_17 : decode cX4_hammerSet 17 = .ok (.getfield 96, 3) := by decide +kernel
theorem dX4_hammerSet_20 : decode cX4_hammerSet 20 = .ok (.aload_n 0, 1) := by decide +kernel
theorem dX4_hammerSet_21 : decode cX4_hammerSet 21 = .ok (.getfield 26, 3) := by decide +kernel
theorem dX4_hammerSet_24 : decode cX4_hammerSet 24 = .ok (.getfield 99, 3) := by decide +kernel
theorem dX4_hammerSet_27 : decode cX4_hammerSet 27 = .ok (.invokestatic 201, 3) := by decide +kernel
theorem dX4_hammerSet_30 : decode cX4_hammerSet 30 = .ok (.ifCond .eq 10, 3) := by decide +kernel
theorem dX4_hammerSet_33 : decode cX4_hammerSet 33 = .ok (.iload 4, 2) := by decide +kernel
theorem dX4_hammerSet_35 : decode cX4_hammerSet 35 = .ok (.bipush 64, 2) := by decide +kernel
theorem dX4_hammerSet_37 : decode cX4_hammerSet 37 = .ok (.ior, 1) := by decide +kernel
theorem dX4_hammerSet_38 : decode cX4_hammerSet 38 = .ok (.istore 4, 2) := by decide +kernel
theorem dX4_hammerSet_40 : decode cX4_hammerSet 40 = .ok (.iload_n 3, 1) := by decide +kernel
theorem dX4_hammerSet_41 : decode cX4_hammerSet 41 = .ok (.bipush 10, 2) := by decide +kernel
theorem dX4_hammerSet_43 : decode cX4_hammerSet 43 = .ok (.if_icmp .eq 35, 3) := by decide +kernel
theorem dX4_hammerSet_46 : decode cX4_hammerSet 46 = .ok (.iconst 0, 1) := by decide +kernel
theorem dX4_hammerSet_47 : decode cX4_hammerSet 47 = .ok (.iconst 3, 1) := by decide +kernel
theorem dX4_hammerSet_48 : decode cX4_hammerSet 48 = .ok (.iload_n 3, 1) := by decide +kernel
theorem dX4_hammerSet_49 : decode cX4_hammerSet 49 = .ok (.iload_n 1, 1) := by decide +kernel
theorem dX4_hammerSet_50 : decode cX4_hammerSet 50 = .ok (.aload_n 0, 1) := by decide +kernel
theorem dX4_hammerSet_51 : decode cX4_hammerSet 51 = .ok (.getfield 26, 3) := by decide +kernel
theorem dX4_hammerSet_54 : decode cX4_hammerSet 54 = .ok (.getfield 96, 3) := by decide +kernel
theorem dX4_hammerSet_57 : decode cX4_hammerSet 57 = .ok (.aload_n 0, 1) := by decide +kernel
theorem dX4_hammerSet_58 : decode cX4_hammerSet 58 = .ok (.getfield 26, 3) := by decide +kernel
theorem dX4_hammerSet_61 : decode cX4_hammerSet 61 = .ok (.getfield 99, 3) := by decide +kernel
theorem dX4_hammerSet_64 : decode cX4_hammerSet 64 = .ok (.invokestatic 201, 3) := by decide +kernel
theorem dX4_hammerSet_67 : decode cX4_hammerSet 67 = .ok (.ifCond .eq 11, 3) := by decide +kernel
theorem dX4_hammerSet_70 : decode cX4_hammerSet 70 = .ok (.iload 4, 2) := by decide +kernel
theorem dX4_hammerSet_72 : decode cX4_hammerSet 72 = .ok (.sipush 128, 3) := by decide +kernel
theorem dX4_hammerSet_75 : decode cX4_hammerSet 75 = .ok (.ior, 1) := by decide +kernel
theorem dX4_hammerSet_76 : decode cX4_hammerSet 76 = .ok (.istore 4, 2) := by decide +kernel
theorem dX4_hammerSet_78 : decode cX4_hammerSet 78 = .ok (.iload 4, 2) := by decide +kernel
theorem dX4_hammerSet_80 : decode cX4_hammerSet 80 = .ok (.ireturn, 1) := by decide +kernel
theorem dX4_setNow_0 : decode cX4_setNow 0 = .ok (.aload_n 0, 1) := by decide +kernel
theorem dX4_setNow_1 : decode cX4_setNow 1 = .ok (.iload_n 1, 1) := by decide +kernel
theorem dX4_setNow_2 : decode cX4_setNow 2 = .ok (.iload_n 2, 1) := by decide +kernel
theorem dX4_setNow_3 : decode cX4_setNow 3 = .ok (.invokevirtual 245, 3) := by decide +kernel
theorem dX4_setNow_6 : decode cX4_setNow 6 = .ok (.aload_n 0, 1) := by decide +kernel
theorem dX4_setNow_7 : decode cX4_setNow 7 = .ok (.iload_n 1, 1) := by decide +kernel
theorem dX4_setNow_8 : decode cX4_setNow 8 = .ok (.aload_n 0, 1) := by decide +kernel
theorem dX4_setNow_9 : decode cX4_setNow 9 = .ok (.getfield 26, 3) := by decide +kernel
theorem dX4_setNow_12 : decode cX4_setNow 12 = .ok (.getfield 108, 3) := by decide +kernel
theorem dX4_setNow_15 : decode cX4_setNow 15 = .ok (.aload_n 0, 1) := by decide +kernel
theorem dX4_setNow_16 : decode cX4_setNow 16 = .ok (.getfield 26, 3) := by decide +kernel
theorem dX4_setNow_19 : decode cX4_setNow 19 = .ok (.getfield 114, 3) := by decide +kernel
theorem dX4_setNow_22 : decode cX4_setNow 22 = .ok (.invokevirtual 248, 3) := by decide +kernel
theorem dX4_setNow_25 : decode cX4_setNow 25 = .ok (.ior, 1) := by decide +kernel
theorem dX4_setNow_26 : decode cX4_setNow 26 = .ok (.ireturn, 1) := by decide +kernel
theorem dX4_fillSoundSets_0 : decode cX4_fillSoundSets 0 = .ok (.iconst 0, 1) := by decide +kernel
theorem dX4_fillSoundSets_1 : decode cX4_fillSoundSets 1 = .ok (.istore_n 2, 1) := by decide +kernel
theorem dX4_fillSoundSets_2 : decode cX4_fillSoundSets 2 = .ok (.iload_n 2, 1) := by decide +kernel
theorem dX4_fillSoundSets_3 : decode cX4_fillSoundSets 3 = .ok (.bipush 10, 2) := by decide +kernel
theorem dX4_fillSoundSets_5 : decode cX4_fillSoundSets 5 = .ok (.if_icmp .ge 21, 3) := by decide +kernel
theorem dX4_fillSoundSets_8 : decode cX4_fillSoundSets 8 = .ok (.aload_n 0, 1) := by decide +kernel
theorem dX4_fillSoundSets_9 : decode cX4_fillSoundSets 9 = .ok (.getfield 52, 3) := by decide +kernel
theorem dX4_fillSoundSets_12 : decode cX4_fillSoundSets 12 = .ok (.iload_n 2, 1) := by decide +kernel
theorem dX4_fillSoundSets_13 : decode cX4_fillSoundSets 13 = .ok (.aload_n 0, 1) := by decide +kernel
theorem dX4_fillSoundSets_14 : decode cX4_fillSoundSets 14 = .ok (.iload_n 2, 1) := by decide +kernel
theorem dX4_fillSoundSets_15 : decode cX4_fillSoundSets 15 = .ok (.iload_n 1, 1) := by decide +kernel
theorem dX4_fillSoundSets_16 : decode cX4_fillSoundSets 16 = .ok (.invokevirtual 245, 3) := by decide +kernel
theorem dX4_fillSoundSets_19 : decode cX4_fillSoundSets 19 = .ok (.iastore, 1) := by decide +kernel
theorem dX4_fillSoundSets_20 : decode cX4_fillSoundSets 20 = .ok (.iinc 2 1, 3) := by decide +kernel
theorem dX4_fillSoundSets_23 : decode cX4_fillSoundSets 23 = .ok (.goto (-21), 3) := by decide +kernel
theorem dX4_fillSoundSets_26 : decode cX4_fillSoundSets 26 = .ok (.return_, 1) := by decide +kernel
theorem dX4_fillSets_0 : decode cX4_fillSets 0 = .ok (.iconst 0, 1) := by decide +kernel
theorem dX4_fillSets_1 : decode cX4_fillSets 1 = .ok (.istore_n 3, 1) := by decide +kernel
theorem dX4_fillSets_2 : decode cX4_fillSets 2 = .ok (.iload_n 3, 1) := by decide +kernel
theorem dX4_fillSets_3 : decode cX4_fillSets 3 = .ok (.bipush 10, 2) := by decide +kernel
theorem dX4_fillSets_5 : decode cX4_fillSets 5 = .ok (.if_icmp .ge 29, 3) := by decide +kernel
theorem dX4_fillSets_8 : decode cX4_fillSets 8 = .ok (.aload_n 0, 1) := by decide +kernel
theorem dX4_fillSets_9 : decode cX4_fillSets 9 = .ok (.getfield 55, 3) := by decide +kernel
theorem dX4_fillSets_12 : decode cX4_fillSets 12 = .ok (.iload_n 3, 1) := by decide +kernel
theorem dX4_fillSets_13 : decode cX4_fillSets 13 = .ok (.aload_n 0, 1) := by decide +kernel
theorem dX4_fillSets_14 : decode cX4_fillSets 14 = .ok (.getfield 52, 3) := by decide +kernel
theorem dX4_fillSets_17 : decode cX4_fillSets 17 = .ok (.iload_n 3, 1) := by decide +kernel
theorem dX4_fillSets_18 : decode cX4_fillSets 18 = .ok (.iaload, 1) := by decide +kernel
theorem dX4_fillSets_19 : decode cX4_fillSets 19 = .ok (.aload_n 0, 1) := by decide +kernel
theorem dX4_fillSets_20 : decode cX4_fillSets 20 = .ok (.iload_n 3, 1) := by decide +kernel
theorem dX4_fillSets_21 : decode cX4_fillSets 21 = .ok (.iload_n 1, 1) := by decide +kernel
theorem dX4_fillSets_22 : decode cX4_fillSets 22 = .ok (.iload_n 2, 1) := by decide +kernel
theorem dX4_fillSets_23 : decode cX4_fillSets 23 = .ok (.invokevirtual 248, 3) := by decide +kernel
theorem dX4_fillSets_26 : decode cX4_fillSets 26 = .ok (.ior, 1) := by decide +kernel
theorem dX4_fillSets_27 : decode cX4_fillSets 27 = .ok (.iastore, 1) := by decide +kernel
theorem dX4_fillSets_28 : decode cX4_fillSets 28 = .ok (.iinc 3 1, 3) := by decide +kernel
theorem dX4_fillSets_31 : decode cX4_fillSets 31 = .ok (.goto (-29), 3) := by decide +kernel
theorem dX4_fillSets_34 : decode cX4_fillSets 34 = .ok (.return_, 1) := by decide +kernel
theorem dX4_fillSetsNow_0 : decode cX4_fillSetsNow 0 = .ok (.aload_n 0, 1) := by decide +kernel
theorem dX4_fillSetsNow_1 : decode cX4_fillSetsNow 1 = .ok (.iload_n 1, 1) := by decide +kernel
theorem dX4_fillSetsNow_2 : decode cX4_fillSetsNow 2 = .ok (.invokevirtual 195, 3) := by decide +kernel
theorem dX4_fillSetsNow_5 : decode cX4_fillSetsNow 5 = .ok (.aload_n 0, 1) := by decide +kernel
theorem dX4_fillSetsNow_6 : decode cX4_fillSetsNow 6 = .ok (.aload_n 0, 1) := by decide +kernel
theorem dX4_fillSetsNow_7 : decode cX4_fillSetsNow 7 = .ok (.getfield 26, 3) := by decide +kernel
theorem dX4_fillSetsNow_10 : decode cX4_fillSetsNow 10 = .ok (.getfield 108, 3) := by decide +kernel
theorem dX4_fillSetsNow_13 : decode cX4_fillSetsNow 13 = .ok (.aload_n 0, 1) := by decide +kernel
theorem dX4_fillSetsNow_14 : decode cX4_fillSetsNow 14 = .ok (.getfield 26, 3) := by decide +kernel
theorem dX4_fillSetsNow_17 : decode cX4_fillSetsNow 17 = .ok (.getfield 114, 3) := by decide +kernel
theorem dX4_fillSetsNow_20 : decode cX4_fillSetsNow 20 = .ok (.invokevirtual 252, 3) := by decide +kernel
theorem dX4_fillSetsNow_23 : decode cX4_fillSetsNow 23 = .ok (.return_, 1) := by decide +kernel
theorem dX4_sureCells_0 : decode cX4_sureCells 0 = .ok (.iconst 0, 1) := by decide +kernel
theorem dX4_sureCells_1 : decode cX4_sureCells 1 = .ok (.istore_n 2, 1) := by decide +kernel
theorem dX4_sureCells_2 : decode cX4_sureCells 2 = .ok (.iconst 0, 1) := by decide +kernel
theorem dX4_sureCells_3 : decode cX4_sureCells 3 = .ok (.istore_n 3, 1) := by decide +kernel
theorem dX4_sureCells_4 : decode cX4_sureCells 4 = .ok (.iload_n 3, 1) := by decide +kernel
theorem dX4_sureCells_5 : decode cX4_sureCells 5 = .ok (.bipush 10, 2) := by decide +kernel
theorem dX4_sureCells_7 : decode cX4_sureCells 7 = .ok (.if_icmp .ge 57, 3) := by decide +kernel
theorem dX4_sureCells_10 : decode cX4_sureCells 10 = .ok (.iload_n 3, 1) := by decide +kernel
theorem dX4_sureCells_11 : decode cX4_sureCells 11 = .ok (.iconst 1, 1) := by decide +kernel
theorem dX4_sureCells_12 : decode cX4_sureCells 12 = .ok (.iadd, 1) := by decide +kernel
theorem dX4_sureCells_13 : decode cX4_sureCells 13 = .ok (.istore 4, 2) := by decide +kernel
theorem dX4_sureCells_15 : decode cX4_sureCells 15 = .ok (.iload 4, 2) := by decide +kernel
theorem dX4_sureCells_17 : decode cX4_sureCells 17 = .ok (.bipush 10, 2) := by decide +kernel
theorem dX4_sureCells_19 : decode cX4_sureCells 19 = .ok (.if_icmp .ge 39, 3) := by decide +kernel
theorem dX4_sureCells_22 : decode cX4_sureCells 22 = .ok (.aload_n 0, 1) := by decide +kernel
theorem dX4_sureCells_23 : decode cX4_sureCells 23 = .ok (.getfield 55, 3) := by decide +kernel
theorem dX4_sureCells_26 : decode cX4_sureCells 26 = .ok (.iload_n 3, 1) := by decide +kernel
theorem dX4_sureCells_27 : decode cX4_sureCells 27 = .ok (.iaload, 1) := by decide +kernel
theorem dX4_sureCells_28 : decode cX4_sureCells 28 = .ok (.aload_n 0, 1) := by decide +kernel
theorem dX4_sureCells_29 : decode cX4_sureCells 29 = .ok (.getfield 55, 3) := by decide +kernel
theorem dX4_sureCells_32 : decode cX4_sureCells 32 = .ok (.iload 4, 2) := by decide +kernel
theorem dX4_sureCells_34 : decode cX4_sureCells 34 = .ok (.iaload, 1) := by decide +kernel
theorem dX4_sureCells_35 : decode cX4_sureCells 35 = .ok (.ixor, 1) := by decide +kernel
theorem dX4_sureCells_36 : decode cX4_sureCells 36 = .ok (.iload_n 1, 1) := by decide +kernel
theorem dX4_sureCells_37 : decode cX4_sureCells 37 = .ok (.iand, 1) := by decide +kernel
theorem dX4_sureCells_38 : decode cX4_sureCells 38 = .ok (.ifCond .ne 14, 3) := by decide +kernel
theorem dX4_sureCells_41 : decode cX4_sureCells 41 = .ok (.iload_n 2, 1) := by decide +kernel
theorem dX4_sureCells_42 : decode cX4_sureCells 42 = .ok (.iconst 1, 1) := by decide +kernel
theorem dX4_sureCells_43 : decode cX4_sureCells 43 = .ok (.iload_n 3, 1) := by decide +kernel
theorem dX4_sureCells_44 : decode cX4_sureCells 44 = .ok (.ishl, 1) := by decide +kernel
theorem dX4_sureCells_45 : decode cX4_sureCells 45 = .ok (.iconst 1, 1) := by decide +kernel
theorem dX4_sureCells_46 : decode cX4_sureCells 46 = .ok (.iload 4, 2) := by decide +kernel
theorem dX4_sureCells_48 : decode cX4_sureCells 48 = .ok (.ishl, 1) := by decide +kernel
theorem dX4_sureCells_49 : decode cX4_sureCells 49 = .ok (.ior, 1) := by decide +kernel
theorem dX4_sureCells_50 : decode cX4_sureCells 50 = .ok (.ior, 1) := by decide +kernel
theorem dX4_sureCells_51 : decode cX4_sureCells 51 = .ok (.istore_n 2, 1) := by decide +kernel
theorem dX4_sureCells_52 : decode cX4_sureCells 52 = .ok (.iinc 4 1, 3) := by decide +kernel
theorem dX4_sureCells_55 : decode cX4_sureCells 55 = .ok (.goto (-40), 3) := by decide +kernel
theorem dX4_sureCells_58 : decode cX4_sureCells 58 = .ok (.iinc 3 1, 3) := by decide +kernel
theorem dX4_sureCells_61 : decode cX4_sureCells 61 = .ok (.goto (-57), 3) := by decide +kernel
theorem dX4_sureCells_64 : decode cX4_sureCells 64 = .ok (.sipush 1023, 3) := by decide +kernel
theorem dX4_sureCells_67 : decode cX4_sureCells 67 = .ok (.iload_n 2, 1) := by decide +kernel
theorem dX4_sureCells_68 : decode cX4_sureCells 68 = .ok (.iconst (-1), 1) := by decide +kernel
theorem dX4_sureCells_69 : decode cX4_sureCells 69 = .ok (.ixor, 1) := by decide +kernel
theorem dX4_sureCells_70 : decode cX4_sureCells 70 = .ok (.iand, 1) := by decide +kernel
theorem dX4_sureCells_71 : decode cX4_sureCells 71 = .ok (.ireturn, 1) := by decide +kernel
theorem dX4_sureCount_0 : decode cX4_sureCount 0 = .ok (.aload_n 0, 1) := by decide +kernel
theorem dX4_sureCount_1 : decode cX4_sureCount 1 = .ok (.iload_n 1, 1) := by decide +kernel
theorem dX4_sureCount_2 : decode cX4_sureCount 2 = .ok (.sipush 192, 3) := by decide +kernel
theorem dX4_sureCount_5 : decode cX4_sureCount 5 = .ok (.ior, 1) := by decide +kernel
theorem dX4_sureCount_6 : decode cX4_sureCount 6 = .ok (.invokevirtual 168, 3) := by decide +kernel
theorem dX4_sureCount_9 : decode cX4_sureCount 9 = .ok (.invokestatic 184, 3) := by decide +kernel
theorem dX4_sureCount_12 : decode cX4_sureCount 12 = .ok (.ireturn, 1) := by decide +kernel
theorem dX4_isSure_0 : decode cX4_isSure 0 = .ok (.aload_n 0, 1) := by decide +kernel
theorem dX4_isSure_1 : decode cX4_isSure 1 = .ok (.iload_n 2, 1) := by decide +kernel
theorem dX4_isSure_2 : decode cX4_isSure 2 = .ok (.sipush 192, 3) := by decide +kernel
theorem dX4_isSure_5 : decode cX4_isSure 5 = .ok (.ior, 1) := by decide +kernel
theorem dX4_isSure_6 : decode cX4_isSure 6 = .ok (.invokevirtual 168, 3) := by decide +kernel
theorem dX4_isSure_9 : decode cX4_isSure 9 = .ok (.iload_n 1, 1) := by decide +kernel
theorem dX4_isSure_10 : decode cX4_isSure 10 = .ok (.ishr, 1) := by decide +kernel
theorem dX4_isSure_11 : decode cX4_isSure 11 = .ok (.iconst 1, 1) := by decide +kernel
theorem dX4_isSure_12 : decode cX4_isSure 12 = .ok (.iand, 1) := by decide +kernel
theorem dX4_isSure_13 : decode cX4_isSure 13 = .ok (.iconst 1, 1) := by decide +kernel
theorem dX4_isSure_14 : decode cX4_isSure 14 = .ok (.if_icmp .ne 7, 3) := by decide +kernel
theorem dX4_isSure_17 : decode cX4_isSure 17 = .ok (.iconst 1, 1) := by decide +kernel
theorem dX4_isSure_18 : decode cX4_isSure 18 = .ok (.goto 4, 3) := by decide +kernel
theorem dX4_isSure_21 : decode cX4_isSure 21 = .ok (.iconst 0, 1) := by decide +kernel
theorem dX4_isSure_22 : decode cX4_isSure 22 = .ok (.ireturn, 1) := by decide +kernel
theorem dX4_sureCountWith_0 : decode cX4_sureCountWith 0 = .ok (.aload_n 0, 1) := by decide +kernel
theorem dX4_sureCountWith_1 : decode cX4_sureCountWith 1 = .ok (.iload_n 1, 1) := by decide +kernel
theorem dX4_sureCountWith_2 : decode cX4_sureCountWith 2 = .ok (.iload_n 2, 1) := by decide +kernel
theorem dX4_sureCountWith_3 : decode cX4_sureCountWith 3 = .ok (.invokevirtual 252, 3) := by decide +kernel
theorem dX4_sureCountWith_6 : decode cX4_sureCountWith 6 = .ok (.aload_n 0, 1) := by decide +kernel
theorem dX4_sureCountWith_7 : decode cX4_sureCountWith 7 = .ok (.sipush 255, 3) := by decide +kernel
theorem dX4_sureCountWith_10 : decode cX4_sureCountWith 10 = .ok (.invokevirtual 177, 3) := by decide +kernel
theorem dX4_sureCountWith_13 : decode cX4_sureCountWith 13 = .ok (.ireturn, 1) := by decide +kernel
theorem dX4_fewestHammers_0 : decode cX4_fewestHammers 0 = .ok (.aload_n 0, 1) := by decide +kernel
theorem dX4_fewestHammers_1 : decode cX4_fewestHammers 1 = .ok (.bipush 10, 2) := by decide +kernel
theorem dX4_fewestHammers_3 : decode cX4_fewestHammers 3 = .ok (.bipush 10, 2) := by decide +kernel
theorem dX4_fewestHammers_5 : decode cX4_fewestHammers 5 = .ok (.invokevirtual 256, 3) := by decide +kernel
theorem dX4_fewestHammers_8 : decode cX4_fewestHammers 8 = .ok (.iload_n 1, 1) := by decide +kernel
theorem dX4_fewestHammers_9 : decode cX4_fewestHammers 9 = .ok (.if_icmp .lt 5, 3) := by decide +kernel
theorem dX4_fewestHammers_12 : decode cX4_fewestHammers 12 = .ok (.iconst 0, 1) := by decide +kernel
theorem dX4_fewestHammers_13 : decode cX4_fewestHammers 13 = .ok (.ireturn, 1) := by decide +kernel
theorem dX4_fewestHammers_14 : decode cX4_fewestHammers 14 = .ok (.iconst 0, 1) := by decide +kernel
theorem dX4_fewestHammers_15 : decode cX4_fewestHammers 15 = .ok (.istore_n 2, 1) := by decide +kernel
theorem dX4_fewestHammers_16 : decode cX4_fewestHammers 16 = .ok (.iload_n 2, 1) := by decide +kernel
theorem dX4_fewestHammers_17 : decode cX4_fewestHammers 17 = .ok (.bipush 10, 2) := by decide +kernel
theorem dX4_fewestHammers_19 : decode cX4_fewestHammers 19 = .ok (.if_icmp .ge 25, 3) := by decide +kernel
theorem dX4_fewestHammers_22 : decode cX4_fewestHammers 22 = .ok (.aload_n 0, 1) := by decide +kernel
theorem dX4_fewestHammers_23 : decode cX4_fewestHammers 23 = .ok (.iload_n 2, 1) := by decide +kernel
theorem dX4_fewestHammers_24 : decode cX4_fewestHammers 24 = .ok (.bipush 10, 2) := by decide +kernel
theorem dX4_fewestHammers_26 : decode cX4_fewestHammers 26 = .ok (.invokevirtual 256, 3) := by decide +kernel
theorem dX4_fewestHammers_29 : decode cX4_fewestHammers 29 = .ok (.iload_n 1, 1) := by decide +kernel
theorem dX4_fewestHammers_30 : decode cX4_fewestHammers 30 = .ok (.if_icmp .lt 8, 3) := by decide +kernel
theorem dX4_fewestHammers_33 : decode cX4_fewestHammers 33 = .ok (.bipush 100, 2) := by decide +kernel
theorem dX4_fewestHammers_35 : decode cX4_fewestHammers 35 = .ok (.iload_n 2, 1) := by decide +kernel
theorem dX4_fewestHammers_36 : decode cX4_fewestHammers 36 = .ok (.iadd, 1) := by decide +kernel
theorem dX4_fewestHammers_37 : decode cX4_fewestHammers 37 = .ok (.ireturn, 1) := by decide +kernel
theorem dX4_fewestHammers_38 : decode cX4_fewestHammers 38 = .ok (.iinc 2 1, 3) := by decide +kernel
theorem dX4_fewestHammers_41 : decode cX4_fewestHammers 41 = .ok (.goto (-25), 3) := by decide +kernel
theorem dX4_fewestHammers_44 : decode cX4_fewestHammers 44 = .ok (.iconst 0, 1) := by decide +kernel
theorem dX4_fewestHammers_45 : decode cX4_fewestHammers 45 = .ok (.istore_n 2, 1) := by decide +kernel
theorem dX4_fewestHammers_46 : decode cX4_fewestHammers 46 = .ok (.iload_n 2, 1) := by decide +kernel
theorem dX4_fewestHammers_47 : decode cX4_fewestHammers 47 = .ok (.bipush 10, 2) := by decide +kernel
theorem dX4_fewestHammers_49 : decode cX4_fewestHammers 49 = .ok (.if_icmp .ge 46, 3) := by decide +kernel
theorem dX4_fewestHammers_52 : decode cX4_fewestHammers 52 = .ok (.iload_n 2, 1) := by decide +kernel
theorem dX4_fewestHammers_53 : decode cX4_fewestHammers 53 = .ok (.iconst 1, 1) := by decide +kernel
theorem dX4_fewestHammers_54 : decode cX4_fewestHammers 54 = .ok (.iadd, 1) := by decide +kernel
theorem dX4_fewestHammers_55 : decode cX4_fewestHammers 55 = .ok (.istore_n 3, 1) := by decide +kernel
theorem dX4_fewestHammers_56 : decode cX4_fewestHammers 56 = .ok (.iload_n 3, 1) := by decide +kernel
theorem dX4_fewestHammers_57 : decode cX4_fewestHammers 57 = .ok (.bipush 10, 2) := by decide +kernel
theorem dX4_fewestHammers_59 : decode cX4_fewestHammers 59 = .ok (.if_icmp .ge 30, 3) := by decide +kernel
theorem dX4_fewestHammers_62 : decode cX4_fewestHammers 62 = .ok (.aload_n 0, 1) := by decide +kernel
theorem dX4_fewestHammers_63 : decode cX4_fewestHammers 63 = .ok (.iload_n 2, 1) := by decide +kernel
theorem dX4_fewestHammers_64 : decode cX4_fewestHammers 64 = .ok (.iload_n 3, 1) := by decide +kernel
theorem dX4_fewestHammers_65 : decode cX4_fewestHammers 65 = .ok (.invokevirtual 256, 3) := by decide +kernel
theorem dX4_fewestHammers_68 : decode cX4_fewestHammers 68 = .ok (.iload_n 1, 1) := by decide +kernel
theorem dX4_fewestHammers_69 : decode cX4_fewestHammers 69 = .ok (.if_icmp .lt 14, 3) := by decide +kernel
theorem dX4_fewestHammers_72 : decode cX4_fewestHammers 72 = .ok (.sipush 200, 3) := by decide +kernel
theorem dX4_fewestHammers_75 : decode cX4_fewestHammers 75 = .ok (.bipush 10, 2) := by decide +kernel
theorem dX4_fewestHammers_77 : decode cX4_fewestHammers 77 = .ok (.iload_n 2, 1) := by decide +kernel
theorem dX4_fewestHammers_78 : decode cX4_fewestHammers 78 = .ok (.imul, 1) := by decide +kernel
theorem dX4_fewestHammers_79 : decode cX4_fewestHammers 79 = .ok (.iadd, 1) := by decide +kernel
theorem dX4_fewestHammers_80 : decode cX4_fewestHammers 80 = .ok (.iload_n 3, 1) := by decide +kernel
theorem dX4_fewestHammers_81 : decode cX4_fewestHammers 81 = .ok (.iadd, 1) := by decide +kernel
theorem dX4_fewestHammers_82 : decode cX4_fewestHammers 82 = .ok (.ireturn, 1) := by decide +kernel
theorem dX4_fewestHammers_83 : decode cX4_fewestHammers 83 = .ok (.iinc 3 1, 3) := by decide +kernel
theorem dX4_fewestHammers_86 : decode cX4_fewestHammers 86 = .ok (.goto (-30), 3) := by decide +kernel
theorem dX4_fewestHammers_89 : decode cX4_fewestHammers 89 = .ok (.iinc 2 1, 3) := by decide +kernel
theorem dX4_fewestHammers_92 : decode cX4_fewestHammers 92 = .ok (.goto (-46), 3) := by decide +kernel
theorem dX4_fewestHammers_95 : decode cX4_fewestHammers 95 = .ok (.bipush (-9), 2) := by decide +kernel
theorem dX4_fewestHammers_97 : decode cX4_fewestHammers 97 = .ok (.ireturn, 1) := by decide +kernel
theorem dX4_agreesWithSeen_0 : decode cX4_agreesWithSeen 0 = .ok (.iconst 0, 1) := by decide +kernel
theorem dX4_agreesWithSeen_1 : decode cX4_agreesWithSeen 1 = .ok (.istore_n 3, 1) := by decide +kernel
theorem dX4_agreesWithSeen_2 : decode cX4_agreesWithSeen 2 = .ok (.iload_n 3, 1) := by decide +kernel
theorem dX4_agreesWithSeen_3 : decode cX4_agreesWithSeen 3 = .ok (.aload_n 0, 1) := by decide +kernel
theorem dX4_agreesWithSeen_4 : decode cX4_agreesWithSeen 4 = .ok (.getfield 33, 3) := by decide +kernel
theorem dX4_agreesWithSeen_7 : decode cX4_agreesWithSeen 7 = .ok (.getfield 117, 3) := by decide +kernel
theorem dX4_agreesWithSeen_10 : decode cX4_agreesWithSeen 10 = .ok (.if_icmp .ge 75, 3) := by decide +kernel
theorem dX4_agreesWithSeen_13 : decode cX4_agreesWithSeen 13 = .ok (.aload_n 0, 1) := by decide +kernel
theorem dX4_agreesWithSeen_14 : decode cX4_agreesWithSeen 14 = .ok (.getfield 19, 3) := by decide +kernel
theorem dX4_agreesWithSeen_17 : decode cX4_agreesWithSeen 17 = .ok (.aload_n 0, 1) := by decide +kernel
theorem dX4_agreesWithSeen_18 : decode cX4_agreesWithSeen 18 = .ok (.getfield 33, 3) := by decide +kernel
theorem dX4_agreesWithSeen_21 : decode cX4_agreesWithSeen 21 = .ok (.getfield 259, 3) := by decide +kernel
theorem dX4_agreesWithSeen_24 : decode cX4_agreesWithSeen 24 = .ok (.iload_n 3, 1) := by decide +kernel
theorem dX4_agreesWithSeen_25 : decode cX4_agreesWithSeen 25 = .ok (.iaload, 1) := by decide +kernel
theorem dX4_agreesWithSeen_26 : decode cX4_agreesWithSeen 26 = .ok (.invokevirtual 118, 3) := by decide +kernel
theorem dX4_agreesWithSeen_29 : decode cX4_agreesWithSeen 29 = .ok (.ifCond .eq 50, 3) := by decide +kernel
theorem dX4_agreesWithSeen_32 : decode cX4_agreesWithSeen 32 = .ok (.aload_n 0, 1) := by decide +kernel
theorem dX4_agreesWithSeen_33 : decode cX4_agreesWithSeen 33 = .ok (.aload_n 0, 1) := by decide +kernel
theorem dX4_agreesWithSeen_34 : decode cX4_agreesWithSeen 34 = .ok (.getfield 33, 3) := by decide +kernel
theorem dX4_agreesWithSeen_37 : decode cX4_agreesWithSeen 37 = .ok (.getfield 259, 3) := by decide +kernel
theorem dX4_agreesWithSeen_40 : decode cX4_agreesWithSeen 40 = .ok (.iload_n 3, 1) := by decide +kernel
theorem dX4_agreesWithSeen_41 : decode cX4_agreesWithSeen 41 = .ok (.iaload, 1) := by decide +kernel
theorem dX4_agreesWithSeen_42 : decode cX4_agreesWithSeen 42 = .ok (.aload_n 0, 1) := by decide +kernel
theorem dX4_agreesWithSeen_43 : decode cX4_agreesWithSeen 43 = .ok (.getfield 33, 3) := by decide +kernel
theorem dX4_agreesWithSeen_46 : decode cX4_agreesWithSeen 46 = .ok (.getfield 262, 3) := by decide +kernel
theorem dX4_agreesWithSeen_49 : decode cX4_agreesWithSeen 49 = .ok (.iload_n 3, 1) := by decide +kernel
theorem dX4_agreesWithSeen_50 : decode cX4_agreesWithSeen 50 = .ok (.iaload, 1) := by decide +kernel
theorem dX4_agreesWithSeen_51 : decode cX4_agreesWithSeen 51 = .ok (.aload_n 0, 1) := by decide +kernel
theorem dX4_agreesWithSeen_52 : decode cX4_agreesWithSeen 52 = .ok (.getfield 33, 3) := by decide +kernel
theorem dX4_agreesWithSeen_55 : decode cX4_agreesWithSeen 55 = .ok (.getfield 263, 3) := by decide +kernel
theorem dX4_agreesWithSeen_58 : decode cX4_agreesWithSeen 58 = .ok (.iload_n 3, 1) := by decide +kernel
theorem dX4_agreesWithSeen_59 : decode cX4_agreesWithSeen 59 = .ok (.iaload, 1) := by decide +kernel
theorem dX4_agreesWithSeen_60 : decode cX4_agreesWithSeen 60 = .ok (.iload_n 1, 1) := by decide +kernel
theorem dX4_agreesWithSeen_61 : decode cX4_agreesWithSeen 61 = .ok (.iload_n 2, 1) := by decide +kernel
theorem dX4_agreesWithSeen_62 : decode cX4_agreesWithSeen 62 = .ok (.invokevirtual 242, 3) := by decide +kernel
theorem dX4_agreesWithSeen_65 : decode cX4_agreesWithSeen 65 = .ok (.aload_n 0, 1) := by decide +kernel
theorem dX4_agreesWithSeen_66 : decode cX4_agreesWithSeen 66 = .ok (.getfield 33, 3) := by decide +kernel
theorem dX4_agreesWithSeen_69 : decode cX4_agreesWithSeen 69 = .ok (.getfield 265, 3) := by decide +kernel
theorem dX4_agreesWithSeen_72 : decode cX4_agreesWithSeen 72 = .ok (.iload_n 3, 1) := by decide +kernel
theorem dX4_agreesWithSeen_73 : decode cX4_agreesWithSeen 73 = .ok (.baload, 1) := by decide +kernel
theorem dX4_agreesWithSeen_74 : decode cX4_agreesWithSeen 74 = .ok (.if_icmp .eq 5, 3) := by decide +kernel
theorem dX4_agreesWithSeen_77 : decode cX4_agreesWithSeen 77 = .ok (.iconst 0, 1) := by decide +kernel
theorem dX4_agreesWithSeen_78 : decode cX4_agreesWithSeen 78 = .ok (.ireturn, 1) := by decide +kernel
theorem dX4_agreesWithSeen_79 : decode cX4_agreesWithSeen 79 = .ok (.iinc 3 1, 3) := by decide +kernel
theorem dX4_agreesWithSeen_82 : decode cX4_agreesWithSeen 82 = .ok (.goto (-80), 3) := by decide +kernel
theorem dX4_agreesWithSeen_85 : decode cX4_agreesWithSeen 85 = .ok (.iconst 1, 1) := by decide +kernel
theorem dX4_agreesWithSeen_86 : decode cX4_agreesWithSeen 86 = .ok (.ireturn, 1) := by decide +kernel
theorem dX4_canBoth_0 : decode cX4_canBoth 0 = .ok (.iload_n 0, 1) := by decide +kernel
theorem dX4_canBoth_1 : decode cX4_canBoth 1 = .ok (.iload_n 1, 1) := by decide +kernel
theorem dX4_canBoth_2 : decode cX4_canBoth 2 = .ok (.if_icmp .ne 9, 3) := by decide +kernel
theorem dX4_canBoth_5 : decode cX4_canBoth 5 = .ok (.iload_n 0, 1) := by decide +kernel
theorem dX4_canBoth_6 : decode cX4_canBoth 6 = .ok (.bipush 10, 2) := by decide +kernel
theorem dX4_canBoth_8 : decode cX4_canBoth 8 = .ok (.if_icmp .ne 7, 3) := by decide +kernel
theorem dX4_canBoth_11 : decode cX4_canBoth 11 = .ok (.iconst 1, 1) := by decide +kernel
theorem dX4_canBoth_12 : decode cX4_canBoth 12 = .ok (.goto 4, 3) := by decide +kernel
theorem dX4_canBoth_15 : decode cX4_canBoth 15 = .ok (.iconst 0, 1) := by decide +kernel
theorem dX4_canBoth_16 : decode cX4_canBoth 16 = .ok (.ireturn, 1) := by decide +kernel
theorem dX4_fillSureByChoice_0 : decode cX4_fillSureByChoice 0 = .ok (.iconst 0, 1) := by decide +kernel
theorem dX4_fillSureByChoice_1 : decode cX4_fillSureByChoice 1 = .ok (.istore_n 1, 1) := by decide +kernel
theorem dX4_fillSureByChoice_2 : decode cX4_fillSureByChoice 2 = .ok (.iload_n 1, 1) := by decide +kernel
theorem dX4_fillSureByChoice_3 : decode cX4_fillSureByChoice 3 = .ok (.bipush 11, 2) := by decide +kernel
theorem dX4_fillSureByChoice_5 : decode cX4_fillSureByChoice 5 = .ok (.if_icmp .ge 48, 3) := by decide +kernel
theorem dX4_fillSureByChoice_8 : decode cX4_fillSureByChoice 8 = .ok (.iconst 0, 1) := by decide +kernel
theorem dX4_fillSureByChoice_9 : decode cX4_fillSureByChoice 9 = .ok (.istore_n 2, 1) := by decide +kernel
theorem dX4_fillSureByChoice_10 : decode cX4_fillSureByChoice 10 = .ok (.iload_n 2, 1) := by decide +kernel
theorem dX4_fillSureByChoice_11 : decode cX4_fillSureByChoice 11 = .ok (.bipush 11, 2) := by decide +kernel
theorem dX4_fillSureByChoice_13 : decode cX4_fillSureByChoice 13 = .ok (.if_icmp .ge 34, 3) := by decide +kernel
theorem dX4_fillSureByChoice_16 : decode cX4_fillSureByChoice 16 = .ok (.iload_n 1, 1) := by decide +kernel
theorem dX4_fillSureByChoice_17 : decode cX4_fillSureByChoice 17 = .ok (.iload_n 2, 1) := by decide +kernel
theorem dX4_fillSureByChoice_18 : decode cX4_fillSureByChoice 18 = .ok (.invokestatic 269, 3) := by decide +kernel
theorem dX4_fillSureByChoice_21 : decode cX4_fillSureByChoice 21 = .ok (.ifCond .eq 20, 3) := by decide +kernel
theorem dX4_fillSureByChoice_24 : decode cX4_fillSureByChoice 24 = .ok (.aload_n 0, 1) := by decide +kernel
theorem dX4_fillSureByChoice_25 : decode cX4_fillSureByChoice 25 = .ok (.getfield 61, 3) := by decide +kernel
theorem dX4_fillSureByChoice_28 : decode cX4_fillSureByChoice 28 = .ok (.bipush 11, 2) := by decide +kernel
theorem dX4_fillSureByChoice_30 : decode cX4_fillSureByChoice 30 = .ok (.iload_n 1, 1) := by decide +kernel
theorem dX4_fillSureByChoice_31 : decode cX4_fillSureByChoice 31 = .ok (.imul, 1) := by decide +kernel
theorem dX4_fillSureByChoice_32 : decode cX4_fillSureByChoice 32 = .ok (.iload_n 2, 1) := by decide +kernel
theorem dX4_fillSureByChoice_33 : decode cX4_fillSureByChoice 33 = .ok (.iadd, 1) := by decide +kernel
theorem dX4_fillSureByChoice_34 : decode cX4_fillSureByChoice 34 = .ok (.aload_n 0, 1) := by decide +kernel
theorem dX4_fillSureByChoice_35 : decode cX4_fillSureByChoice 35 = .ok (.iload_n 1, 1) := by decide +kernel
theorem dX4_fillSureByChoice_36 : decode cX4_fillSureByChoice 36 = .ok (.iload_n 2, 1) := by decide +kernel
theorem dX4_fillSureByChoice_37 : decode cX4_fillSureByChoice 37 = .ok (.invokevirtual 256, 3) := by decide +kernel
theorem dX4_fillSureByChoice_40 : decode cX4_fillSureByChoice 40 = .ok (.iastore, 1) := by decide +kernel
theorem dX4_fillSureByChoice_41 : decode cX4_fillSureByChoice 41 = .ok (.iinc 2 1, 3) := by decide +kernel
theorem dX4_fillSureByChoice_44 : decode cX4_fillSureByChoice 44 = .ok (.goto (-34), 3) := by decide +kernel
theorem dX4_fillSureByChoice_47 : decode cX4_fillSureByChoice 47 = .ok (.iinc 1 1, 3) := by decide +kernel
theorem dX4_fillSureByChoice_50 : decode cX4_fillSureByChoice 50 = .ok (.goto (-48), 3) := by decide +kernel
theorem dX4_fillSureByChoice_53 : decode cX4_fillSureByChoice 53 = .ok (.return_, 1) := by decide +kernel
theorem dX4_isAtRest_0 : decode cX4_isAtRest 0 = .ok (.iload_n 1, 1) := by decide +kernel
theorem dX4_isAtRest_1 : decode cX4_isAtRest 1 = .ok (.iload_n 2, 1) := by decide +kernel
theorem dX4_isAtRest_2 : decode cX4_isAtRest 2 = .ok (.invokestatic 269, 3) := by decide +kernel
theorem dX4_isAtRest_5 : decode cX4_isAtRest 5 = .ok (.ifCond .ne 5, 3) := by decide +kernel
theorem dX4_isAtRest_8 : decode cX4_isAtRest 8 = .ok (.iconst 0, 1) := by decide +kernel
theorem dX4_isAtRest_9 : decode cX4_isAtRest 9 = .ok (.ireturn, 1) := by decide +kernel
theorem dX4_isAtRest_10 : decode cX4_isAtRest 10 = .ok (.aload_n 0, 1) := by decide +kernel
theorem dX4_isAtRest_11 : decode cX4_isAtRest 11 = .ok (.getfield 61, 3) := by decide +kernel
theorem dX4_isAtRest_14 : decode cX4_isAtRest 14 = .ok (.bipush 11, 2) := by decide +kernel
theorem dX4_isAtRest_16 : decode cX4_isAtRest 16 = .ok (.iload_n 1, 1) := by decide +kernel
theorem dX4_isAtRest_17 : decode cX4_isAtRest 17 = .ok (.imul, 1) := by decide +kernel
theorem dX4_isAtRest_18 : decode cX4_isAtRest 18 = .ok (.iload_n 2, 1) := by decide +kernel
theorem dX4_isAtRest_19 : decode cX4_isAtRest 19 = .ok (.iadd, 1) := by decide +kernel
theorem dX4_isAtRest_20 : decode cX4_isAtRest 20 = .ok (.iaload, 1) := by decide +kernel
theorem dX4_isAtRest_21 : decode cX4_isAtRest 21 = .ok (.istore_n 3, 1) := by decide +kernel
theorem dX4_isAtRest_22 : decode cX4_isAtRest 22 = .ok (.iconst 0, 1) := by decide +kernel
theorem dX4_isAtRest_23 : decode cX4_isAtRest 23 = .ok (.istore 4, 2) := by decide +kernel
theorem dX4_isAtRest_25 : decode cX4_isAtRest 25 = .ok (.iload 4, 2) := by decide +kernel
theorem dX4_isAtRest_27 : decode cX4_isAtRest 27 = .ok (.bipush 11, 2) := by decide +kernel
theorem dX4_isAtRest_29 : decode cX4_isAtRest 29 = .ok (.if_icmp .ge 63, 3) := by decide +kernel
theorem dX4_isAtRest_32 : decode cX4_isAtRest 32 = .ok (.iload 4, 2) := by decide +kernel
theorem dX4_isAtRest_34 : decode cX4_isAtRest 34 = .ok (.iload_n 2, 1) := by decide +kernel
theorem dX4_isAtRest_35 : decode cX4_isAtRest 35 = .ok (.invokestatic 269, 3) := by decide +kernel
theorem dX4_isAtRest_38 : decode cX4_isAtRest 38 = .ok (.ifCond .eq 21, 3) := by decide +kernel
theorem dX4_isAtRest_41 : decode cX4_isAtRest 41 = .ok (.aload_n 0, 1) := by decide +kernel
theorem dX4_isAtRest_42 : decode cX4_isAtRest 42 = .ok (.getfield 61, 3) := by decide +kernel
theorem dX4_isAtRest_45 : decode cX4_isAtRest 45 = .ok (.bipush 11, 2) := by decide +kernel
theorem dX4_isAtRest_47 : decode cX4_isAtRest 47 = .ok (.iload 4, 2) := by decide +kernel
theorem dX4_isAtRest_49 : decode cX4_isAtRest 49 = .ok (.imul, 1) := by decide +kernel
theorem dX4_isAtRest_50 : decode cX4_isAtRest 50 = .ok (.iload_n 2, 1) := by decide +kernel
theorem dX4_isAtRest_51 : decode cX4_isAtRest 51 = .ok (.iadd, 1) := by decide +kernel
theorem dX4_isAtRest_52 : decode cX4_isAtRest 52 = .ok (.iaload, 1) := by decide +kernel
theorem dX4_isAtRest_53 : decode cX4_isAtRest 53 = .ok (.iload_n 3, 1) := by decide +kernel
theorem dX4_isAtRest_54 : decode cX4_isAtRest 54 = .ok (.if_icmp .le 5, 3) := by decide +kernel
theorem dX4_isAtRest_57 : decode cX4_isAtRest 57 = .ok (.iconst 0, 1) := by decide +kernel
theorem dX4_isAtRest_58 : decode cX4_isAtRest 58 = .ok (.ireturn, 1) := by decide +kernel
theorem dX4_isAtRest_59 : decode cX4_isAtRest 59 = .ok (.iload_n 1, 1) := by decide +kernel
theorem dX4_isAtRest_60 : decode cX4_isAtRest 60 = .ok (.iload 4, 2) := by decide +kernel
theorem dX4_isAtRest_62 : decode cX4_isAtRest 62 = .ok (.invokestatic 269, 3) := by decide +kernel
theorem dX4_isAtRest_65 : decode cX4_isAtRest 65 = .ok (.ifCond .eq 21, 3) := by decide +kernel
theorem dX4_isAtRest_68 : decode cX4_isAtRest 68 = .ok (.aload_n 0, 1) := by decide +kernel
theorem dX4_isAtRest_69 : decode cX4_isAtRest 69 = .ok (.getfield 61, 3) := by decide +kernel
theorem dX4_isAtRest_72 : decode cX4_isAtRest 72 = .ok (.bipush 11, 2) := by decide +kernel
theorem dX4_isAtRest_74 : decode cX4_isAtRest 74 = .ok (.iload_n 1, 1) := by decide +kernel
theorem dX4_isAtRest_75 : decode cX4_isAtRest 75 = .ok (.imul, 1) := by decide +kernel
theorem dX4_isAtRest_76 : decode cX4_isAtRest 76 = .ok (.iload 4, 2) := by decide +kernel
theorem dX4_isAtRest_78 : decode cX4_isAtRest 78 = .ok (.iadd, 1) := by decide +kernel
theorem dX4_isAtRest_79 : decode cX4_isAtRest 79 = .ok (.iaload, 1) := by decide +kernel
theorem dX4_isAtRest_80 : decode cX4_isAtRest 80 = .ok (.iload_n 3, 1) := by decide +kernel
theorem dX4_isAtRest_81 : decode cX4_isAtRest 81 = .ok (.if_icmp .ge 5, 3) := by decide +kernel
theorem dX4_isAtRest_84 : decode cX4_isAtRest 84 = .ok (.iconst 0, 1) := by decide +kernel
theorem dX4_isAtRest_85 : decode cX4_isAtRest 85 = .ok (.ireturn, 1) := by decide +kernel
theorem dX4_isAtRest_86 : decode cX4_isAtRest 86 = .ok (.iinc 4 1, 3) := by decide +kernel
theorem dX4_isAtRest_89 : decode cX4_isAtRest 89 = .ok (.goto (-64), 3) := by decide +kernel
theorem dX4_isAtRest_92 : decode cX4_isAtRest 92 = .ok (.iconst 1, 1) := by decide +kernel
theorem dX4_isAtRest_93 : decode cX4_isAtRest 93 = .ok (.ireturn, 1) := by decide +kernel
theorem dX4_power_0 : decode cX4_power 0 = .ok (.iconst 1, 1) := by decide +kernel
theorem dX4_power_1 : decode cX4_power 1 = .ok (.istore_n 2, 1) := by decide +kernel
theorem dX4_power_2 : decode cX4_power 2 = .ok (.iconst 0, 1) := by decide +kernel
theorem dX4_power_3 : decode cX4_power 3 = .ok (.istore_n 3, 1) := by decide +kernel
theorem dX4_power_4 : decode cX4_power 4 = .ok (.iload_n 3, 1) := by decide +kernel
theorem dX4_power_5 : decode cX4_power 5 = .ok (.iload_n 1, 1) := by decide +kernel
theorem dX4_power_6 : decode cX4_power 6 = .ok (.if_icmp .ge 13, 3) := by decide +kernel
theorem dX4_power_9 : decode cX4_power 9 = .ok (.iload_n 2, 1) := by decide +kernel
theorem dX4_power_10 : decode cX4_power 10 = .ok (.iload_n 0, 1) := by decide +kernel
theorem dX4_power_11 : decode cX4_power 11 = .ok (.imul, 1) := by decide +kernel
theorem dX4_power_12 : decode cX4_power 12 = .ok (.istore_n 2, 1) := by decide +kernel
theorem dX4_power_13 : decode cX4_power 13 = .ok (.iinc 3 1, 3) := by decide +kernel
theorem dX4_power_16 : decode cX4_power 16 = .ok (.goto (-12), 3) := by decide +kernel
theorem dX4_power_19 : decode cX4_power 19 = .ok (.iload_n 2, 1) := by decide +kernel
theorem dX4_power_20 : decode cX4_power 20 = .ok (.ireturn, 1) := by decide +kernel
theorem dX4_factorial_0 : decode cX4_factorial 0 = .ok (.iconst 1, 1) := by decide +kernel
theorem dX4_factorial_1 : decode cX4_factorial 1 = .ok (.istore_n 1, 1) := by decide +kernel
theorem dX4_factorial_2 : decode cX4_factorial 2 = .ok (.iconst 2, 1) := by decide +kernel
theorem dX4_factorial_3 : decode cX4_factorial 3 = .ok (.istore_n 2, 1) := by decide +kernel
theorem dX4_factorial_4 : decode cX4_factorial 4 = .ok (.iload_n 2, 1) := by decide +kernel
theorem dX4_factorial_5 : decode cX4_factorial 5 = .ok (.iload_n 0, 1) := by decide +kernel
theorem dX4_factorial_6 : decode cX4_factorial 6 = .ok (.if_icmp .gt 13, 3) := by decide +kernel
theorem dX4_factorial_9 : decode cX4_factorial 9 = .ok (.iload_n 1, 1) := by decide +kernel
theorem dX4_factorial_10 : decode cX4_factorial 10 = .ok (.iload_n 2, 1) := by decide +kernel
theorem dX4_factorial_11 : decode cX4_factorial 11 = .ok (.imul, 1) := by decide +kernel
theorem dX4_factorial_12 : decode cX4_factorial 12 = .ok (.istore_n 1, 1) := by decide +kernel
theorem dX4_factorial_13 : decode cX4_factorial 13 = .ok (.iinc 2 1, 3) := by decide +kernel
theorem dX4_factorial_16 : decode cX4_factorial 16 = .ok (.goto (-12), 3) := by decide +kernel
theorem dX4_factorial_19 : decode cX4_factorial 19 = .ok (.iload_n 1, 1) := by decide +kernel
theorem dX4_factorial_20 : decode cX4_factorial 20 = .ok (.ireturn, 1) := by decide +kernel
theorem dX4_toldPart_0 : decode cX4_toldPart 0 = .ok (.iconst 1, 1) := by decide +kernel
theorem dX4_toldPart_1 : decode cX4_toldPart 1 = .ok (.iload_n 0, 1) := by decide +kernel
theorem dX4_toldPart_2 : decode cX4_toldPart 2 = .ok (.invokestatic 233, 3) := by decide +kernel
theorem dX4_toldPart_5 : decode cX4_toldPart 5 = .ok (.iload_n 1, 1) := by decide +kernel
theorem dX4_toldPart_6 : decode cX4_toldPart 6 = .ok (.invokestatic 272, 3) := by decide +kernel
theorem dX4_toldPart_9 : decode cX4_toldPart 9 = .ok (.invokestatic 275, 3) := by decide +kernel
theorem dX4_toldPart_12 : decode cX4_toldPart 12 = .ok (.istore_n 3, 1) := by decide +kernel
theorem dX4_toldPart_13 : decode cX4_toldPart 13 = .ok (.iload_n 2, 1) := by decide +kernel
theorem dX4_toldPart_14 : decode cX4_toldPart 14 = .ok (.ifCond .eq 9, 3) := by decide +kernel
theorem dX4_toldPart_17 : decode cX4_toldPart 17 = .ok (.iload_n 0, 1) := by decide +kernel
theorem dX4_toldPart_18 : decode cX4_toldPart 18 = .ok (.iload_n 3, 1) := by decide +kernel
theorem dX4_toldPart_19 : decode cX4_toldPart 19 = .ok (.idiv, 1) := by decide +kernel
theorem dX4_toldPart_20 : decode cX4_toldPart 20 = .ok (.goto 6, 3) := by decide +kernel
theorem dX4_toldPart_23 : decode cX4_toldPart 23 = .ok (.iload_n 1, 1) := by decide +kernel
theorem dX4_toldPart_24 : decode cX4_toldPart 24 = .ok (.iload_n 3, 1) := by decide +kernel
theorem dX4_toldPart_25 : decode cX4_toldPart 25 = .ok (.idiv, 1) := by decide +kernel
theorem dX4_toldPart_26 : decode cX4_toldPart 26 = .ok (.ireturn, 1) := by decide +kernel
theorem dX4_greatestDivisor_0 : decode cX4_greatestDivisor 0 = .ok (.iload_n 0, 1) := by decide +kernel
theorem dX4_greatestDivisor_1 : decode cX4_greatestDivisor 1 = .ok (.istore_n 2, 1) := by decide +kernel
theorem dX4_greatestDivisor_2 : decode cX4_greatestDivisor 2 = .ok (.iload_n 1, 1) := by decide +kernel
theorem dX4_greatestDivisor_3 : decode cX4_greatestDivisor 3 = .ok (.istore_n 3, 1) := by decide +kernel
theorem dX4_greatestDivisor_4 : decode cX4_greatestDivisor 4 = .ok (.iconst 0, 1) := by decide +kernel
theorem dX4_greatestDivisor_5 : decode cX4_greatestDivisor 5 = .ok (.istore 4, 2) := by decide +kernel
theorem dX4_greatestDivisor_7 : decode cX4_greatestDivisor 7 = .ok (.iload 4, 2) := by decide +kernel
theorem dX4_greatestDivisor_9 : decode cX4_greatestDivisor 9 = .ok (.bipush 100, 2) := by decide +kernel
theorem dX4_greatestDivisor_11 : decode cX4_greatestDivisor 11 = .ok (.if_icmp .ge 23, 3) := by decide +kernel
theorem dX4_greatestDivisor_14 : decode cX4_greatestDivisor 14 = .ok (.iload_n 3, 1) := by decide +kernel
theorem dX4_greatestDivisor_15 : decode cX4_greatestDivisor 15 = .ok (.ifCond .eq 19, 3) := by decide +kernel
theorem dX4_greatestDivisor_18 : decode cX4_greatestDivisor 18 = .ok (.iload_n 2, 1) := by decide +kernel
theorem dX4_greatestDivisor_19 : decode cX4_greatestDivisor 19 = .ok (.iload_n 3, 1) := by decide +kernel
theorem dX4_greatestDivisor_20 : decode cX4_greatestDivisor 20 = .ok (.irem, 1) := by decide +kernel
theorem dX4_greatestDivisor_21 : decode cX4_greatestDivisor 21 = .ok (.istore 5, 2) := by decide +kernel
theorem dX4_greatestDivisor_23 : decode cX4_greatestDivisor 23 = .ok (.iload_n 3, 1) := by decide +kernel
theorem dX4_greatestDivisor_24 : decode cX4_greatestDivisor 24 = .ok (.istore_n 2, 1) := by decide +kernel
theorem dX4_greatestDivisor_25 : decode cX4_greatestDivisor 25 = .ok (.iload 5, 2) := by decide +kernel
theorem dX4_greatestDivisor_27 : decode cX4_greatestDivisor 27 = .ok (.istore_n 3, 1) := by decide +kernel
theorem dX4_greatestDivisor_28 : decode cX4_greatestDivisor 28 = .ok (.iinc 4 1, 3) := by decide +kernel
