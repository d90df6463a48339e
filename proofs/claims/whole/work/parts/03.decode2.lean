theorem dX4_greatestDivisor_31 : decode cX4_greatestDivisor 31 = .ok (.goto (-24), 3) := by decide +kernel
theorem dX4_greatestDivisor_34 : decode cX4_greatestDivisor 34 = .ok (.iload_n 2, 1) := by decide +kernel
theorem dX4_greatestDivisor_35 : decode cX4_greatestDivisor 35 = .ok (.ireturn, 1) := by decide +kernel
theorem dX5_init_0 : decode cX5_init 0 = .ok (.aload_n 0, 1) := by decide +kernel
theorem dX5_init_1 : decode cX5_init 1 = .ok (.invokespecial 1, 3) := by decide +kernel
theorem dX5_init_4 : decode cX5_init 4 = .ok (.aload_n 0, 1) := by decide +kernel
theorem dX5_init_5 : decode cX5_init 5 = .ok (.bipush 40, 2) := by decide +kernel
theorem dX5_init_7 : decode cX5_init 7 = .ok (.newarray .int, 2) := by decide +kernel
theorem dX5_init_9 : decode cX5_init 9 = .ok (.putfield 7, 3) := by decide +kernel
theorem dX5_init_12 : decode cX5_init 12 = .ok (.aload_n 0, 1) := by decide +kernel
theorem dX5_init_13 : decode cX5_init 13 = .ok (.bipush 30, 2) := by decide +kernel
theorem dX5_init_15 : decode cX5_init 15 = .ok (.newarray .int, 2) := by decide +kernel
theorem dX5_init_17 : decode cX5_init 17 = .ok (.putfield 13, 3) := by decide +kernel
theorem dX5_init_20 : decode cX5_init 20 = .ok (.aload_n 0, 1) := by decide +kernel
theorem dX5_init_21 : decode cX5_init 21 = .ok (.bipush 30, 2) := by decide +kernel
theorem dX5_init_23 : decode cX5_init 23 = .ok (.newarray .int, 2) := by decide +kernel
theorem dX5_init_25 : decode cX5_init 25 = .ok (.putfield 16, 3) := by decide +kernel
theorem dX5_init_28 : decode cX5_init 28 = .ok (.aload_n 0, 1) := by decide +kernel
theorem dX5_init_29 : decode cX5_init 29 = .ok (.bipush 8, 2) := by decide +kernel
theorem dX5_init_31 : decode cX5_init 31 = .ok (.newarray .int, 2) := by decide +kernel
theorem dX5_init_33 : decode cX5_init 33 = .ok (.putfield 19, 3) := by decide +kernel
theorem dX5_init_36 : decode cX5_init 36 = .ok (.aload_n 0, 1) := by decide +kernel
theorem dX5_init_37 : decode cX5_init 37 = .ok (.bipush 8, 2) := by decide +kernel
theorem dX5_init_39 : decode cX5_init 39 = .ok (.newarray .int, 2) := by decide +kernel
theorem dX5_init_41 : decode cX5_init 41 = .ok (.putfield 22, 3) := by decide +kernel
theorem dX5_init_44 : decode cX5_init 44 = .ok (.aload_n 0, 1) := by decide +kernel
theorem dX5_init_45 : decode cX5_init 45 = .ok (.bipush 112, 2) := by decide +kernel
theorem dX5_init_47 : decode cX5_init 47 = .ok (.newarray .int, 2) := by decide +kernel
theorem dX5_init_49 : decode cX5_init 49 = .ok (.putfield 25, 3) := by decide +kernel
theorem dX5_init_52 : decode cX5_init 52 = .ok (.aload_n 0, 1) := by decide +kernel
theorem dX5_init_53 : decode cX5_init 53 = .ok (.bipush 16, 2) := by decide +kernel
theorem dX5_init_55 : decode cX5_init 55 = .ok (.newarray .int, 2) := by decide +kernel
theorem dX5_init_57 : decode cX5_init 57 = .ok (.putfield 28, 3) := by decide +kernel
theorem dX5_init_60 : decode cX5_init 60 = .ok (.aload_n 0, 1) := by decide +kernel
theorem dX5_init_61 : decode cX5_init 61 = .ok (.iconst 2, 1) := by decide +kernel
theorem dX5_init_62 : decode cX5_init 62 = .ok (.newarray .boolean, 2) := by decide +kernel
theorem dX5_init_64 : decode cX5_init 64 = .ok (.putfield 31, 3) := by decide +kernel
theorem dX5_init_67 : decode cX5_init 67 = .ok (.aload_n 0, 1) := by decide +kernel
theorem dX5_init_68 : decode cX5_init 68 = .ok (.bipush 6, 2) := by decide +kernel
theorem dX5_init_70 : decode cX5_init 70 = .ok (.newarray .int, 2) := by decide +kernel
theorem dX5_init_72 : decode cX5_init 72 = .ok (.putfield 35, 3) := by decide +kernel
theorem dX5_init_75 : decode cX5_init 75 = .ok (.aload_n 0, 1) := by decide +kernel
theorem dX5_init_76 : decode cX5_init 76 = .ok (.bipush 6, 2) := by decide +kernel
theorem dX5_init_78 : decode cX5_init 78 = .ok (.newarray .int, 2) := by decide +kernel
theorem dX5_init_80 : decode cX5_init 80 = .ok (.putfield 38, 3) := by decide +kernel
theorem dX5_init_83 : decode cX5_init 83 = .ok (.aload_n 0, 1) := by decide +kernel
theorem dX5_init_84 : decode cX5_init 84 = .ok (.bipush 6, 2) := by decide +kernel
theorem dX5_init_86 : decode cX5_init 86 = .ok (.newarray .int, 2) := by decide +kernel
theorem dX5_init_88 : decode cX5_init 88 = .ok (.putfield 41, 3) := by decide +kernel
theorem dX5_init_91 : decode cX5_init 91 = .ok (.aload_n 0, 1) := by decide +kernel
theorem dX5_init_92 : decode cX5_init 92 = .ok (.bipush 6, 2) := by decide +kernel
theorem dX5_init_94 : decode cX5_init 94 = .ok (.newarray .boolean, 2) := by decide +kernel
theorem dX5_init_96 : decode cX5_init 96 = .ok (.putfield 44, 3) := by decide +kernel
theorem dX5_init_99 : decode cX5_init 99 = .ok (.aload_n 0, 1) := by decide +kernel
theorem dX5_init_100 : decode cX5_init 100 = .ok (.bipush 10, 2) := by decide +kernel
theorem dX5_init_102 : decode cX5_init 102 = .ok (.newarray .int, 2) := by decide +kernel
theorem dX5_init_104 : decode cX5_init 104 = .ok (.putfield 47, 3) := by decide +kernel
theorem dX5_init_107 : decode cX5_init 107 = .ok (.aload_n 0, 1) := by decide +kernel
theorem dX5_init_108 : decode cX5_init 108 = .ok (.bipush 64, 2) := by decide +kernel
theorem dX5_init_110 : decode cX5_init 110 = .ok (.newarray .int, 2) := by decide +kernel
theorem dX5_init_112 : decode cX5_init 112 = .ok (.putfield 50, 3) := by decide +kernel
theorem dX5_init_115 : decode cX5_init 115 = .ok (.aload_n 0, 1) := by decide +kernel
theorem dX5_init_116 : decode cX5_init 116 = .ok (.bipush 121, 2) := by decide +kernel
theorem dX5_init_118 : decode cX5_init 118 = .ok (.newarray .int, 2) := by decide +kernel
theorem dX5_init_120 : decode cX5_init 120 = .ok (.putfield 53, 3) := by decide +kernel
theorem dX5_init_123 : decode cX5_init 123 = .ok (.aload_n 0, 1) := by decide +kernel
theorem dX5_init_124 : decode cX5_init 124 = .ok (.getfield 19, 3) := by decide +kernel
theorem dX5_init_127 : decode cX5_init 127 = .ok (.iconst 4, 1) := by decide +kernel
theorem dX5_init_128 : decode cX5_init 128 = .ok (.bipush (-9), 2) := by decide +kernel
theorem dX5_init_130 : decode cX5_init 130 = .ok (.iastore, 1) := by decide +kernel
theorem dX5_init_131 : decode cX5_init 131 = .ok (.aload_n 0, 1) := by decide +kernel
theorem dX5_init_132 : decode cX5_init 132 = .ok (.getfield 19, 3) := by decide +kernel
theorem dX5_init_135 : decode cX5_init 135 = .ok (.iconst 5, 1) := by decide +kernel
theorem dX5_init_136 : decode cX5_init 136 = .ok (.bipush (-9), 2) := by decide +kernel
theorem dX5_init_138 : decode cX5_init 138 = .ok (.iastore, 1) := by decide +kernel
theorem dX5_init_139 : decode cX5_init 139 = .ok (.aload_n 0, 1) := by decide +kernel
theorem dX5_init_140 : decode cX5_init 140 = .ok (.getfield 19, 3) := by decide +kernel
theorem dX5_init_143 : decode cX5_init 143 = .ok (.bipush 7, 2) := by decide +kernel
theorem dX5_init_145 : decode cX5_init 145 = .ok (.iconst 1, 1) := by decide +kernel
theorem dX5_init_146 : decode cX5_init 146 = .ok (.iastore, 1) := by decide +kernel
theorem dX5_init_147 : decode cX5_init 147 = .ok (.return_, 1) := by decide +kernel
theorem dX5_in_0 : decode cX5_in 0 = .ok (.lload_n 0, 1) := by decide +kernel
theorem dX5_in_1 : decode cX5_in 1 = .ok (.lload_n 2, 1) := by decide +kernel
theorem dX5_in_2 : decode cX5_in 2 = .ok (.lcmp, 1) := by decide +kernel
theorem dX5_in_3 : decode cX5_in 3 = .ok (.ifCond .lt 14, 3) := by decide +kernel
theorem dX5_in_6 : decode cX5_in 6 = .ok (.lload_n 0, 1) := by decide +kernel
theorem dX5_in_7 : decode cX5_in 7 = .ok (.lload 4, 2) := by decide +kernel
theorem dX5_in_9 : decode cX5_in 9 = .ok (.lcmp, 1) := by decide +kernel
theorem dX5_in_10 : decode cX5_in 10 = .ok (.ifCond .gt 7, 3) := by decide +kernel
theorem dX5_in_13 : decode cX5_in 13 = .ok (.iconst 1, 1) := by decide +kernel
theorem dX5_in_14 : decode cX5_in 14 = .ok (.goto 4, 3) := by decide +kernel
theorem dX5_in_17 : decode cX5_in 17 = .ok (.iconst 0, 1) := by decide +kernel
theorem dX5_in_18 : decode cX5_in 18 = .ok (.ireturn, 1) := by decide +kernel
theorem dX5_has_0 : decode cX5_has 0 = .ok (.iload_n 0, 1) := by decide +kernel
theorem dX5_has_1 : decode cX5_has 1 = .ok (.iload_n 1, 1) := by decide +kernel
theorem dX5_has_2 : decode cX5_has 2 = .ok (.ishr, 1) := by decide +kernel
theorem dX5_has_3 : decode cX5_has 3 = .ok (.iconst 1, 1) := by decide +kernel
theorem dX5_has_4 : decode cX5_has 4 = .ok (.iand, 1) := by decide +kernel
theorem dX5_has_5 : decode cX5_has 5 = .ok (.iconst 1, 1) := by decide +kernel
theorem dX5_has_6 : decode cX5_has 6 = .ok (.if_icmp .ne 7, 3) := by decide +kernel
theorem dX5_has_9 : decode cX5_has 9 = .ok (.iconst 1, 1) := by decide +kernel
theorem dX5_has_10 : decode cX5_has 10 = .ok (.goto 4, 3) := by decide +kernel
theorem dX5_has_13 : decode cX5_has 13 = .ok (.iconst 0, 1) := by decide +kernel
theorem dX5_has_14 : decode cX5_has 14 = .ok (.ireturn, 1) := by decide +kernel
theorem dX5_bits_0 : decode cX5_bits 0 = .ok (.iconst 0, 1) := by decide +kernel
theorem dX5_bits_1 : decode cX5_bits 1 = .ok (.istore_n 1, 1) := by decide +kernel
theorem dX5_bits_2 : decode cX5_bits 2 = .ok (.iconst 0, 1) := by decide +kernel
theorem dX5_bits_3 : decode cX5_bits 3 = .ok (.istore_n 2, 1) := by decide +kernel
theorem dX5_bits_4 : decode cX5_bits 4 = .ok (.iload_n 2, 1) := by decide +kernel
theorem dX5_bits_5 : decode cX5_bits 5 = .ok (.bipush 10, 2) := by decide +kernel
theorem dX5_bits_7 : decode cX5_bits 7 = .ok (.if_icmp .ge 17, 3) := by decide +kernel
theorem dX5_bits_10 : decode cX5_bits 10 = .ok (.iload_n 1, 1) := by decide +kernel
theorem dX5_bits_11 : decode cX5_bits 11 = .ok (.iload_n 0, 1) := by decide +kernel
theorem dX5_bits_12 : decode cX5_bits 12 = .ok (.iload_n 2, 1) := by decide +kernel
theorem dX5_bits_13 : decode cX5_bits 13 = .ok (.ishr, 1) := by decide +kernel
theorem dX5_bits_14 : decode cX5_bits 14 = .ok (.iconst 1, 1) := by decide +kernel
theorem dX5_bits_15 : decode cX5_bits 15 = .ok (.iand, 1) := by decide +kernel
theorem dX5_bits_16 : decode cX5_bits 16 = .ok (.iadd, 1) := by decide +kernel
theorem dX5_bits_17 : decode cX5_bits 17 = .ok (.istore_n 1, 1) := by decide +kernel
theorem dX5_bits_18 : decode cX5_bits 18 = .ok (.iinc 2 1, 3) := by decide +kernel
theorem dX5_bits_21 : decode cX5_bits 21 = .ok (.goto (-17), 3) := by decide +kernel
theorem dX5_bits_24 : decode cX5_bits 24 = .ok (.iload_n 1, 1) := by decide +kernel
theorem dX5_bits_25 : decode cX5_bits 25 = .ok (.ireturn, 1) := by decide +kernel
theorem dX5_far_0 : decode cX5_far 0 = .ok (.iload_n 0, 1) := by decide +kernel
theorem dX5_far_1 : decode cX5_far 1 = .ok (.iload_n 1, 1) := by decide +kernel
theorem dX5_far_2 : decode cX5_far 2 = .ok (.if_icmp .ge 9, 3) := by decide +kernel
theorem dX5_far_5 : decode cX5_far 5 = .ok (.iload_n 1, 1) := by decide +kernel
theorem dX5_far_6 : decode cX5_far 6 = .ok (.iload_n 0, 1) := by decide +kernel
theorem dX5_far_7 : decode cX5_far 7 = .ok (.isub, 1) := by decide +kernel
theorem dX5_far_8 : decode cX5_far 8 = .ok (.goto 6, 3) := by decide +kernel
theorem dX5_far_11 : decode cX5_far 11 = .ok (.iload_n 0, 1) := by decide +kernel
theorem dX5_far_12 : decode cX5_far 12 = .ok (.iload_n 1, 1) := by decide +kernel
theorem dX5_far_13 : decode cX5_far 13 = .ok (.isub, 1) := by decide +kernel
theorem dX5_far_14 : decode cX5_far 14 = .ok (.ireturn, 1) := by decide +kernel
theorem dX5_noSound_0 : decode cX5_noSound 0 = .ok (.iload_n 1, 1) := by decide +kernel
theorem dX5_noSound_1 : decode cX5_noSound 1 = .ok (.i2l, 1) := by decide +kernel
theorem dX5_noSound_2 : decode cX5_noSound 2 = .ok (.lconst 0, 1) := by decide +kernel
theorem dX5_noSound_3 : decode cX5_noSound 3 = .ok (.aload_n 0, 1) := by decide +kernel
theorem dX5_noSound_4 : decode cX5_noSound 4 = .ok (.getfield 60, 3) := by decide +kernel
theorem dX5_noSound_7 : decode cX5_noSound 7 = .ok (.iconst 1, 1) := by decide +kernel
theorem dX5_noSound_8 : decode cX5_noSound 8 = .ok (.isub, 1) := by decide +kernel
theorem dX5_noSound_9 : decode cX5_noSound 9 = .ok (.i2l, 1) := by decide +kernel
theorem dX5_noSound_10 : decode cX5_noSound 10 = .ok (.invokestatic 63, 3) := by decide +kernel
theorem dX5_noSound_13 : decode cX5_noSound 13 = .ok (.ifCond .ne 7, 3) := by decide +kernel
theorem dX5_noSound_16 : decode cX5_noSound 16 = .ok (.iconst 1, 1) := by decide +kernel
theorem dX5_noSound_17 : decode cX5_noSound 17 = .ok (.goto 4, 3) := by decide +kernel
theorem dX5_noSound_20 : decode cX5_noSound 20 = .ok (.iconst 0, 1) := by decide +kernel
theorem dX5_noSound_21 : decode cX5_noSound 21 = .ok (.ireturn, 1) := by decide +kernel
theorem dX5_noCell_0 : decode cX5_noCell 0 = .ok (.iload_n 0, 1) := by decide +kernel
theorem dX5_noCell_1 : decode cX5_noCell 1 = .ok (.i2l, 1) := by decide +kernel
theorem dX5_noCell_2 : decode cX5_noCell 2 = .ok (.lconst 0, 1) := by decide +kernel
theorem dX5_noCell_3 : decode cX5_noCell 3 = .ok (.ldc2_w 67, 3) := by decide +kernel
theorem dX5_noCell_6 : decode cX5_noCell 6 = .ok (.invokestatic 63, 3) := by decide +kernel
theorem dX5_noCell_9 : decode cX5_noCell 9 = .ok (.ifCond .ne 7, 3) := by decide +kernel
theorem dX5_noCell_12 : decode cX5_noCell 12 = .ok (.iconst 1, 1) := by decide +kernel
theorem dX5_noCell_13 : decode cX5_noCell 13 = .ok (.goto 4, 3) := by decide +kernel
theorem dX5_noCell_16 : decode cX5_noCell 16 = .ok (.iconst 0, 1) := by decide +kernel
theorem dX5_noCell_17 : decode cX5_noCell 17 = .ok (.ireturn, 1) := by decide +kernel
theorem dX5_noHour_0 : decode cX5_noHour 0 = .ok (.iload_n 0, 1) := by decide +kernel
theorem dX5_noHour_1 : decode cX5_noHour 1 = .ok (.i2l, 1) := by decide +kernel
theorem dX5_noHour_2 : decode cX5_noHour 2 = .ok (.lconst 0, 1) := by decide +kernel
theorem dX5_noHour_3 : decode cX5_noHour 3 = .ok (.ldc2_w 67, 3) := by decide +kernel
theorem dX5_noHour_6 : decode cX5_noHour 6 = .ok (.invokestatic 63, 3) := by decide +kernel
theorem dX5_noHour_9 : decode cX5_noHour 9 = .ok (.ifCond .ne 7, 3) := by decide +kernel
theorem dX5_noHour_12 : decode cX5_noHour 12 = .ok (.iconst 1, 1) := by decide +kernel
theorem dX5_noHour_13 : decode cX5_noHour 13 = .ok (.goto 4, 3) := by decide +kernel
theorem dX5_noHour_16 : decode cX5_noHour 16 = .ok (.iconst 0, 1) := by decide +kernel
theorem dX5_noHour_17 : decode cX5_noHour 17 = .ok (.ireturn, 1) := by decide +kernel
theorem dX5_write_0 : decode cX5_write 0 = .ok (.aload_n 0, 1) := by decide +kernel
theorem dX5_write_1 : decode cX5_write 1 = .ok (.iconst 0, 1) := by decide +kernel
theorem dX5_write_2 : decode cX5_write 2 = .ok (.putfield 56, 3) := by decide +kernel
theorem dX5_write_5 : decode cX5_write 5 = .ok (.iload_n 1, 1) := by decide +kernel
theorem dX5_write_6 : decode cX5_write 6 = .ok (.i2l, 1) := by decide +kernel
theorem dX5_write_7 : decode cX5_write 7 = .ok (.lconst 0, 1) := by decide +kernel
theorem dX5_write_8 : decode cX5_write 8 = .ok (.ldc2_w 69, 3) := by decide +kernel
theorem dX5_write_11 : decode cX5_write 11 = .ok (.invokestatic 63, 3) := by decide +kernel
theorem dX5_write_14 : decode cX5_write 14 = .ok (.ifCond .ne 6, 3) := by decide +kernel
theorem dX5_write_17 : decode cX5_write 17 = .ok (.bipush (-2), 2) := by decide +kernel
theorem dX5_write_19 : decode cX5_write 19 = .ok (.ireturn, 1) := by decide +kernel
theorem dX5_write_20 : decode cX5_write 20 = .ok (.aload_n 0, 1) := by decide +kernel
theorem dX5_write_21 : decode cX5_write 21 = .ok (.getfield 71, 3) := by decide +kernel
theorem dX5_write_24 : decode cX5_write 24 = .ok (.bipush 40, 2) := by decide +kernel
theorem dX5_write_26 : decode cX5_write 26 = .ok (.if_icmp .ne 6, 3) := by decide +kernel
theorem dX5_write_29 : decode cX5_write 29 = .ok (.bipush (-4), 2) := by decide +kernel
theorem dX5_write_31 : decode cX5_write 31 = .ok (.ireturn, 1) := by decide +kernel
theorem dX5_write_32 : decode cX5_write 32 = .ok (.aload_n 0, 1) := by decide +kernel
theorem dX5_write_33 : decode cX5_write 33 = .ok (.getfield 7, 3) := by decide +kernel
theorem dX5_write_36 : decode cX5_write 36 = .ok (.aload_n 0, 1) := by decide +kernel
theorem dX5_write_37 : decode cX5_write 37 = .ok (.getfield 71, 3) := by decide +kernel
theorem dX5_write_40 : decode cX5_write 40 = .ok (.iload_n 1, 1) := by decide +kernel
theorem dX5_write_41 : decode cX5_write 41 = .ok (.iastore, 1) := by decide +kernel
theorem dX5_write_42 : decode cX5_write 42 = .ok (.aload_n 0, 1) := by decide +kernel
theorem dX5_write_43 : decode cX5_write 43 = .ok (.dup, 1) := by decide +kernel
theorem dX5_write_44 : decode cX5_write 44 = .ok (.getfield 71, 3) := by decide +kernel
theorem dX5_write_47 : decode cX5_write 47 = .ok (.iconst 1, 1) := by decide +kernel
theorem dX5_write_48 : decode cX5_write 48 = .ok (.iadd, 1) := by decide +kernel
theorem dX5_write_49 : decode cX5_write 49 = .ok (.putfield 71, 3) := by decide +kernel
theorem dX5_write_52 : decode cX5_write 52 = .ok (.aload_n 0, 1) := by decide +kernel
theorem dX5_write_53 : decode cX5_write 53 = .ok (.getfield 71, 3) := by decide +kernel
theorem dX5_write_56 : decode cX5_write 56 = .ok (.ireturn, 1) := by decide +kernel
theorem dX5_wipe_0 : decode cX5_wipe 0 = .ok (.aload_n 0, 1) := by decide +kernel
theorem dX5_wipe_1 : decode cX5_wipe 1 = .ok (.iconst 0, 1) := by decide +kernel
theorem dX5_wipe_2 : decode cX5_wipe 2 = .ok (.putfield 56, 3) := by decide +kernel
theorem dX5_wipe_5 : decode cX5_wipe 5 = .ok (.aload_n 0, 1) := by decide +kernel
theorem dX5_wipe_6 : decode cX5_wipe 6 = .ok (.getfield 71, 3) := by decide +kernel
theorem dX5_wipe_9 : decode cX5_wipe 9 = .ok (.istore_n 1, 1) := by decide +kernel
theorem dX5_wipe_10 : decode cX5_wipe 10 = .ok (.aload_n 0, 1) := by decide +kernel
theorem dX5_wipe_11 : decode cX5_wipe 11 = .ok (.iconst 0, 1) := by decide +kernel
theorem dX5_wipe_12 : decode cX5_wipe 12 = .ok (.putfield 71, 3) := by decide +kernel
theorem dX5_wipe_15 : decode cX5_wipe 15 = .ok (.iload_n 1, 1) := by decide +kernel
theorem dX5_wipe_16 : decode cX5_wipe 16 = .ok (.ireturn, 1) := by decide +kernel
theorem dX5_figure_0 : decode cX5_figure 0 = .ok (.aload_n 0, 1) := by decide +kernel
theorem dX5_figure_1 : decode cX5_figure 1 = .ok (.getfield 74, 3) := by decide +kernel
theorem dX5_figure_4 : decode cX5_figure 4 = .ok (.aload_n 0, 1) := by decide +kernel
theorem dX5_figure_5 : decode cX5_figure 5 = .ok (.getfield 71, 3) := by decide +kernel
theorem dX5_figure_8 : decode cX5_figure 8 = .ok (.if_icmp .eq 26, 3) := by decide +kernel
theorem dX5_figure_11 : decode cX5_figure 11 = .ok (.aload_n 0, 1) := by decide +kernel
theorem dX5_figure_12 : decode cX5_figure 12 = .ok (.getfield 7, 3) := by decide +kernel
theorem dX5_figure_15 : decode cX5_figure 15 = .ok (.aload_n 0, 1) := by decide +kernel
theorem dX5_figure_16 : decode cX5_figure 16 = .ok (.getfield 74, 3) := by decide +kernel
theorem dX5_figure_19 : decode cX5_figure 19 = .ok (.iaload, 1) := by decide +kernel
theorem dX5_figure_20 : decode cX5_figure 20 = .ok (.bipush 48, 2) := by decide +kernel
theorem dX5_figure_22 : decode cX5_figure 22 = .ok (.isub, 1) := by decide +kernel
theorem dX5_figure_23 : decode cX5_figure 23 = .ok (.i2l, 1) := by decide +kernel
theorem dX5_figure_24 : decode cX5_figure 24 = .ok (.iload_n 1, 1) := by decide +kernel
theorem dX5_figure_25 : decode cX5_figure 25 = .ok (.i2l, 1) := by decide +kernel
theorem dX5_figure_26 : decode cX5_figure 26 = .ok (.iload_n 2, 1) := by decide +kernel
theorem dX5_figure_27 : decode cX5_figure 27 = .ok (.i2l, 1) := by decide +kernel
theorem dX5_figure_28 : decode cX5_figure 28 = .ok (.invokestatic 63, 3) := by decide +kernel
theorem dX5_figure_31 : decode cX5_figure 31 = .ok (.ifCond .ne 6, 3) := by decide +kernel
theorem dX5_figure_34 : decode cX5_figure 34 = .ok (.bipush (-9), 2) := by decide +kernel
theorem dX5_figure_36 : decode cX5_figure 36 = .ok (.ireturn, 1) := by decide +kernel
theorem dX5_figure_37 : decode cX5_figure 37 = .ok (.aload_n 0, 1) := by decide +kernel
theorem dX5_figure_38 : decode cX5_figure 38 = .ok (.dup, 1) := by decide +kernel
theorem dX5_figure_39 : decode cX5_figure 39 = .ok (.getfield 74, 3) := by decide +kernel
theorem dX5_figure_42 : decode cX5_figure 42 = .ok (.iconst 1, 1) := by decide +kernel
theorem dX5_figure_43 : decode cX5_figure 43 = .ok (.iadd, 1) := by decide +kernel
theorem dX5_figure_44 : decode cX5_figure 44 = .ok (.putfield 74, 3) := by decide +kernel
theorem dX5_figure_47 : decode cX5_figure 47 = .ok (.aload_n 0, 1) := by decide +kernel
theorem dX5_figure_48 : decode cX5_figure 48 = .ok (.getfield 7, 3) := by decide +kernel
theorem dX5_figure_51 : decode cX5_figure 51 = .ok (.aload_n 0, 1) := by decide +kernel
theorem dX5_figure_52 : decode cX5_figure 52 = .ok (.getfield 74, 3) := by decide +kernel
theorem dX5_figure_55 : decode cX5_figure 55 = .ok (.iconst 1, 1) := by decide +kernel
theorem dX5_figure_56 : decode cX5_figure 56 = .ok (.isub, 1) := by decide +kernel
theorem dX5_figure_57 : decode cX5_figure 57 = .ok (.iaload, 1) := by decide +kernel
theorem dX5_figure_58 : decode cX5_figure 58 = .ok (.bipush 48, 2) := by decide +kernel
theorem dX5_figure_60 : decode cX5_figure 60 = .ok (.isub, 1) := by decide +kernel
theorem dX5_figure_61 : decode cX5_figure 61 = .ok (.ireturn, 1) := by decide +kernel
theorem dX5_readHead_0 : decode cX5_readHead 0 = .ok (.aload_n 0, 1) := by decide +kernel
theorem dX5_readHead_1 : decode cX5_readHead 1 = .ok (.aload_n 0, 1) := by decide +kernel
theorem dX5_readHead_2 : decode cX5_readHead 2 = .ok (.iconst 0, 1) := by decide +kernel
theorem dX5_readHead_3 : decode cX5_readHead 3 = .ok (.bipush 9, 2) := by decide +kernel
theorem dX5_readHead_5 : decode cX5_readHead 5 = .ok (.invokevirtual 77, 3) := by decide +kernel
theorem dX5_readHead_8 : decode cX5_readHead 8 = .ok (.putfield 81, 3) := by decide +kernel
theorem dX5_readHead_11 : decode cX5_readHead 11 = .ok (.aload_n 0, 1) := by decide +kernel
theorem dX5_readHead_12 : decode cX5_readHead 12 = .ok (.aload_n 0, 1) := by decide +kernel
theorem dX5_readHead_13 : decode cX5_readHead 13 = .ok (.getfield 81, 3) := by decide +kernel
theorem dX5_readHead_16 : decode cX5_readHead 16 = .ok (.bipush (-9), 2) := by decide +kernel
theorem dX5_readHead_18 : decode cX5_readHead 18 = .ok (.if_icmp .ne 8, 3) := by decide +kernel
theorem dX5_readHead_21 : decode cX5_readHead 21 = .ok (.bipush (-9), 2) := by decide +kernel
theorem dX5_readHead_23 : decode cX5_readHead 23 = .ok (.goto 9, 3) := by decide +kernel
theorem dX5_readHead_26 : decode cX5_readHead 26 = .ok (.aload_n 0, 1) := by decide +kernel
theorem dX5_readHead_27 : decode cX5_readHead 27 = .ok (.iconst 0, 1) := by decide +kernel
theorem dX5_readHead_28 : decode cX5_readHead 28 = .ok (.iconst 4, 1) := by decide +kernel
theorem dX5_readHead_29 : decode cX5_readHead 29 = .ok (.invokevirtual 77, 3) := by decide +kernel
theorem dX5_readHead_32 : decode cX5_readHead 32 = .ok (.putfield 84, 3) := by decide +kernel
theorem dX5_readHead_35 : decode cX5_readHead 35 = .ok (.aload_n 0, 1) := by decide +kernel
theorem dX5_readHead_36 : decode cX5_readHead 36 = .ok (.aload_n 0, 1) := by decide +kernel
theorem dX5_readHead_37 : decode cX5_readHead 37 = .ok (.getfield 84, 3) := by decide +kernel
theorem dX5_readHead_40 : decode cX5_readHead 40 = .ok (.bipush (-9), 2) := by decide +kernel
theorem dX5_readHead_42 : decode cX5_readHead 42 = .ok (.if_icmp .ne 8, 3) := by decide +kernel
theorem dX5_readHead_45 : decode cX5_readHead 45 = .ok (.bipush (-9), 2) := by decide +kernel
theorem dX5_readHead_47 : decode cX5_readHead 47 = .ok (.goto 9, 3) := by decide +kernel
theorem dX5_readHead_50 : decode cX5_readHead 50 = .ok (.aload_n 0, 1) := by decide +kernel
theorem dX5_readHead_51 : decode cX5_readHead 51 = .ok (.iconst 0, 1) := by decide +kernel
theorem dX5_readHead_52 : decode cX5_readHead 52 = .ok (.iconst 2, 1) := by decide +kernel
theorem dX5_readHead_53 : decode cX5_readHead 53 = .ok (.invokevirtual 77, 3) := by decide +kernel
theorem dX5_readHead_56 : decode cX5_readHead 56 = .ok (.putfield 87, 3) := by decide +kernel
theorem dX5_readHead_59 : decode cX5_readHead 59 = .ok (.aload_n 0, 1) := by decide +kernel
theorem dX5_readHead_60 : decode cX5_readHead 60 = .ok (.getfield 87, 3) := by decide +kernel
theorem dX5_readHead_63 : decode cX5_readHead 63 = .ok (.bipush (-9), 2) := by decide +kernel
theorem dX5_readHead_65 : decode cX5_readHead 65 = .ok (.if_icmp .eq 7, 3) := by decide +kernel
theorem dX5_readHead_68 : decode cX5_readHead 68 = .ok (.iconst 1, 1) := by decide +kernel
theorem dX5_readHead_69 : decode cX5_readHead 69 = .ok (.goto 4, 3) := by decide +kernel
theorem dX5_readHead_72 : decode cX5_readHead 72 = .ok (.iconst 0, 1) := by decide +kernel
theorem dX5_readHead_73 : decode cX5_readHead 73 = .ok (.ireturn, 1) := by decide +kernel
theorem dX5_readPart_0 : decode cX5_readPart 0 = .ok (.iconst 5, 1) := by decide +kernel
theorem dX5_readPart_1 : decode cX5_readPart 1 = .ok (.aload_n 0, 1) := by decide +kernel
theorem dX5_readPart_2 : decode cX5_readPart 2 = .ok (.getfield 90, 3) := by decide +kernel
theorem dX5_readPart_5 : decode cX5_readPart 5 = .ok (.imul, 1) := by decide +kernel
theorem dX5_readPart_6 : decode cX5_readPart 6 = .ok (.istore_n 1, 1) := by decide +kernel
theorem dX5_readPart_7 : decode cX5_readPart 7 = .ok (.iconst 0, 1) := by decide +kernel
theorem dX5_readPart_8 : decode cX5_readPart 8 = .ok (.istore_n 2, 1) := by decide +kernel
theorem dX5_readPart_9 : decode cX5_readPart 9 = .ok (.iload_n 2, 1) := by decide +kernel
theorem dX5_readPart_10 : decode cX5_readPart 10 = .ok (.iconst 5, 1) := by decide +kernel
theorem dX5_readPart_11 : decode cX5_readPart 11 = .ok (.if_icmp .ge 73, 3) := by decide +kernel
theorem dX5_readPart_14 : decode cX5_readPart 14 = .ok (.iload_n 2, 1) := by decide +kernel
theorem dX5_readPart_15 : decode cX5_readPart 15 = .ok (.iconst 1, 1) := by decide +kernel
theorem dX5_readPart_16 : decode cX5_readPart 16 = .ok (.if_icmp .ne 7, 3) := by decide +kernel
theorem dX5_readPart_19 : decode cX5_readPart 19 = .ok (.iconst 1, 1) := by decide +kernel
theorem dX5_readPart_20 : decode cX5_readPart 20 = .ok (.goto 20, 3) := by decide +kernel
theorem dX5_readPart_23 : decode cX5_readPart 23 = .ok (.iload_n 2, 1) := by decide +kernel
theorem dX5_readPart_24 : decode cX5_readPart 24 = .ok (.iconst 3, 1) := by decide +kernel
theorem dX5_readPart_25 : decode cX5_readPart 25 = .ok (.if_icmp .ne 14, 3) := by decide +kernel
theorem dX5_readPart_28 : decode cX5_readPart 28 = .ok (.aload_n 0, 1) := by decide +kernel
theorem dX5_readPart_29 : decode cX5_readPart 29 = .ok (.getfield 16, 3) := by decide +kernel
theorem dX5_readPart_32 : decode cX5_readPart 32 = .ok (.iload_n 1, 1) := by decide +kernel
theorem dX5_readPart_33 : decode cX5_readPart 33 = .ok (.iconst 2, 1) := by decide +kernel
theorem dX5_readPart_34 : decode cX5_readPart 34 = .ok (.iadd, 1) := by decide +kernel
theorem dX5_readPart_35 : decode cX5_readPart 35 = .ok (.iaload, 1) := by decide +kernel
theorem dX5_readPart_36 : decode cX5_readPart 36 = .ok (.goto 4, 3) := by decide +kernel
theorem dX5_readPart_39 : decode cX5_readPart 39 = .ok (.iconst 0, 1) := by decide +kernel
theorem dX5_readPart_40 : decode cX5_readPart 40 = .ok (.istore_n 3, 1) := by decide +kernel
theorem dX5_readPart_41 : decode cX5_readPart 41 = .ok (.aload_n 0, 1) := by decide +kernel
theorem dX5_readPart_42 : decode cX5_readPart 42 = .ok (.iload_n 3, 1) := by decide +kernel
theorem dX5_readPart_43 : decode cX5_readPart 43 = .ok (.iload_n 2, 1) := by decide +kernel
theorem dX5_readPart_44 : decode cX5_readPart 44 = .ok (.iconst 4, 1) := by decide +kernel
theorem dX5_readPart_45 : decode cX5_readPart 45 = .ok (.if_icmp .ne 7, 3) := by decide +kernel
theorem dX5_readPart_48 : decode cX5_readPart 48 = .ok (.iconst 3, 1) := by decide +kernel
theorem dX5_readPart_49 : decode cX5_readPart 49 = .ok (.goto 5, 3) := by decide +kernel
theorem dX5_readPart_52 : decode cX5_readPart 52 = .ok (.bipush 9, 2) := by decide +kernel
theorem dX5_readPart_54 : decode cX5_readPart 54 = .ok (.invokevirtual 77, 3) := by decide +kernel
theorem dX5_readPart_57 : decode cX5_readPart 57 = .ok (.istore 4, 2) := by decide +kernel
theorem dX5_readPart_59 : decode cX5_readPart 59 = .ok (.iload 4, 2) := by decide +kernel
theorem dX5_readPart_61 : decode cX5_readPart 61 = .ok (.bipush (-9), 2) := by decide +kernel
theorem dX5_readPart_63 : decode cX5_readPart 63 = .ok (.if_icmp .ne 5, 3) := by decide +kernel
theorem dX5_readPart_66 : decode cX5_readPart 66 = .ok (.iconst 0, 1) := by decide +kernel
theorem dX5_readPart_67 : decode cX5_readPart 67 = .ok (.ireturn, 1) := by decide +kernel
theorem dX5_readPart_68 : decode cX5_readPart 68 = .ok (.aload_n 0, 1) := by decide +kernel
theorem dX5_readPart_69 : decode cX5_readPart 69 = .ok (.getfield 16, 3) := by decide +kernel
theorem dX5_readPart_72 : decode cX5_readPart 72 = .ok (.iload_n 1, 1) := by decide +kernel
theorem dX5_readPart_73 : decode cX5_readPart 73 = .ok (.iload_n 2, 1) := by decide +kernel
theorem dX5_readPart_74 : decode cX5_readPart 74 = .ok (.iadd, 1) := by decide +kernel
theorem dX5_readPart_75 : decode cX5_readPart 75 = .ok (.iload 4, 2) := by decide +kernel
theorem dX5_readPart_77 : decode cX5_readPart 77 = .ok (.iastore, 1) := by decide +kernel
theorem dX5_readPart_78 : decode cX5_readPart 78 = .ok (.iinc 2 1, 3) := by decide +kernel
theorem dX5_readPart_81 : decode cX5_readPart 81 = .ok (.goto (-72), 3) := by decide +kernel
theorem dX5_readPart_84 : decode cX5_readPart 84 = .ok (.aload_n 0, 1) := by decide +kernel
theorem dX5_readPart_85 : decode cX5_readPart 85 = .ok (.dup, 1) := by decide +kernel
theorem dX5_readPart_86 : decode cX5_readPart 86 = .ok (.getfield 90, 3) := by decide +kernel
theorem dX5_readPart_89 : decode cX5_readPart 89 = .ok (.iconst 1, 1) := by decide +kernel
theorem dX5_readPart_90 : decode cX5_readPart 90 = .ok (.iadd, 1) := by decide +kernel
theorem dX5_readPart_91 : decode cX5_readPart 91 = .ok (.putfield 90, 3) := by decide +kernel
theorem dX5_readPart_94 : decode cX5_readPart 94 = .ok (.iconst 1, 1) := by decide +kernel
theorem dX5_readPart_95 : decode cX5_readPart 95 = .ok (.ireturn, 1) := by decide +kernel
theorem dX5_readRiver_0 : decode cX5_readRiver 0 = .ok (.aload_n 0, 1) := by decide +kernel
theorem dX5_readRiver_1 : decode cX5_readRiver 1 = .ok (.iconst 0, 1) := by decide +kernel
theorem dX5_readRiver_2 : decode cX5_readRiver 2 = .ok (.putfield 74, 3) := by decide +kernel
theorem dX5_readRiver_5 : decode cX5_readRiver 5 = .ok (.aload_n 0, 1) := by decide +kernel
theorem dX5_readRiver_6 : decode cX5_readRiver 6 = .ok (.iconst 0, 1) := by decide +kernel
theorem dX5_readRiver_7 : decode cX5_readRiver 7 = .ok (.putfield 90, 3) := by decide +kernel
theorem dX5_readRiver_10 : decode cX5_readRiver 10 = .ok (.aload_n 0, 1) := by decide +kernel
theorem dX5_readRiver_11 : decode cX5_readRiver 11 = .ok (.getfield 71, 3) := by decide +kernel
theorem dX5_readRiver_14 : decode cX5_readRiver 14 = .ok (.ifCond .eq 14, 3) := by decide +kernel
theorem dX5_readRiver_17 : decode cX5_readRiver 17 = .ok (.aload_n 0, 1) := by decide +kernel
theorem dX5_readRiver_18 : decode cX5_readRiver 18 = .ok (.getfield 7, 3) := by decide +kernel
theorem dX5_readRiver_21 : decode cX5_readRiver 21 = .ok (.iconst 0, 1) := by decide +kernel
theorem dX5_readRiver_22 : decode cX5_readRiver 22 = .ok (.iaload, 1) := by decide +kernel
theorem dX5_readRiver_23 : decode cX5_readRiver 23 = .ok (.bipush 82, 2) := by decide +kernel
theorem dX5_readRiver_25 : decode cX5_readRiver 25 = .ok (.if_icmp .eq 5, 3) := by decide +kernel
theorem dX5_readRiver_28 : decode cX5_readRiver 28 = .ok (.iconst 0, 1) := by decide +kernel
theorem dX5_readRiver_29 : decode cX5_readRiver 29 = .ok (.ireturn, 1) := by decide +kernel
theorem dX5_readRiver_30 : decode cX5_readRiver 30 = .ok (.aload_n 0, 1) := by decide +kernel
theorem dX5_readRiver_31 : decode cX5_readRiver 31 = .ok (.iconst 1, 1) := by decide +kernel
theorem dX5_readRiver_32 : decode cX5_readRiver 32 = .ok (.putfield 74, 3) := by decide +kernel
theorem dX5_readRiver_35 : decode cX5_readRiver 35 = .ok (.aload_n 0, 1) := by decide +kernel
theorem dX5_readRiver_36 : decode cX5_readRiver 36 = .ok (.invokevirtual 93, 3) := by decide +kernel
theorem dX5_readRiver_39 : decode cX5_readRiver 39 = .ok (.ifCond .ne 8, 3) := by decide +kernel
theorem dX5_readRiver_42 : decode cX5_readRiver 42 = .ok (.aload_n 0, 1) := by decide +kernel
theorem dX5_readRiver_43 : decode cX5_readRiver 43 = .ok (.getfield 74, 3) := by decide +kernel
theorem dX5_readRiver_46 : decode cX5_readRiver 46 = .ok (.ireturn, 1) := by decide +kernel
theorem dX5_readRiver_47 : decode cX5_readRiver 47 = .ok (.aload_n 0, 1) := by decide +kernel
theorem dX5_readRiver_48 : decode cX5_readRiver 48 = .ok (.getfield 74, 3) := by decide +kernel
theorem dX5_readRiver_51 : decode cX5_readRiver 51 = .ok (.aload_n 0, 1) := by decide +kernel
theorem dX5_readRiver_52 : decode cX5_readRiver 52 = .ok (.getfield 71, 3) := by decide +kernel
theorem dX5_readRiver_55 : decode cX5_readRiver 55 = .ok (.if_icmp .ge 53, 3) := by decide +kernel
theorem dX5_readRiver_58 : decode cX5_readRiver 58 = .ok (.aload_n 0, 1) := by decide +kernel
theorem dX5_readRiver_59 : decode cX5_readRiver 59 = .ok (.getfield 7, 3) := by decide +kernel
theorem dX5_readRiver_62 : decode cX5_readRiver 62 = .ok (.aload_n 0, 1) := by decide +kernel
theorem dX5_readRiver_63 : decode cX5_readRiver 63 = .ok (.getfield 74, 3) := by decide +kernel
theorem dX5_readRiver_66 : decode cX5_readRiver 66 = .ok (.iaload, 1) := by decide +kernel
theorem dX5_readRiver_67 : decode cX5_readRiver 67 = .ok (.bipush 83, 2) := by decide +kernel
theorem dX5_readRiver_69 : decode cX5_readRiver 69 = .ok (.if_icmp .ne 12, 3) := by decide +kernel
theorem dX5_readRiver_72 : decode cX5_readRiver 72 = .ok (.aload_n 0, 1) := by decide +kernel
theorem dX5_readRiver_73 : decode cX5_readRiver 73 = .ok (.getfield 90, 3) := by decide +kernel
theorem dX5_readRiver_76 : decode cX5_readRiver 76 = .ok (.bipush 6, 2) := by decide +kernel
theorem dX5_readRiver_78 : decode cX5_readRiver 78 = .ok (.if_icmp .ne 8, 3) := by decide +kernel
theorem dX5_readRiver_81 : decode cX5_readRiver 81 = .ok (.aload_n 0, 1) := by decide +kernel
theorem dX5_readRiver_82 : decode cX5_readRiver 82 = .ok (.getfield 74, 3) := by decide +kernel
theorem dX5_readRiver_85 : decode cX5_readRiver 85 = .ok (.ireturn, 1) := by decide +kernel
theorem dX5_readRiver_86 : decode cX5_readRiver 86 = .ok (.aload_n 0, 1) := by decide +kernel
theorem dX5_readRiver_87 : decode cX5_readRiver 87 = .ok (.dup, 1) := by decide +kernel
theorem dX5_readRiver_88 : decode cX5_readRiver 88 = .ok (.getfield 74, 3) := by decide +kernel
theorem dX5_readRiver_91 : decode cX5_readRiver 91 = .ok (.iconst 1, 1) := by decide +kernel
theorem dX5_readRiver_92 : decode cX5_readRiver 92 = .ok (.iadd, 1) := by decide +kernel
theorem dX5_readRiver_93 : decode cX5_readRiver 93 = .ok (.putfield 74, 3) := by decide +kernel
theorem dX5_readRiver_96 : decode cX5_readRiver 96 = .ok (.aload_n 0, 1) := by decide +kernel
theorem dX5_readRiver_97 : decode cX5_readRiver 97 = .ok (.invokevirtual 97, 3) := by decide +kernel
theorem dX5_readRiver_100 : decode cX5_readRiver 100 = .ok (.ifCond .ne (-53), 3) := by decide +kernel
theorem dX5_readRiver_103 : decode cX5_readRiver 103 = .ok (.aload_n 0, 1) := by decide +kernel
theorem dX5_readRiver_104 : decode cX5_readRiver 104 = .ok (.getfield 74, 3) := by decide +kernel
theorem dX5_readRiver_107 : decode cX5_readRiver 107 = .ok (.ireturn, 1) := by decide +kernel
theorem dX5_readRiver_108 : decode cX5_readRiver 108 = .ok (.bipush (-9), 2) := by decide +kernel
theorem dX5_readRiver_110 : decode cX5_readRiver 110 = .ok (.ireturn, 1) := by decide +kernel
theorem dX5_fault_0 : decode cX5_fault 0 = .ok (.aload_n 0, 1) := by decide +kernel
theorem dX5_fault_1 : decode cX5_fault 1 = .ok (.iconst 0, 1) := by decide +kernel
theorem dX5_fault_2 : decode cX5_fault 2 = .ok (.putfield 56, 3) := by decide +kernel
theorem dX5_fault_5 : decode cX5_fault 5 = .ok (.aload_n 0, 1) := by decide +kernel
theorem dX5_fault_6 : decode cX5_fault 6 = .ok (.invokevirtual 100, 3) := by decide +kernel
theorem dX5_fault_9 : decode cX5_fault 9 = .ok (.ireturn, 1) := by decide +kernel
theorem dX5_river_0 : decode cX5_river 0 = .ok (.aload_n 0, 1) := by decide +kernel
theorem dX5_river_1 : decode cX5_river 1 = .ok (.iconst 0, 1) := by decide +kernel
theorem dX5_river_2 : decode cX5_river 2 = .ok (.putfield 56, 3) := by decide +kernel
theorem dX5_river_5 : decode cX5_river 5 = .ok (.aload_n 0, 1) := by decide +kernel
theorem dX5_river_6 : decode cX5_river 6 = .ok (.invokevirtual 100, 3) := by decide +kernel
theorem dX5_river_9 : decode cX5_river 9 = .ok (.bipush (-9), 2) := by decide +kernel
theorem dX5_river_11 : decode cX5_river 11 = .ok (.if_icmp .eq 6, 3) := by decide +kernel
theorem dX5_river_14 : decode cX5_river 14 = .ok (.bipush (-3), 2) := by decide +kernel
theorem dX5_river_16 : decode cX5_river 16 = .ok (.ireturn, 1) := by decide +kernel
theorem dX5_river_17 : decode cX5_river 17 = .ok (.aload_n 0, 1) := by decide +kernel
theorem dX5_river_18 : decode cX5_river 18 = .ok (.aload_n 0, 1) := by decide +kernel
theorem dX5_river_19 : decode cX5_river 19 = .ok (.getfield 90, 3) := by decide +kernel
theorem dX5_river_22 : decode cX5_river 22 = .ok (.putfield 60, 3) := by decide +kernel
theorem dX5_river_25 : decode cX5_river 25 = .ok (.iconst 0, 1) := by decide +kernel
theorem dX5_river_26 : decode cX5_river 26 = .ok (.istore_n 1, 1) := by decide +kernel
theorem dX5_river_27 : decode cX5_river 27 = .ok (.iload_n 1, 1) := by decide +kernel
theorem dX5_river_28 : decode cX5_river 28 = .ok (.iconst 5, 1) := by decide +kernel
theorem dX5_river_29 : decode cX5_river 29 = .ok (.aload_n 0, 1) := by decide +kernel
theorem dX5_river_30 : decode cX5_river 30 = .ok (.getfield 60, 3) := by decide +kernel
theorem dX5_river_33 : decode cX5_river 33 = .ok (.imul, 1) := by decide +kernel
theorem dX5_river_34 : decode cX5_river 34 = .ok (.if_icmp .ge 21, 3) := by decide +kernel
theorem dX5_river_37 : decode cX5_river 37 = .ok (.aload_n 0, 1) := by decide +kernel
theorem dX5_river_38 : decode cX5_river 38 = .ok (.getfield 13, 3) := by decide +kernel
theorem dX5_river_41 : decode cX5_river 41 = .ok (.iload_n 1, 1) := by decide +kernel
theorem dX5_river_42 : decode cX5_river 42 = .ok (.aload_n 0, 1) := by decide +kernel
theorem dX5_river_43 : decode cX5_river 43 = .ok (.getfield 16, 3) := by decide +kernel
theorem dX5_river_46 : decode cX5_river 46 = .ok (.iload_n 1, 1) := by decide +kernel
theorem dX5_river_47 : decode cX5_river 47 = .ok (.iaload, 1) := by decide +kernel
theorem dX5_river_48 : decode cX5_river 48 = .ok (.iastore, 1) := by decide +kernel
theorem dX5_river_49 : decode cX5_river 49 = .ok (.iinc 1 1, 3) := by decide +kernel
theorem dX5_river_52 : decode cX5_river 52 = .ok (.goto (-25), 3) := by decide +kernel
theorem dX5_river_55 : decode cX5_river 55 = .ok (.aload_n 0, 1) := by decide +kernel
theorem dX5_river_56 : decode cX5_river 56 = .ok (.getfield 19, 3) := by decide +kernel
theorem dX5_river_59 : decode cX5_river 59 = .ok (.iconst 0, 1) := by decide +kernel
theorem dX5_river_60 : decode cX5_river 60 = .ok (.aload_n 0, 1) := by decide +kernel
theorem dX5_river_61 : decode cX5_river 61 = .ok (.getfield 81, 3) := by decide +kernel
theorem dX5_river_64 : decode cX5_river 64 = .ok (.iastore, 1) := by decide +kernel
theorem dX5_river_65 : decode cX5_river 65 = .ok (.aload_n 0, 1) := by decide +kernel
theorem dX5_river_66 : decode cX5_river 66 = .ok (.getfield 19, 3) := by decide +kernel
theorem dX5_river_69 : decode cX5_river 69 = .ok (.iconst 1, 1) := by decide +kernel
theorem dX5_river_70 : decode cX5_river 70 = .ok (.iconst 0, 1) := by decide +kernel
theorem dX5_river_71 : decode cX5_river 71 = .ok (.iastore, 1) := by decide +kernel
theorem dX5_river_72 : decode cX5_river 72 = .ok (.aload_n 0, 1) := by decide +kernel
theorem dX5_river_73 : decode cX5_river 73 = .ok (.getfield 19, 3) := by decide +kernel
theorem dX5_river_76 : decode cX5_river 76 = .ok (.iconst 2, 1) := by decide +kernel
theorem dX5_river_77 : decode cX5_river 77 = .ok (.iconst 0, 1) := by decide +kernel
theorem dX5_river_78 : decode cX5_river 78 = .ok (.iastore, 1) := by decide +kernel
theorem dX5_river_79 : decode cX5_river 79 = .ok (.aload_n 0, 1) := by decide +kernel
theorem dX5_river_80 : decode cX5_river 80 = .ok (.getfield 19, 3) := by decide +kernel
theorem dX5_river_83 : decode cX5_river 83 = .ok (.iconst 3, 1) := by decide +kernel
theorem dX5_river_84 : decode cX5_river 84 = .ok (.iconst 0, 1) := by decide +kernel
theorem dX5_river_85 : decode cX5_river 85 = .ok (.iastore, 1) := by decide +kernel
theorem dX5_river_86 : decode cX5_river 86 = .ok (.aload_n 0, 1) := by decide +kernel
theorem dX5_river_87 : decode cX5_river 87 = .ok (.getfield 19, 3) := by decide +kernel
theorem dX5_river_90 : decode cX5_river 90 = .ok (.iconst 4, 1) := by decide +kernel
theorem dX5_river_91 : decode cX5_river 91 = .ok (.bipush (-9), 2) := by decide +kernel
theorem dX5_river_93 : decode cX5_river 93 = .ok (.iastore, 1) := by decide +kernel
theorem dX5_river_94 : decode cX5_river 94 = .ok (.aload_n 0, 1) := by decide +kernel
theorem dX5_river_95 : decode cX5_river 95 = .ok (.getfield 19, 3) := by decide +kernel
theorem dX5_river_98 : decode cX5_river 98 = .ok (.iconst 5, 1) := by decide +kernel
theorem dX5_river_99 : decode cX5_river 99 = .ok (.bipush (-9), 2) := by decide +kernel
theorem dX5_river_101 : decode cX5_river 101 = .ok (.iastore, 1) := by decide +kernel
theorem dX5_river_102 : decode cX5_river 102 = .ok (.aload_n 0, 1) := by decide +kernel
theorem dX5_river_103 : decode cX5_river 103 = .ok (.getfield 19, 3) := by decide +kernel
theorem dX5_river_106 : decode cX5_river 106 = .ok (.bipush 6, 2) := by decide +kernel
theorem dX5_river_108 : decode cX5_river 108 = .ok (.aload_n 0, 1) := by decide +kernel
theorem dX5_river_109 : decode cX5_river 109 = .ok (.getfield 84, 3) := by decide +kernel
theorem dX5_river_112 : decode cX5_river 112 = .ok (.iastore, 1) := by decide +kernel
theorem dX5_river_113 : decode cX5_river 113 = .ok (.aload_n 0, 1) := by decide +kernel
theorem dX5_river_114 : decode cX5_river 114 = .ok (.getfield 19, 3) := by decide +kernel
theorem dX5_river_117 : decode cX5_river 117 = .ok (.bipush 7, 2) := by decide +kernel
theorem dX5_river_119 : decode cX5_river 119 = .ok (.aload_n 0, 1) := by decide +kernel
theorem dX5_river_120 : decode cX5_river 120 = .ok (.getfield 87, 3) := by decide +kernel
theorem dX5_river_123 : decode cX5_river 123 = .ok (.iastore, 1) := by decide +kernel
theorem dX5_river_124 : decode cX5_river 124 = .ok (.aload_n 0, 1) := by decide +kernel
theorem dX5_river_125 : decode cX5_river 125 = .ok (.iconst 0, 1) := by decide +kernel
theorem dX5_river_126 : decode cX5_river 126 = .ok (.putfield 104, 3) := by decide +kernel
theorem dX5_river_129 : decode cX5_river 129 = .ok (.aload_n 0, 1) := by decide +kernel
theorem dX5_river_130 : decode cX5_river 130 = .ok (.getfield 31, 3) := by decide +kernel
theorem dX5_river_133 : decode cX5_river 133 = .ok (.iconst 0, 1) := by decide +kernel
theorem dX5_river_134 : decode cX5_river 134 = .ok (.iconst 0, 1) := by decide +kernel
theorem dX5_river_135 : decode cX5_river 135 = .ok (.bastore, 1) := by decide +kernel
theorem dX5_river_136 : decode cX5_river 136 = .ok (.aload_n 0, 1) := by decide +kernel
theorem dX5_river_137 : decode cX5_river 137 = .ok (.getfield 31, 3) := by decide +kernel
theorem dX5_river_140 : decode cX5_river 140 = .ok (.iconst 1, 1) := by decide +kernel
theorem dX5_river_141 : decode cX5_river 141 = .ok (.iconst 0, 1) := by decide +kernel
theorem dX5_river_142 : decode cX5_river 142 = .ok (.bastore, 1) := by decide +kernel
theorem dX5_river_143 : decode cX5_river 143 = .ok (.aload_n 0, 1) := by decide +kernel
theorem dX5_river_144 : decode cX5_river 144 = .ok (.getfield 60, 3) := by decide +kernel
theorem dX5_river_147 : decode cX5_river 147 = .ok (.ireturn, 1) := by decide +kernel
theorem dX5_carries_0 : decode cX5_carries 0 = .ok (.iload_n 3, 1) := by decide +kernel
theorem dX5_carries_1 : decode cX5_carries 1 = .ok (.iconst 1, 1) := by decide +kernel
theorem dX5_carries_2 : decode cX5_carries 2 = .ok (.if_icmp .ne 7, 3) := by decide +kernel
theorem dX5_carries_5 : decode cX5_carries 5 = .ok (.iconst 0, 1) := by decide +kernel
theorem dX5_carries_6 : decode cX5_carries 6 = .ok (.goto 21, 3) := by decide +kernel
theorem dX5_carries_9 : decode cX5_carries 9 = .ok (.iload_n 3, 1) := by decide +kernel
theorem dX5_carries_10 : decode cX5_carries 10 = .ok (.iconst 2, 1) := by decide +kernel
theorem dX5_carries_11 : decode cX5_carries 11 = .ok (.if_icmp .ne 12, 3) := by decide +kernel
theorem dX5_carries_14 : decode cX5_carries 14 = .ok (.iconst 2, 1) := by decide +kernel
theorem dX5_carries_15 : decode cX5_carries 15 = .ok (.aload_n 0, 1) := by decide +kernel
theorem dX5_carries_16 : decode cX5_carries 16 = .ok (.bipush 6, 2) := by decide +kernel
theorem dX5_carries_18 : decode cX5_carries 18 = .ok (.iaload, 1) := by decide +kernel
theorem dX5_carries_19 : decode cX5_carries 19 = .ok (.imul, 1) := by decide +kernel
theorem dX5_carries_20 : decode cX5_carries 20 = .ok (.goto 7, 3) := by decide +kernel
theorem dX5_carries_23 : decode cX5_carries 23 = .ok (.aload_n 0, 1) := by decide +kernel
theorem dX5_carries_24 : decode cX5_carries 24 = .ok (.bipush 6, 2) := by decide +kernel
theorem dX5_carries_26 : decode cX5_carries 26 = .ok (.iaload, 1) := by decide +kernel
theorem dX5_carries_27 : decode cX5_carries 27 = .ok (.istore 5, 2) := by decide +kernel
theorem dX5_carries_29 : decode cX5_carries 29 = .ok (.iload_n 3, 1) := by decide +kernel
theorem dX5_carries_30 : decode cX5_carries 30 = .ok (.iconst 3, 1) := by decide +kernel
theorem dX5_carries_31 : decode cX5_carries 31 = .ok (.if_icmp .ne 7, 3) := by decide +kernel
theorem dX5_carries_34 : decode cX5_carries 34 = .ok (.iload_n 1, 1) := by decide +kernel
theorem dX5_carries_35 : decode cX5_carries 35 = .ok (.goto 11, 3) := by decide +kernel
theorem dX5_carries_38 : decode cX5_carries 38 = .ok (.iload_n 1, 1) := by decide +kernel
theorem dX5_carries_39 : decode cX5_carries 39 = .ok (.aload_n 0, 1) := by decide +kernel
theorem dX5_carries_40 : decode cX5_carries 40 = .ok (.bipush 7, 2) := by decide +kernel
theorem dX5_carries_42 : decode cX5_carries 42 = .ok (.iaload, 1) := by decide +kernel
theorem dX5_carries_43 : decode cX5_carries 43 = .ok (.iadd, 1) := by decide +kernel
theorem dX5_carries_44 : decode cX5_carries 44 = .ok (.iconst 1, 1) := by decide +kernel
theorem dX5_carries_45 : decode cX5_carries 45 = .ok (.isub, 1) := by decide +kernel
theorem dX5_carries_46 : decode cX5_carries 46 = .ok (.istore 6, 2) := by decide +kernel
theorem dX5_carries_48 : decode cX5_carries 48 = .ok (.iload_n 2, 1) := by decide +kernel
theorem dX5_carries_49 : decode cX5_carries 49 = .ok (.iload 5, 2) := by decide +kernel
theorem dX5_carries_51 : decode cX5_carries 51 = .ok (.iload 4, 2) := by decide +kernel
theorem dX5_carries_53 : decode cX5_carries 53 = .ok (.iload 6, 2) := by decide +kernel
theorem dX5_carries_55 : decode cX5_carries 55 = .ok (.invokestatic 107, 3) := by decide +kernel
theorem dX5_carries_58 : decode cX5_carries 58 = .ok (.iadd, 1) := by decide +kernel
theorem dX5_carries_59 : decode cX5_carries 59 = .ok (.if_icmp .le 7, 3) := by decide +kernel
theorem dX5_carries_62 : decode cX5_carries 62 = .ok (.iconst 1, 1) := by decide +kernel
theorem dX5_carries_63 : decode cX5_carries 63 = .ok (.goto 4, 3) := by decide +kernel
theorem dX5_carries_66 : decode cX5_carries 66 = .ok (.iconst 0, 1) := by decide +kernel
theorem dX5_carries_67 : decode cX5_carries 67 = .ok (.ireturn, 1) := by decide +kernel
theorem dX5_hears_0 : decode cX5_hears 0 = .ok (.iconst 5, 1) := by decide +kernel
theorem dX5_hears_1 : decode cX5_hears 1 = .ok (.iload_n 2, 1) := by decide +kernel
theorem dX5_hears_2 : decode cX5_hears 2 = .ok (.imul, 1) := by decide +kernel
theorem dX5_hears_3 : decode cX5_hears 3 = .ok (.istore 5, 2) := by decide +kernel
theorem dX5_hears_5 : decode cX5_hears 5 = .ok (.aload_n 1, 1) := by decide +kernel
theorem dX5_hears_6 : decode cX5_hears 6 = .ok (.iconst 2, 1) := by decide +kernel
theorem dX5_hears_7 : decode cX5_hears 7 = .ok (.iaload, 1) := by decide +kernel
theorem dX5_hears_8 : decode cX5_hears 8 = .ok (.iload_n 2, 1) := by decide +kernel
theorem dX5_hears_9 : decode cX5_hears 9 = .ok (.invokestatic 110, 3) := by decide +kernel
theorem dX5_hears_12 : decode cX5_hears 12 = .ok (.ifCond .ne 69, 3) := by decide +kernel
theorem dX5_hears_15 : decode cX5_hears 15 = .ok (.iload 4, 2) := by decide +kernel
theorem dX5_hears_17 : decode cX5_hears 17 = .ok (.i2l, 1) := by decide +kernel
theorem dX5_hears_18 : decode cX5_hears 18 = .ok (.aload_n 0, 1) := by decide +kernel
theorem dX5_hears_19 : decode cX5_hears 19 = .ok (.getfield 13, 3) := by decide +kernel
theorem dX5_hears_22 : decode cX5_hears 22 = .ok (.iload 5, 2) := by decide +kernel
theorem dX5_hears_24 : decode cX5_hears 24 = .ok (.iconst 2, 1) := by decide +kernel
theorem dX5_hears_25 : decode cX5_hears 25 = .ok (.iadd, 1) := by decide +kernel
theorem dX5_hears_26 : decode cX5_hears 26 = .ok (.iaload, 1) := by decide +kernel
theorem dX5_hears_27 : decode cX5_hears 27 = .ok (.i2l, 1) := by decide +kernel
theorem dX5_hears_28 : decode cX5_hears 28 = .ok (.aload_n 0, 1) := by decide +kernel
theorem dX5_hears_29 : decode cX5_hears 29 = .ok (.getfield 13, 3) := by decide +kernel
theorem dX5_hears_32 : decode cX5_hears 32 = .ok (.iload 5, 2) := by decide +kernel
theorem dX5_hears_34 : decode cX5_hears 34 = .ok (.iconst 3, 1) := by decide +kernel
theorem dX5_hears_35 : decode cX5_hears 35 = .ok (.iadd, 1) := by decide +kernel
theorem dX5_hears_36 : decode cX5_hears 36 = .ok (.iaload, 1) := by decide +kernel
theorem dX5_hears_37 : decode cX5_hears 37 = .ok (.i2l, 1) := by decide +kernel
theorem dX5_hears_38 : decode cX5_hears 38 = .ok (.invokestatic 63, 3) := by decide +kernel
theorem dX5_hears_41 : decode cX5_hears 41 = .ok (.ifCond .eq 40, 3) := by decide +kernel
theorem dX5_hears_44 : decode cX5_hears 44 = .ok (.aload_n 1, 1) := by decide +kernel
theorem dX5_hears_45 : decode cX5_hears 45 = .ok (.aload_n 0, 1) := by decide +kernel
theorem dX5_hears_46 : decode cX5_hears 46 = .ok (.getfield 13, 3) := by decide +kernel
theorem dX5_hears_49 : decode cX5_hears 49 = .ok (.iload 5, 2) := by decide +kernel
theorem dX5_hears_51 : decode cX5_hears 51 = .ok (.iaload, 1) := by decide +kernel
theorem dX5_hears_52 : decode cX5_hears 52 = .ok (.aload_n 0, 1) := by decide +kernel
theorem dX5_hears_53 : decode cX5_hears 53 = .ok (.getfield 13, 3) := by decide +kernel
theorem dX5_hears_56 : decode cX5_hears 56 = .ok (.iload 5, 2) := by decide +kernel
theorem dX5_hears_58 : decode cX5_hears 58 = .ok (.iconst 1, 1) := by decide +kernel
theorem dX5_hears_59 : decode cX5_hears 59 = .ok (.iadd, 1) := by decide +kernel
theorem dX5_hears_60 : decode cX5_hears 60 = .ok (.iaload, 1) := by decide +kernel
theorem dX5_hears_61 : decode cX5_hears 61 = .ok (.aload_n 0, 1) := by decide +kernel
theorem dX5_hears_62 : decode cX5_hears 62 = .ok (.getfield 13, 3) := by decide +kernel
theorem dX5_hears_65 : decode cX5_hears 65 = .ok (.iload 5, 2) := by decide +kernel
theorem dX5_hears_67 : decode cX5_hears 67 = .ok (.iconst 4, 1) := by decide +kernel
theorem dX5_hears_68 : decode cX5_hears 68 = .ok (.iadd, 1) := by decide +kernel
theorem dX5_hears_69 : decode cX5_hears 69 = .ok (.iaload, 1) := by decide +kernel
theorem dX5_hears_70 : decode cX5_hears 70 = .ok (.iload_n 3, 1) := by decide +kernel
theorem dX5_hears_71 : decode cX5_hears 71 = .ok (.invokestatic 114, 3) := by decide +kernel
theorem dX5_hears_74 : decode cX5_hears 74 = .ok (.ifCond .eq 7, 3) := by decide +kernel
theorem dX5_hears_77 : decode cX5_hears 77 = .ok (.iconst 1, 1) := by decide +kernel
theorem dX5_hears_78 : decode cX5_hears 78 = .ok (.goto 4, 3) := by decide +kernel
theorem dX5_hears_81 : decode cX5_hears 81 = .ok (.iconst 0, 1) := by decide +kernel
theorem dX5_hears_82 : decode cX5_hears 82 = .ok (.ireturn, 1) := by decide +kernel
theorem dX5_heardAt_0 : decode cX5_heardAt 0 = .ok (.iconst 0, 1) := by decide +kernel
theorem dX5_heardAt_1 : decode cX5_heardAt 1 = .ok (.istore 4, 2) := by decide +kernel
theorem dX5_heardAt_3 : decode cX5_heardAt 3 = .ok (.iconst 0, 1) := by decide +kernel
theorem dX5_heardAt_4 : decode cX5_heardAt 4 = .ok (.istore 5, 2) := by decide +kernel
theorem dX5_heardAt_6 : decode cX5_heardAt 6 = .ok (.iload 5, 2) := by decide +kernel
theorem dX5_heardAt_8 : decode cX5_heardAt 8 = .ok (.aload_n 0, 1) := by decide +kernel
theorem dX5_heardAt_9 : decode cX5_heardAt 9 = .ok (.getfield 60, 3) := by decide +kernel
theorem dX5_heardAt_12 : decode cX5_heardAt 12 = .ok (.if_icmp .ge 34, 3) := by decide +kernel
theorem dX5_heardAt_15 : decode cX5_heardAt 15 = .ok (.iload 4, 2) := by decide +kernel
theorem dX5_heardAt_17 : decode cX5_heardAt 17 = .ok (.aload_n 0, 1) := by decide +kernel
theorem dX5_heardAt_18 : decode cX5_heardAt 18 = .ok (.aload_n 1, 1) := by decide +kernel
theorem dX5_heardAt_19 : decode cX5_heardAt 19 = .ok (.iload 5, 2) := by decide +kernel
theorem dX5_heardAt_21 : decode cX5_heardAt 21 = .ok (.iload_n 2, 1) := by decide +kernel
theorem dX5_heardAt_22 : decode cX5_heardAt 22 = .ok (.iload_n 3, 1) := by decide +kernel
theorem dX5_heardAt_23 : decode cX5_heardAt 23 = .ok (.invokevirtual 118, 3) := by decide +kernel
theorem dX5_heardAt_26 : decode cX5_heardAt 26 = .ok (.ifCond .eq 10, 3) := by decide +kernel
theorem dX5_heardAt_29 : decode cX5_heardAt 29 = .ok (.iconst 1, 1) := by decide +kernel
theorem dX5_heardAt_30 : decode cX5_heardAt 30 = .ok (.iload 5, 2) := by decide +kernel
theorem dX5_heardAt_32 : decode cX5_heardAt 32 = .ok (.ishl, 1) := by decide +kernel
theorem dX5_heardAt_33 : decode cX5_heardAt 33 = .ok (.goto 4, 3) := by decide +kernel
theorem dX5_heardAt_36 : decode cX5_heardAt 36 = .ok (.iconst 0, 1) := by decide +kernel
theorem dX5_heardAt_37 : decode cX5_heardAt 37 = .ok (.ior, 1) := by decide +kernel
theorem dX5_heardAt_38 : decode cX5_heardAt 38 = .ok (.istore 4, 2) := by decide +kernel
theorem dX5_heardAt_40 : decode cX5_heardAt 40 = .ok (.iinc 5 1, 3) := by decide +kernel
theorem dX5_heardAt_43 : decode cX5_heardAt 43 = .ok (.goto (-37), 3) := by decide +kernel
theorem dX5_heardAt_46 : decode cX5_heardAt 46 = .ok (.iload 4, 2) := by decide +kernel
theorem dX5_heardAt_48 : decode cX5_heardAt 48 = .ok (.aload_n 1, 1) := by decide +kernel
theorem dX5_heardAt_49 : decode cX5_heardAt 49 = .ok (.iconst 4, 1) := by decide +kernel
theorem dX5_heardAt_50 : decode cX5_heardAt 50 = .ok (.iaload, 1) := by decide +kernel
theorem dX5_heardAt_51 : decode cX5_heardAt 51 = .ok (.bipush (-9), 2) := by decide +kernel
theorem dX5_heardAt_53 : decode cX5_heardAt 53 = .ok (.if_icmp .eq 21, 3) := by decide +kernel
theorem dX5_heardAt_56 : decode cX5_heardAt 56 = .ok (.aload_n 1, 1) := by decide +kernel
theorem dX5_heardAt_57 : decode cX5_heardAt 57 = .ok (.aload_n 1, 1) := by decide +kernel
theorem dX5_heardAt_58 : decode cX5_heardAt 58 = .ok (.iconst 4, 1) := by decide +kernel
theorem dX5_heardAt_59 : decode cX5_heardAt 59 = .ok (.iaload, 1) := by decide +kernel
theorem dX5_heardAt_60 : decode cX5_heardAt 60 = .ok (.iconst 3, 1) := by decide +kernel
theorem dX5_heardAt_61 : decode cX5_heardAt 61 = .ok (.iconst 0, 1) := by decide +kernel
theorem dX5_heardAt_62 : decode cX5_heardAt 62 = .ok (.iload_n 2, 1) := by decide +kernel
theorem dX5_heardAt_63 : decode cX5_heardAt 63 = .ok (.invokestatic 114, 3) := by decide +kernel
theorem dX5_heardAt_66 : decode cX5_heardAt 66 = .ok (.ifCond .eq 8, 3) := by decide +kernel
theorem dX5_heardAt_69 : decode cX5_heardAt 69 = .ok (.bipush 64, 2) := by decide +kernel
theorem dX5_heardAt_71 : decode cX5_heardAt 71 = .ok (.goto 4, 3) := by decide +kernel
theorem dX5_heardAt_74 : decode cX5_heardAt 74 = .ok (.iconst 0, 1) := by decide +kernel
theorem dX5_heardAt_75 : decode cX5_heardAt 75 = .ok (.ior, 1) := by decide +kernel
theorem dX5_heardAt_76 : decode cX5_heardAt 76 = .ok (.istore 4, 2) := by decide +kernel
theorem dX5_heardAt_78 : decode cX5_heardAt 78 = .ok (.iload 4, 2) := by decide +kernel
theorem dX5_heardAt_80 : decode cX5_heardAt 80 = .ok (.aload_n 1, 1) := by decide +kernel
theorem dX5_heardAt_81 : decode cX5_heardAt 81 = .ok (.iconst 5, 1) := by decide +kernel
theorem dX5_heardAt_82 : decode cX5_heardAt 82 = .ok (.iaload, 1) := by decide +kernel
theorem dX5_heardAt_83 : decode cX5_heardAt 83 = .ok (.bipush (-9), 2) := by decide +kernel
theorem dX5_heardAt_85 : decode cX5_heardAt 85 = .ok (.if_icmp .eq 22, 3) := by decide +kernel
theorem dX5_heardAt_88 : decode cX5_heardAt 88 = .ok (.aload_n 1, 1) := by decide +kernel
theorem dX5_heardAt_89 : decode cX5_heardAt 89 = .ok (.aload_n 1, 1) := by decide +kernel
theorem dX5_heardAt_90 : decode cX5_heardAt 90 = .ok (.iconst 5, 1) := by decide +kernel
theorem dX5_heardAt_91 : decode cX5_heardAt 91 = .ok (.iaload, 1) := by decide +kernel
theorem dX5_heardAt_92 : decode cX5_heardAt 92 = .ok (.iconst 3, 1) := by decide +kernel
theorem dX5_heardAt_93 : decode cX5_heardAt 93 = .ok (.iconst 0, 1) := by decide +kernel
theorem dX5_heardAt_94 : decode cX5_heardAt 94 = .ok (.iload_n 2, 1) := by decide +kernel
theorem dX5_heardAt_95 : decode cX5_heardAt 95 = .ok (.invokestatic 114, 3) := by decide +kernel
theorem dX5_heardAt_98 : decode cX5_heardAt 98 = .ok (.ifCond .eq 9, 3) := by decide +kernel
theorem dX5_heardAt_101 : decode cX5_heardAt 101 = .ok (.sipush 128, 3) := by decide +kernel
theorem dX5_heardAt_104 : decode cX5_heardAt 104 = .ok (.goto 4, 3) := by decide +kernel
theorem dX5_heardAt_107 : decode cX5_heardAt 107 = .ok (.iconst 0, 1) := by decide +kernel
theorem dX5_heardAt_108 : decode cX5_heardAt 108 = .ok (.ior, 1) := by decide +kernel
theorem dX5_heardAt_109 : decode cX5_heardAt 109 = .ok (.istore 4, 2) := by decide +kernel
theorem dX5_heardAt_111 : decode cX5_heardAt 111 = .ok (.iload 4, 2) := by decide +kernel
theorem dX5_heardAt_113 : decode cX5_heardAt 113 = .ok (.ireturn, 1) := by decide +kernel
theorem dX5_sureAt_0 : decode cX5_sureAt 0 = .ok (.iconst 0, 1) := by decide +kernel
theorem dX5_sureAt_1 : decode cX5_sureAt 1 = .ok (.istore_n 3, 1) := by decide +kernel
theorem dX5_sureAt_2 : decode cX5_sureAt 2 = .ok (.iconst 0, 1) := by decide +kernel
theorem dX5_sureAt_3 : decode cX5_sureAt 3 = .ok (.istore 4, 2) := by decide +kernel
theorem dX5_sureAt_5 : decode cX5_sureAt 5 = .ok (.iload 4, 2) := by decide +kernel
theorem dX5_sureAt_7 : decode cX5_sureAt 7 = .ok (.bipush 10, 2) := by decide +kernel
theorem dX5_sureAt_9 : decode cX5_sureAt 9 = .ok (.if_icmp .ge 24, 3) := by decide +kernel
theorem dX5_sureAt_12 : decode cX5_sureAt 12 = .ok (.aload_n 0, 1) := by decide +kernel
theorem dX5_sureAt_13 : decode cX5_sureAt 13 = .ok (.getfield 47, 3) := by decide +kernel
theorem dX5_sureAt_16 : decode cX5_sureAt 16 = .ok (.iload 4, 2) := by decide +kernel
theorem dX5_sureAt_18 : decode cX5_sureAt 18 = .ok (.aload_n 0, 1) := by decide +kernel
theorem dX5_sureAt_19 : decode cX5_sureAt 19 = .ok (.aload_n 1, 1) := by decide +kernel
theorem dX5_sureAt_20 : decode cX5_sureAt 20 = .ok (.iload 4, 2) := by decide +kernel
theorem dX5_sureAt_22 : decode cX5_sureAt 22 = .ok (.iload_n 2, 1) := by decide +kernel
theorem dX5_sureAt_23 : decode cX5_sureAt 23 = .ok (.invokevirtual 122, 3) := by decide +kernel
theorem dX5_sureAt_26 : decode cX5_sureAt 26 = .ok (.iastore, 1) := by decide +kernel
theorem dX5_sureAt_27 : decode cX5_sureAt 27 = .ok (.iinc 4 1, 3) := by decide +kernel
theorem dX5_sureAt_30 : decode cX5_sureAt 30 = .ok (.goto (-25), 3) := by decide +kernel
theorem dX5_sureAt_33 : decode cX5_sureAt 33 = .ok (.iconst 0, 1) := by decide +kernel
theorem dX5_sureAt_34 : decode cX5_sureAt 34 = .ok (.istore 4, 2) := by decide +kernel
theorem dX5_sureAt_36 : decode cX5_sureAt 36 = .ok (.iload 4, 2) := by decide +kernel
theorem dX5_sureAt_38 : decode cX5_sureAt 38 = .ok (.bipush 10, 2) := by decide +kernel
theorem dX5_sureAt_40 : decode cX5_sureAt 40 = .ok (.if_icmp .ge 80, 3) := by decide +kernel
theorem dX5_sureAt_43 : decode cX5_sureAt 43 = .ok (.iconst 1, 1) := by decide +kernel
theorem dX5_sureAt_44 : decode cX5_sureAt 44 = .ok (.istore 5, 2) := by decide +kernel
theorem dX5_sureAt_46 : decode cX5_sureAt 46 = .ok (.iconst 0, 1) := by decide +kernel
theorem dX5_sureAt_47 : decode cX5_sureAt 47 = .ok (.istore 6, 2) := by decide +kernel
theorem dX5_sureAt_49 : decode cX5_sureAt 49 = .ok (.iload 6, 2) := by decide +kernel
theorem dX5_sureAt_51 : decode cX5_sureAt 51 = .ok (.bipush 10, 2) := by decide +kernel
theorem dX5_sureAt_53 : decode cX5_sureAt 53 = .ok (.if_icmp .ge 45, 3) := by decide +kernel
theorem dX5_sureAt_56 : decode cX5_sureAt 56 = .ok (.iload 5, 2) := by decide +kernel
theorem dX5_sureAt_58 : decode cX5_sureAt 58 = .ok (.ifCond .eq 31, 3) := by decide +kernel
theorem dX5_sureAt_61 : decode cX5_sureAt 61 = .ok (.iload 4, 2) := by decide +kernel
theorem dX5_sureAt_63 : decode cX5_sureAt 63 = .ok (.iload 6, 2) := by decide +kernel
theorem dX5_sureAt_65 : decode cX5_sureAt 65 = .ok (.if_icmp .eq 20, 3) := by decide +kernel
theorem dX5_sureAt_68 : decode cX5_sureAt 68 = .ok (.aload_n 0, 1) := by decide +kernel
theorem dX5_sureAt_69 : decode cX5_sureAt 69 = .ok (.getfield 47, 3) := by decide +kernel
theorem dX5_sureAt_72 : decode cX5_sureAt 72 = .ok (.iload 4, 2) := by decide +kernel
theorem dX5_sureAt_74 : decode cX5_sureAt 74 = .ok (.iaload, 1) := by decide +kernel
theorem dX5_sureAt_75 : decode cX5_sureAt 75 = .ok (.aload_n 0, 1) := by decide +kernel
theorem dX5_sureAt_76 : decode cX5_sureAt 76 = .ok (.getfield 47, 3) := by decide +kernel
theorem dX5_sureAt_79 : decode cX5_sureAt 79 = .ok (.iload 6, 2) := by decide +kernel
theorem dX5_sureAt_81 : decode cX5_sureAt 81 = .ok (.iaload, 1) := by decide +kernel
theorem dX5_sureAt_82 : decode cX5_sureAt 82 = .ok (.if_icmp .eq 7, 3) := by decide +kernel
theorem dX5_sureAt_85 : decode cX5_sureAt 85 = .ok (.iconst 1, 1) := by decide +kernel
theorem dX5_sureAt_86 : decode cX5_sureAt 86 = .ok (.goto 4, 3) := by decide +kernel
theorem dX5_sureAt_89 : decode cX5_sureAt 89 = .ok (.iconst 0, 1) := by decide +kernel
theorem dX5_sureAt_90 : decode cX5_sureAt 90 = .ok (.istore 5, 2) := by decide +kernel
theorem dX5_sureAt_92 : decode cX5_sureAt 92 = .ok (.iinc 6 1, 3) := by decide +kernel
theorem dX5_sureAt_95 : decode cX5_sureAt 95 = .ok (.goto (-46), 3) := by decide +kernel
theorem dX5_sureAt_98 : decode cX5_sureAt 98 = .ok (.iload_n 3, 1) := by decide +kernel
theorem dX5_sureAt_99 : decode cX5_sureAt 99 = .ok (.iload 5, 2) := by decide +kernel
theorem dX5_sureAt_101 : decode cX5_sureAt 101 = .ok (.ifCond .eq 10, 3) := by decide +kernel
theorem dX5_sureAt_104 : decode cX5_sureAt 104 = .ok (.iconst 1, 1) := by decide +kernel
theorem dX5_sureAt_105 : decode cX5_sureAt 105 = .ok (.iload 4, 2) := by decide +kernel
theorem dX5_sureAt_107 : decode cX5_sureAt 107 = .ok (.ishl, 1) := by decide +kernel
theorem dX5_sureAt_108 : decode cX5_sureAt 108 = .ok (.goto 4, 3) := by decide +kernel
theorem dX5_sureAt_111 : decode cX5_sureAt 111 = .ok (.iconst 0, 1) := by decide +kernel
theorem dX5_sureAt_112 : decode cX5_sureAt 112 = .ok (.ior, 1) := by decide +kernel
theorem dX5_sureAt_113 : decode cX5_sureAt 113 = .ok (.istore_n 3, 1) := by decide +kernel
theorem dX5_sureAt_114 : decode cX5_sureAt 114 = .ok (.iinc 4 1, 3) := by decide +kernel
theorem dX5_sureAt_117 : decode cX5_sureAt 117 = .ok (.goto (-81), 3) := by decide +kernel
theorem dX5_sureAt_120 : decode cX5_sureAt 120 = .ok (.iload_n 3, 1) := by decide +kernel
theorem dX5_sureAt_121 : decode cX5_sureAt 121 = .ok (.ireturn, 1) := by decide +kernel
theorem dX5_begin_0 : decode cX5_begin 0 = .ok (.iconst 0, 1) := by decide +kernel
theorem dX5_begin_1 : decode cX5_begin 1 = .ok (.istore_n 1, 1) := by decide +kernel
theorem dX5_begin_2 : decode cX5_begin 2 = .ok (.iload_n 1, 1) := by decide +kernel
theorem dX5_begin_3 : decode cX5_begin 3 = .ok (.bipush 8, 2) := by decide +kernel
theorem dX5_begin_5 : decode cX5_begin 5 = .ok (.if_icmp .ge 21, 3) := by decide +kernel
theorem dX5_begin_8 : decode cX5_begin 8 = .ok (.aload_n 0, 1) := by decide +kernel
theorem dX5_begin_9 : decode cX5_begin 9 = .ok (.getfield 22, 3) := by decide +kernel
theorem dX5_begin_12 : decode cX5_begin 12 = .ok (.iload_n 1, 1) := by decide +kernel
theorem dX5_begin_13 : decode cX5_begin 13 = .ok (.aload_n 0, 1) := by decide +kernel
theorem dX5_begin_14 : decode cX5_begin 14 = .ok (.getfield 19, 3) := by decide +kernel
theorem dX5_begin_17 : decode cX5_begin 17 = .ok (.iload_n 1, 1) := by decide +kernel
theorem dX5_begin_18 : decode cX5_begin 18 = .ok (.iaload, 1) := by decide +kernel
theorem dX5_begin_19 : decode cX5_begin 19 = .ok (.iastore, 1) := by decide +kernel
theorem dX5_begin_20 : decode cX5_begin 20 = .ok (.iinc 1 1, 3) := by decide +kernel
theorem dX5_begin_23 : decode cX5_begin 23 = .ok (.goto (-21), 3) := by decide +kernel
theorem dX5_begin_26 : decode cX5_begin 26 = .ok (.return_, 1) := by decide +kernel
theorem dX5_about_0 : decode cX5_about 0 = .ok (.aload_n 0, 1) := by decide +kernel
theorem dX5_about_1 : decode cX5_about 1 = .ok (.iconst 0, 1) := by decide +kernel
theorem dX5_about_2 : decode cX5_about 2 = .ok (.putfield 56, 3) := by decide +kernel
theorem dX5_about_5 : decode cX5_about 5 = .ok (.iload_n 1, 1) := by decide +kernel
theorem dX5_about_6 : decode cX5_about 6 = .ok (.tableswitch 140 0 11 #[62, 67, 74, 81, 89, 97, 104, 111, 118, 125, 130, 135], 62) := by decide +kernel
theorem dX5_about_68 : decode cX5_about 68 = .ok (.aload_n 0, 1) := by decide +kernel
theorem dX5_about_69 : decode cX5_about 69 = .ok (.getfield 60, 3) := by decide +kernel
theorem dX5_about_72 : decode cX5_about 72 = .ok (.ireturn, 1) := by decide +kernel
theorem dX5_about_73 : decode cX5_about 73 = .ok (.aload_n 0, 1) := by decide +kernel
theorem dX5_about_74 : decode cX5_about 74 = .ok (.getfield 19, 3) := by decide +kernel
theorem dX5_about_77 : decode cX5_about 77 = .ok (.iconst 0, 1) := by decide +kernel
theorem dX5_about_78 : decode cX5_about 78 = .ok (.iaload, 1) := by decide +kernel
theorem dX5_about_79 : decode cX5_about 79 = .ok (.ireturn, 1) := by decide +kernel
theorem dX5_about_80 : decode cX5_about 80 = .ok (.aload_n 0, 1) := by decide +kernel
theorem dX5_about_81 : decode cX5_about 81 = .ok (.getfield 19, 3) := by decide +kernel
theorem dX5_about_84 : decode cX5_about 84 = .ok (.iconst 1, 1) := by decide +kernel
theorem dX5_about_85 : decode cX5_about 85 = .ok (.iaload, 1) := by decide +kernel
theorem dX5_about_86 : decode cX5_about 86 = .ok (.ireturn, 1) := by decide +kernel
theorem dX5_about_87 : decode cX5_about 87 = .ok (.aload_n 0, 1) := by decide +kernel
theorem dX5_about_88 : decode cX5_about 88 = .ok (.getfield 19, 3) := by decide +kernel
theorem dX5_about_91 : decode cX5_about 91 = .ok (.bipush 6, 2) := by decide +kernel
theorem dX5_about_93 : decode cX5_about 93 = .ok (.iaload, 1) := by decide +kernel
theorem dX5_about_94 : decode cX5_about 94 = .ok (.ireturn, 1) := by decide +kernel
theorem dX5_about_95 : decode cX5_about 95 = .ok (.aload_n 0, 1) := by decide +kernel
theorem dX5_about_96 : decode cX5_about 96 = .ok (.getfield 19, 3) := by decide +kernel
theorem dX5_about_99 : decode cX5_about 99 = .ok (.bipush 7, 2) := by decide +kernel
theorem dX5_about_101 : decode cX5_about 101 = .ok (.iaload, 1) := by decide +kernel
theorem dX5_about_102 : decode cX5_about 102 = .ok (.ireturn, 1) := by decide +kernel
theorem dX5_about_103 : decode cX5_about 103 = .ok (.aload_n 0, 1) := by decide +kernel
theorem dX5_about_104 : decode cX5_about 104 = .ok (.getfield 19, 3) := by decide +kernel
theorem dX5_about_107 : decode cX5_about 107 = .ok (.iconst 2, 1) := by decide +kernel
theorem dX5_about_108 : decode cX5_about 108 = .ok (.iaload, 1) := by decide +kernel
theorem dX5_about_109 : decode cX5_about 109 = .ok (.ireturn, 1) := by decide +kernel
theorem dX5_about_110 : decode cX5_about 110 = .ok (.aload_n 0, 1) := by decide +kernel
theorem dX5_about_111 : decode cX5_about 111 = .ok (.getfield 19, 3) := by decide +kernel
theorem dX5_about_114 : decode cX5_about 114 = .ok (.iconst 3, 1) := by decide +kernel
theorem dX5_about_115 : decode cX5_about 115 = .ok (.iaload, 1) := by decide +kernel
theorem dX5_about_116 : decode cX5_about 116 = .ok (.ireturn, 1) := by decide +kernel
theorem dX5_about_117 : decode cX5_about 117 = .ok (.aload_n 0, 1) := by decide +kernel
theorem dX5_about_118 : decode cX5_about 118 = .ok (.getfield 19, 3) := by decide +kernel
theorem dX5_about_121 : decode cX5_about 121 = .ok (.iconst 4, 1) := by decide +kernel
theorem dX5_about_122 : decode cX5_about 122 = .ok (.iaload, 1) := by decide +kernel
theorem dX5_about_123 : decode cX5_about 123 = .ok (.ireturn, 1) := by decide +kernel
theorem dX5_about_124 : decode cX5_about 124 = .ok (.aload_n 0, 1) := by decide +kernel
theorem dX5_about_125 : decode cX5_about 125 = .ok (.getfield 19, 3) := by decide +kernel
theorem dX5_about_128 : decode cX5_about 128 = .ok (.iconst 5, 1) := by decide +kernel
theorem dX5_about_129 : decode cX5_about 129 = .ok (.iaload, 1) := by decide +kernel
theorem dX5_about_130 : decode cX5_about 130 = .ok (.ireturn, 1) := by decide +kernel
theorem dX5_about_131 : decode cX5_about 131 = .ok (.aload_n 0, 1) := by decide +kernel
theorem dX5_about_132 : decode cX5_about 132 = .ok (.getfield 104, 3) := by decide +kernel
theorem dX5_about_135 : decode cX5_about 135 = .ok (.ireturn, 1) := by decide +kernel
theorem dX5_about_136 : decode cX5_about 136 = .ok (.aload_n 0, 1) := by decide +kernel
theorem dX5_about_137 : decode cX5_about 137 = .ok (.getfield 126, 3) := by decide +kernel
theorem dX5_about_140 : decode cX5_about 140 = .ok (.ireturn, 1) := by decide +kernel
theorem dX5_about_141 : decode cX5_about 141 = .ok (.aload_n 0, 1) := by decide +kernel
theorem dX5_about_142 : decode cX5_about 142 = .ok (.getfield 71, 3) := by decide +kernel
theorem dX5_about_145 : decode cX5_about 145 = .ok (.ireturn, 1) := by decide +kernel
theorem dX5_about_146 : decode cX5_about 146 = .ok (.bipush (-2), 2) := by decide +kernel
theorem dX5_about_148 : decode cX5_about 148 = .ok (.ireturn, 1) := by decide +kernel
theorem dX5_sound_0 : decode cX5_sound 0 = .ok (.aload_n 0, 1) := by decide +kernel
theorem dX5_sound_1 : decode cX5_sound 1 = .ok (.iconst 0, 1) := by decide +kernel
theorem dX5_sound_2 : decode cX5_sound 2 = .ok (.putfield 56, 3) := by decide +kernel
theorem dX5_sound_5 : decode cX5_sound 5 = .ok (.aload_n 0, 1) := by decide +kernel
theorem dX5_sound_6 : decode cX5_sound 6 = .ok (.iload_n 1, 1) := by decide +kernel
theorem dX5_sound_7 : decode cX5_sound 7 = .ok (.invokevirtual 129, 3) := by decide +kernel
theorem dX5_sound_10 : decode cX5_sound 10 = .ok (.ifCond .eq 5, 3) := by decide +kernel
theorem dX5_sound_13 : decode cX5_sound 13 = .ok (.iconst (-1), 1) := by decide +kernel
theorem dX5_sound_14 : decode cX5_sound 14 = .ok (.ireturn, 1) := by decide +kernel
theorem dX5_sound_15 : decode cX5_sound 15 = .ok (.iload_n 2, 1) := by decide +kernel
theorem dX5_sound_16 : decode cX5_sound 16 = .ok (.i2l, 1) := by decide +kernel
theorem dX5_sound_17 : decode cX5_sound 17 = .ok (.lconst 0, 1) := by decide +kernel
theorem dX5_sound_18 : decode cX5_sound 18 = .ok (.ldc2_w 133, 3) := by decide +kernel
theorem dX5_sound_21 : decode cX5_sound 21 = .ok (.invokestatic 63, 3) := by decide +kernel
theorem dX5_sound_24 : decode cX5_sound 24 = .ok (.ifCond .eq 14, 3) := by decide +kernel
theorem dX5_sound_27 : decode cX5_sound 27 = .ok (.aload_n 0, 1) := by decide +kernel
theorem dX5_sound_28 : decode cX5_sound 28 = .ok (.getfield 13, 3) := by decide +kernel
theorem dX5_sound_31 : decode cX5_sound 31 = .ok (.iconst 5, 1) := by decide +kernel
theorem dX5_sound_32 : decode cX5_sound 32 = .ok (.iload_n 1, 1) := by decide +kernel
theorem dX5_sound_33 : decode cX5_sound 33 = .ok (.imul, 1) := by decide +kernel
theorem dX5_sound_34 : decode cX5_sound 34 = .ok (.iload_n 2, 1) := by decide +kernel
theorem dX5_sound_35 : decode cX5_sound 35 = .ok (.iadd, 1) := by decide +kernel
theorem dX5_sound_36 : decode cX5_sound 36 = .ok (.iaload, 1) := by decide +kernel
theorem dX5_sound_37 : decode cX5_sound 37 = .ok (.ireturn, 1) := by decide +kernel
theorem dX5_sound_38 : decode cX5_sound 38 = .ok (.iload_n 2, 1) := by decide +kernel
theorem dX5_sound_39 : decode cX5_sound 39 = .ok (.iconst 5, 1) := by decide +kernel
theorem dX5_sound_40 : decode cX5_sound 40 = .ok (.if_icmp .eq 6, 3) := by decide +kernel
theorem dX5_sound_43 : decode cX5_sound 43 = .ok (.bipush (-2), 2) := by decide +kernel
theorem dX5_sound_45 : decode cX5_sound 45 = .ok (.ireturn, 1) := by decide +kernel
theorem dX5_sound_46 : decode cX5_sound 46 = .ok (.iconst 0, 1) := by decide +kernel
theorem dX5_sound_47 : decode cX5_sound 47 = .ok (.istore_n 3, 1) := by decide +kernel
theorem dX5_sound_48 : decode cX5_sound 48 = .ok (.iconst 0, 1) := by decide +kernel
theorem dX5_sound_49 : decode cX5_sound 49 = .ok (.istore 4, 2) := by decide +kernel
theorem dX5_sound_51 : decode cX5_sound 51 = .ok (.iload 4, 2) := by decide +kernel
theorem dX5_sound_53 : decode cX5_sound 53 = .ok (.bipush 10, 2) := by decide +kernel
theorem dX5_sound_55 : decode cX5_sound 55 = .ok (.if_icmp .ge 40, 3) := by decide +kernel
theorem dX5_sound_58 : decode cX5_sound 58 = .ok (.iload_n 3, 1) := by decide +kernel
theorem dX5_sound_59 : decode cX5_sound 59 = .ok (.aload_n 0, 1) := by decide +kernel
theorem dX5_sound_60 : decode cX5_sound 60 = .ok (.aload_n 0, 1) := by decide +kernel
theorem dX5_sound_61 : decode cX5_sound 61 = .ok (.getfield 19, 3) := by decide +kernel
theorem dX5_sound_64 : decode cX5_sound 64 = .ok (.iload_n 1, 1) := by decide +kernel
theorem dX5_sound_65 : decode cX5_sound 65 = .ok (.iload 4, 2) := by decide +kernel
theorem dX5_sound_67 : decode cX5_sound 67 = .ok (.aload_n 0, 1) := by decide +kernel
theorem dX5_sound_68 : decode cX5_sound 68 = .ok (.getfield 19, 3) := by decide +kernel
theorem dX5_sound_71 : decode cX5_sound 71 = .ok (.iconst 1, 1) := by decide +kernel
theorem dX5_sound_72 : decode cX5_sound 72 = .ok (.iaload, 1) := by decide +kernel
theorem dX5_sound_73 : decode cX5_sound 73 = .ok (.invokevirtual 118, 3) := by decide +kernel
theorem dX5_sound_76 : decode cX5_sound 76 = .ok (.ifCond .eq 10, 3) := by decide +kernel
theorem dX5_sound_79 : decode cX5_sound 79 = .ok (.iconst 1, 1) := by decide +kernel
theorem dX5_sound_80 : decode cX5_sound 80 = .ok (.iload 4, 2) := by decide +kernel
theorem dX5_sound_82 : decode cX5_sound 82 = .ok (.ishl, 1) := by decide +kernel
theorem dX5_sound_83 : decode cX5_sound 83 = .ok (.goto 4, 3) := by decide +kernel
theorem dX5_sound_86 : decode cX5_sound 86 = .ok (.iconst 0, 1) := by decide +kernel
theorem dX5_sound_87 : decode cX5_sound 87 = .ok (.ior, 1) := by decide +kernel
theorem dX5_sound_88 : decode cX5_sound 88 = .ok (.istore_n 3, 1) := by decide +kernel
theorem dX5_sound_89 : decode cX5_sound 89 = .ok (.iinc 4 1, 3) := by decide +kernel
theorem dX5_sound_92 : decode cX5_sound 92 = .ok (.goto (-41), 3) := by decide +kernel
theorem dX5_sound_95 : decode cX5_sound 95 = .ok (.iload_n 3, 1) := by decide +kernel
theorem dX5_sound_96 : decode cX5_sound 96 = .ok (.ireturn, 1) := by decide +kernel
theorem dX5_note_0 : decode cX5_note 0 = .ok (.aload_n 0, 1) := by decide +kernel
theorem dX5_note_1 : decode cX5_note 1 = .ok (.getfield 104, 3) := by decide +kernel
theorem dX5_note_4 : decode cX5_note 4 = .ok (.bipush 14, 2) := by decide +kernel
theorem dX5_note_6 : decode cX5_note 6 = .ok (.if_icmp .ne 42, 3) := by decide +kernel
theorem dX5_note_9 : decode cX5_note 9 = .ok (.iconst 0, 1) := by decide +kernel
theorem dX5_note_10 : decode cX5_note 10 = .ok (.istore_n 1, 1) := by decide +kernel
theorem dX5_note_11 : decode cX5_note 11 = .ok (.iload_n 1, 1) := by decide +kernel
theorem dX5_note_12 : decode cX5_note 12 = .ok (.bipush 104, 2) := by decide +kernel
theorem dX5_note_14 : decode cX5_note 14 = .ok (.if_icmp .ge 24, 3) := by decide +kernel
theorem dX5_note_17 : decode cX5_note 17 = .ok (.aload_n 0, 1) := by decide +kernel
theorem dX5_note_18 : decode cX5_note 18 = .ok (.getfield 25, 3) := by decide +kernel
theorem dX5_note_21 : decode cX5_note 21 = .ok (.iload_n 1, 1) := by decide +kernel
theorem dX5_note_22 : decode cX5_note 22 = .ok (.aload_n 0, 1) := by decide +kernel
theorem dX5_note_23 : decode cX5_note 23 = .ok (.getfield 25, 3) := by decide +kernel
theorem dX5_note_26 : decode cX5_note 26 = .ok (.iload_n 1, 1) := by decide +kernel
theorem dX5_note_27 : decode cX5_note 27 = .ok (.bipush 8, 2) := by decide +kernel
theorem dX5_note_29 : decode cX5_note 29 = .ok (.iadd, 1) := by decide +kernel
theorem dX5_note_30 : decode cX5_note 30 = .ok (.iaload, 1) := by decide +kernel
theorem dX5_note_31 : decode cX5_note 31 = .ok (.iastore, 1) := by decide +kernel
theorem dX5_note_32 : decode cX5_note 32 = .ok (.iinc 1 1, 3) := by decide +kernel
theorem dX5_note_35 : decode cX5_note 35 = .ok (.goto (-24), 3) := by decide +kernel
theorem dX5_note_38 : decode cX5_note 38 = .ok (.aload_n 0, 1) := by decide +kernel
theorem dX5_note_39 : decode cX5_note 39 = .ok (.dup, 1) := by decide +kernel
theorem dX5_note_40 : decode cX5_note 40 = .ok (.getfield 104, 3) := by decide +kernel
theorem dX5_note_43 : decode cX5_note 43 = .ok (.iconst 1, 1) := by decide +kernel
theorem dX5_note_44 : decode cX5_note 44 = .ok (.isub, 1) := by decide +kernel
theorem dX5_note_45 : decode cX5_note 45 = .ok (.putfield 104, 3) := by decide +kernel
theorem dX5_note_48 : decode cX5_note 48 = .ok (.iconst 0, 1) := by decide +kernel
theorem dX5_note_49 : decode cX5_note 49 = .ok (.istore_n 1, 1) := by decide +kernel
theorem dX5_note_50 : decode cX5_note 50 = .ok (.iload_n 1, 1) := by decide +kernel
theorem dX5_note_51 : decode cX5_note 51 = .ok (.bipush 8, 2) := by decide +kernel
theorem dX5_note_53 : decode cX5_note 53 = .ok (.if_icmp .ge 29, 3) := by decide +kernel
theorem dX5_note_56 : decode cX5_note 56 = .ok (.aload_n 0, 1) := by decide +kernel
theorem dX5_note_57 : decode cX5_note 57 = .ok (.getfield 25, 3) := by decide +kernel
theorem dX5_note_60 : decode cX5_note 60 = .ok (.bipush 8, 2) := by decide +kernel
theorem dX5_note_62 : decode cX5_note 62 = .ok (.aload_n 0, 1) := by decide +kernel
theorem dX5_note_63 : decode cX5_note 63 = .ok (.getfield 104, 3) := by decide +kernel
theorem dX5_note_66 : decode cX5_note 66 = .ok (.imul, 1) := by decide +kernel
theorem dX5_note_67 : decode cX5_note 67 = .ok (.iload_n 1, 1) := by decide +kernel
theorem dX5_note_68 : decode cX5_note 68 = .ok (.iadd, 1) := by decide +kernel
theorem dX5_note_69 : decode cX5_note 69 = .ok (.aload_n 0, 1) := by decide +kernel
theorem dX5_note_70 : decode cX5_note 70 = .ok (.getfield 19, 3) := by decide +kernel
theorem dX5_note_73 : decode cX5_note 73 = .ok (.iload_n 1, 1) := by decide +kernel
theorem dX5_note_74 : decode cX5_note 74 = .ok (.iaload, 1) := by decide +kernel
theorem dX5_note_75 : decode cX5_note 75 = .ok (.iastore, 1) := by decide +kernel
theorem dX5_note_76 : decode cX5_note 76 = .ok (.iinc 1 1, 3) := by decide +kernel
theorem dX5_note_79 : decode cX5_note 79 = .ok (.goto (-29), 3) := by decide +kernel
theorem dX5_note_82 : decode cX5_note 82 = .ok (.aload_n 0, 1) := by decide +kernel
theorem dX5_note_83 : decode cX5_note 83 = .ok (.dup, 1) := by decide +kernel
theorem dX5_note_84 : decode cX5_note 84 = .ok (.getfield 104, 3) := by decide +kernel
theorem dX5_note_87 : decode cX5_note 87 = .ok (.iconst 1, 1) := by decide +kernel
theorem dX5_note_88 : decode cX5_note 88 = .ok (.iadd, 1) := by decide +kernel
theorem dX5_note_89 : decode cX5_note 89 = .ok (.putfield 104, 3) := by decide +kernel
theorem dX5_note_92 : decode cX5_note 92 = .ok (.return_, 1) := by decide +kernel
theorem dX5_row_0 : decode cX5_row 0 = .ok (.aload_n 0, 1) := by decide +kernel
theorem dX5_row_1 : decode cX5_row 1 = .ok (.iconst 0, 1) := by decide +kernel
theorem dX5_row_2 : decode cX5_row 2 = .ok (.putfield 56, 3) := by decide +kernel
theorem dX5_row_5 : decode cX5_row 5 = .ok (.iload_n 1, 1) := by decide +kernel
theorem dX5_row_6 : decode cX5_row 6 = .ok (.i2l, 1) := by decide +kernel
theorem dX5_row_7 : decode cX5_row 7 = .ok (.lconst 1, 1) := by decide +kernel
theorem dX5_row_8 : decode cX5_row 8 = .ok (.ldc2_w 135, 3) := by decide +kernel
theorem dX5_row_11 : decode cX5_row 11 = .ok (.invokestatic 63, 3) := by decide +kernel
theorem dX5_row_14 : decode cX5_row 14 = .ok (.ifCond .ne 6, 3) := by decide +kernel
theorem dX5_row_17 : decode cX5_row 17 = .ok (.bipush (-2), 2) := by decide +kernel
theorem dX5_row_19 : decode cX5_row 19 = .ok (.ireturn, 1) := by decide +kernel
theorem dX5_row_20 : decode cX5_row 20 = .ok (.aload_n 0, 1) := by decide +kernel
theorem dX5_row_21 : decode cX5_row 21 = .ok (.getfield 19, 3) := by decide +kernel
theorem dX5_row_24 : decode cX5_row 24 = .ok (.iconst 0, 1) := by decide +kernel
theorem dX5_row_25 : decode cX5_row 25 = .ok (.iaload, 1) := by decide +kernel
theorem dX5_row_26 : decode cX5_row 26 = .ok (.iload_n 1, 1) := by decide +kernel
theorem dX5_row_27 : decode cX5_row 27 = .ok (.iconst 1, 1) := by decide +kernel
theorem dX5_row_28 : decode cX5_row 28 = .ok (.if_icmp .ne 7, 3) := by decide +kernel
theorem dX5_row_31 : decode cX5_row 31 = .ok (.iconst 1, 1) := by decide +kernel
theorem dX5_row_32 : decode cX5_row 32 = .ok (.goto 4, 3) := by decide +kernel
theorem dX5_row_35 : decode cX5_row 35 = .ok (.iconst (-1), 1) := by decide +kernel
theorem dX5_row_36 : decode cX5_row 36 = .ok (.iadd, 1) := by decide +kernel
theorem dX5_row_37 : decode cX5_row 37 = .ok (.istore_n 2, 1) := by decide +kernel
theorem dX5_row_38 : decode cX5_row 38 = .ok (.iload_n 2, 1) := by decide +kernel
theorem dX5_row_39 : decode cX5_row 39 = .ok (.invokestatic 137, 3) := by decide +kernel
theorem dX5_row_42 : decode cX5_row 42 = .ok (.ifCond .eq 6, 3) := by decide +kernel
theorem dX5_row_45 : decode cX5_row 45 = .ok (.bipush (-3), 2) := by decide +kernel
theorem dX5_row_47 : decode cX5_row 47 = .ok (.ireturn, 1) := by decide +kernel
theorem dX5_row_48 : decode cX5_row 48 = .ok (.aload_n 0, 1) := by decide +kernel
theorem dX5_row_49 : decode cX5_row 49 = .ok (.invokevirtual 140, 3) := by decide +kernel
theorem dX5_row_52 : decode cX5_row 52 = .ok (.aload_n 0, 1) := by decide +kernel
theorem dX5_row_53 : decode cX5_row 53 = .ok (.getfield 19, 3) := by decide +kernel
theorem dX5_row_56 : decode cX5_row 56 = .ok (.iconst 0, 1) := by decide +kernel
theorem dX5_row_57 : decode cX5_row 57 = .ok (.iload_n 2, 1) := by decide +kernel
theorem dX5_row_58 : decode cX5_row 58 = .ok (.iastore, 1) := by decide +kernel
theorem dX5_row_59 : decode cX5_row 59 = .ok (.aload_n 0, 1) := by decide +kernel
theorem dX5_row_60 : decode cX5_row 60 = .ok (.aload_n 0, 1) := by decide +kernel
theorem dX5_row_61 : decode cX5_row 61 = .ok (.getfield 19, 3) := by decide +kernel
theorem dX5_row_64 : decode cX5_row 64 = .ok (.iload_n 2, 1) := by decide +kernel
theorem dX5_row_65 : decode cX5_row 65 = .ok (.aload_n 0, 1) := by decide +kernel
theorem dX5_row_66 : decode cX5_row 66 = .ok (.getfield 19, 3) := by decide +kernel
theorem dX5_row_69 : decode cX5_row 69 = .ok (.iconst 1, 1) := by decide +kernel
theorem dX5_row_70 : decode cX5_row 70 = .ok (.iaload, 1) := by decide +kernel
theorem dX5_row_71 : decode cX5_row 71 = .ok (.invokevirtual 122, 3) := by decide +kernel
theorem dX5_row_74 : decode cX5_row 74 = .ok (.ireturn, 1) := by decide +kernel
theorem dX5_hush_0 : decode cX5_hush 0 = .ok (.aload_n 0, 1) := by decide +kernel
theorem dX5_hush_1 : decode cX5_hush 1 = .ok (.iconst 0, 1) := by decide +kernel
theorem dX5_hush_2 : decode cX5_hush 2 = .ok (.putfield 56, 3) := by decide +kernel
theorem dX5_hush_5 : decode cX5_hush 5 = .ok (.aload_n 0, 1) := by decide +kernel
theorem dX5_hush_6 : decode cX5_hush 6 = .ok (.iload_n 1, 1) := by decide +kernel
theorem dX5_hush_7 : decode cX5_hush 7 = .ok (.invokevirtual 129, 3) := by decide +kernel
theorem dX5_hush_10 : decode cX5_hush 10 = .ok (.ifCond .eq 5, 3) := by decide +kernel
theorem dX5_hush_13 : decode cX5_hush 13 = .ok (.iconst (-1), 1) := by decide +kernel
theorem dX5_hush_14 : decode cX5_hush 14 = .ok (.ireturn, 1) := by decide +kernel
theorem dX5_hush_15 : decode cX5_hush 15 = .ok (.aload_n 0, 1) := by decide +kernel
theorem dX5_hush_16 : decode cX5_hush 16 = .ok (.invokevirtual 140, 3) := by decide +kernel
theorem dX5_hush_19 : decode cX5_hush 19 = .ok (.aload_n 0, 1) := by decide +kernel
theorem dX5_hush_20 : decode cX5_hush 20 = .ok (.getfield 19, 3) := by decide +kernel
theorem dX5_hush_23 : decode cX5_hush 23 = .ok (.iconst 2, 1) := by decide +kernel
theorem dX5_hush_24 : decode cX5_hush 24 = .ok (.dup2, 1) := by decide +kernel
theorem dX5_hush_25 : decode cX5_hush 25 = .ok (.iaload, 1) := by decide +kernel
theorem dX5_hush_26 : decode cX5_hush 26 = .ok (.iconst 1, 1) := by decide +kernel
theorem dX5_hush_27 : decode cX5_hush 27 = .ok (.iload_n 1, 1) := by decide +kernel
theorem dX5_hush_28 : decode cX5_hush 28 = .ok (.ishl, 1) := by decide +kernel
theorem dX5_hush_29 : decode cX5_hush 29 = .ok (.ixor, 1) := by decide +kernel
theorem dX5_hush_30 : decode cX5_hush 30 = .ok (.iastore, 1) := by decide +kernel
theorem dX5_hush_31 : decode cX5_hush 31 = .ok (.aload_n 0, 1) := by decide +kernel
theorem dX5_hush_32 : decode cX5_hush 32 = .ok (.getfield 19, 3) := by decide +kernel
theorem dX5_hush_35 : decode cX5_hush 35 = .ok (.iconst 2, 1) := by decide +kernel
theorem dX5_hush_36 : decode cX5_hush 36 = .ok (.iaload, 1) := by decide +kernel
theorem dX5_hush_37 : decode cX5_hush 37 = .ok (.iload_n 1, 1) := by decide +kernel
theorem dX5_hush_38 : decode cX5_hush 38 = .ok (.ishr, 1) := by decide +kernel
theorem dX5_hush_39 : decode cX5_hush 39 = .ok (.iconst 1, 1) := by decide +kernel
theorem dX5_hush_40 : decode cX5_hush 40 = .ok (.iand, 1) := by decide +kernel
theorem dX5_hush_41 : decode cX5_hush 41 = .ok (.ireturn, 1) := by decide +kernel
theorem dX5_hammer_0 : decode cX5_hammer 0 = .ok (.aload_n 0, 1) := by decide +kernel
theorem dX5_hammer_1 : decode cX5_hammer 1 = .ok (.iconst 0, 1) := by decide +kernel
theorem dX5_hammer_2 : decode cX5_hammer 2 = .ok (.putfield 56, 3) := by decide +kernel
theorem dX5_hammer_5 : decode cX5_hammer 5 = .ok (.iload_n 1, 1) := by decide +kernel
theorem dX5_hammer_6 : decode cX5_hammer 6 = .ok (.invokestatic 137, 3) := by decide +kernel
theorem dX5_hammer_9 : decode cX5_hammer 9 = .ok (.ifCond .eq 6, 3) := by decide +kernel
theorem dX5_hammer_12 : decode cX5_hammer 12 = .ok (.bipush (-2), 2) := by decide +kernel
theorem dX5_hammer_14 : decode cX5_hammer 14 = .ok (.ireturn, 1) := by decide +kernel
theorem dX5_hammer_15 : decode cX5_hammer 15 = .ok (.aload_n 0, 1) := by decide +kernel
theorem dX5_hammer_16 : decode cX5_hammer 16 = .ok (.getfield 19, 3) := by decide +kernel
theorem dX5_hammer_19 : decode cX5_hammer 19 = .ok (.iconst 4, 1) := by decide +kernel
theorem dX5_hammer_20 : decode cX5_hammer 20 = .ok (.iaload, 1) := by decide +kernel
theorem dX5_hammer_21 : decode cX5_hammer 21 = .ok (.iload_n 1, 1) := by decide +kernel
theorem dX5_hammer_22 : decode cX5_hammer 22 = .ok (.if_icmp .ne 7, 3) := by decide +kernel
theorem dX5_hammer_25 : decode cX5_hammer 25 = .ok (.iconst 1, 1) := by decide +kernel
theorem dX5_hammer_26 : decode cX5_hammer 26 = .ok (.goto 4, 3) := by decide +kernel
theorem dX5_hammer_29 : decode cX5_hammer 29 = .ok (.iconst 0, 1) := by decide +kernel
theorem dX5_hammer_30 : decode cX5_hammer 30 = .ok (.istore_n 2, 1) := by decide +kernel
theorem dX5_hammer_31 : decode cX5_hammer 31 = .ok (.aload_n 0, 1) := by decide +kernel
theorem dX5_hammer_32 : decode cX5_hammer 32 = .ok (.getfield 19, 3) := by decide +kernel
theorem dX5_hammer_35 : decode cX5_hammer 35 = .ok (.iconst 5, 1) := by decide +kernel
theorem dX5_hammer_36 : decode cX5_hammer 36 = .ok (.iaload, 1) := by decide +kernel
theorem dX5_hammer_37 : decode cX5_hammer 37 = .ok (.iload_n 1, 1) := by decide +kernel
theorem dX5_hammer_38 : decode cX5_hammer 38 = .ok (.if_icmp .ne 7, 3) := by decide +kernel
theorem dX5_hammer_41 : decode cX5_hammer 41 = .ok (.iconst 1, 1) := by decide +kernel
theorem dX5_hammer_42 : decode cX5_hammer 42 = .ok (.goto 4, 3) := by decide +kernel
theorem dX5_hammer_45 : decode cX5_hammer 45 = .ok (.iconst 0, 1) := by decide +kernel
theorem dX5_hammer_46 : decode cX5_hammer 46 = .ok (.istore_n 3, 1) := by decide +kernel
theorem dX5_hammer_47 : decode cX5_hammer 47 = .ok (.iload_n 2, 1) := by decide +kernel
theorem dX5_hammer_48 : decode cX5_hammer 48 = .ok (.ifCond .ne 20, 3) := by decide +kernel
theorem dX5_hammer_51 : decode cX5_hammer 51 = .ok (.iload_n 3, 1) := by decide +kernel
theorem dX5_hammer_52 : decode cX5_hammer 52 = .ok (.ifCond .ne 16, 3) := by decide +kernel
theorem dX5_hammer_55 : decode cX5_hammer 55 = .ok (.aload_n 0, 1) := by decide +kernel
theorem dX5_hammer_56 : decode cX5_hammer 56 = .ok (.getfield 19, 3) := by decide +kernel
theorem dX5_hammer_59 : decode cX5_hammer 59 = .ok (.iconst 3, 1) := by decide +kernel
theorem dX5_hammer_60 : decode cX5_hammer 60 = .ok (.iaload, 1) := by decide +kernel
theorem dX5_hammer_61 : decode cX5_hammer 61 = .ok (.iconst 2, 1) := by decide +kernel
theorem dX5_hammer_62 : decode cX5_hammer 62 = .ok (.if_icmp .ne 6, 3) := by decide +kernel
theorem dX5_hammer_65 : decode cX5_hammer 65 = .ok (.bipush (-4), 2) := by decide +kernel
theorem dX5_hammer_67 : decode cX5_hammer 67 = .ok (.ireturn, 1) := by decide +kernel
theorem dX5_hammer_68 : decode cX5_hammer 68 = .ok (.aload_n 0, 1) := by decide +kernel
theorem dX5_hammer_69 : decode cX5_hammer 69 = .ok (.invokevirtual 140, 3) := by decide +kernel
theorem dX5_hammer_72 : decode cX5_hammer 72 = .ok (.iload_n 2, 1) := by decide +kernel
theorem dX5_hammer_73 : decode cX5_hammer 73 = .ok (.ifCond .ne 7, 3) := by decide +kernel
theorem dX5_hammer_76 : decode cX5_hammer 76 = .ok (.iload_n 3, 1) := by decide +kernel
theorem dX5_hammer_77 : decode cX5_hammer 77 = .ok (.ifCond .eq 49, 3) := by decide +kernel
theorem dX5_hammer_80 : decode cX5_hammer 80 = .ok (.aload_n 0, 1) := by decide +kernel
theorem dX5_hammer_81 : decode cX5_hammer 81 = .ok (.getfield 19, 3) := by decide +kernel
theorem dX5_hammer_84 : decode cX5_hammer 84 = .ok (.iconst 4, 1) := by decide +kernel
theorem dX5_hammer_85 : decode cX5_hammer 85 = .ok (.iload_n 2, 1) := by decide +kernel
theorem dX5_hammer_86 : decode cX5_hammer 86 = .ok (.ifCond .eq 12, 3) := by decide +kernel
theorem dX5_hammer_89 : decode cX5_hammer 89 = .ok (.aload_n 0, 1) := by decide +kernel
theorem dX5_hammer_90 : decode cX5_hammer 90 = .ok (.getfield 19, 3) := by decide +kernel
theorem dX5_hammer_93 : decode cX5_hammer 93 = .ok (.iconst 5, 1) := by decide +kernel
theorem dX5_hammer_94 : decode cX5_hammer 94 = .ok (.iaload, 1) := by decide +kernel
theorem dX5_hammer_95 : decode cX5_hammer 95 = .ok (.goto 9, 3) := by decide +kernel
theorem dX5_hammer_98 : decode cX5_hammer 98 = .ok (.aload_n 0, 1) := by decide +kernel
theorem dX5_hammer_99 : decode cX5_hammer 99 = .ok (.getfield 19, 3) := by decide +kernel
theorem dX5_hammer_102 : decode cX5_hammer 102 = .ok (.iconst 4, 1) := by decide +kernel
theorem dX5_hammer_103 : decode cX5_hammer 103 = .ok (.iaload, 1) := by decide +kernel
theorem dX5_hammer_104 : decode cX5_hammer 104 = .ok (.iastore, 1) := by decide +kernel
theorem dX5_hammer_105 : decode cX5_hammer 105 = .ok (.aload_n 0, 1) := by decide +kernel
theorem dX5_hammer_106 : decode cX5_hammer 106 = .ok (.getfield 19, 3) := by decide +kernel
theorem dX5_hammer_109 : decode cX5_hammer 109 = .ok (.iconst 5, 1) := by decide +kernel
theorem dX5_hammer_110 : decode cX5_hammer 110 = .ok (.bipush (-9), 2) := by decide +kernel
theorem dX5_hammer_112 : decode cX5_hammer 112 = .ok (.iastore, 1) := by decide +kernel
theorem dX5_hammer_113 : decode cX5_hammer 113 = .ok (.aload_n 0, 1) := by decide +kernel
theorem dX5_hammer_114 : decode cX5_hammer 114 = .ok (.getfield 19, 3) := by decide +kernel
theorem dX5_hammer_117 : decode cX5_hammer 117 = .ok (.iconst 3, 1) := by decide +kernel
theorem dX5_hammer_118 : decode cX5_hammer 118 = .ok (.dup2, 1) := by decide +kernel
theorem dX5_hammer_119 : decode cX5_hammer 119 = .ok (.iaload, 1) := by decide +kernel
theorem dX5_hammer_120 : decode cX5_hammer 120 = .ok (.iconst 1, 1) := by decide +kernel
theorem dX5_hammer_121 : decode cX5_hammer 121 = .ok (.isub, 1) := by decide +kernel
theorem dX5_hammer_122 : decode cX5_hammer 122 = .ok (.iastore, 1) := by decide +kernel
theorem dX5_hammer_123 : decode cX5_hammer 123 = .ok (.goto 33, 3) := by decide +kernel
theorem dX5_hammer_126 : decode cX5_hammer 126 = .ok (.aload_n 0, 1) := by decide +kernel
theorem dX5_hammer_127 : decode cX5_hammer 127 = .ok (.getfield 19, 3) := by decide +kernel
theorem dX5_hammer_130 : decode cX5_hammer 130 = .ok (.aload_n 0, 1) := by decide +kernel
theorem dX5_hammer_131 : decode cX5_hammer 131 = .ok (.getfield 19, 3) := by decide +kernel
theorem dX5_hammer_134 : decode cX5_hammer 134 = .ok (.iconst 3, 1) := by decide +kernel
theorem dX5_hammer_135 : decode cX5_hammer 135 = .ok (.iaload, 1) := by decide +kernel
theorem dX5_hammer_136 : decode cX5_hammer 136 = .ok (.ifCond .ne 7, 3) := by decide +kernel
theorem dX5_hammer_139 : decode cX5_hammer 139 = .ok (.iconst 4, 1) := by decide +kernel
theorem dX5_hammer_140 : decode cX5_hammer 140 = .ok (.goto 4, 3) := by decide +kernel
theorem dX5_hammer_143 : decode cX5_hammer 143 = .ok (.iconst 5, 1) := by decide +kernel
theorem dX5_hammer_144 : decode cX5_hammer 144 = .ok (.iload_n 1, 1) := by decide +kernel
theorem dX5_hammer_145 : decode cX5_hammer 145 = .ok (.iastore, 1) := by decide +kernel
theorem dX5_hammer_146 : decode cX5_hammer 146 = .ok (.aload_n 0, 1) := by decide +kernel
theorem dX5_hammer_147 : decode cX5_hammer 147 = .ok (.getfield 19, 3) := by decide +kernel
theorem dX5_hammer_150 : decode cX5_hammer 150 = .ok (.iconst 3, 1) := by decide +kernel
theorem dX5_hammer_151 : decode cX5_hammer 151 = .ok (.dup2, 1) := by decide +kernel
theorem dX5_hammer_152 : decode cX5_hammer 152 = .ok (.iaload, 1) := by decide +kernel
theorem dX5_hammer_153 : decode cX5_hammer 153 = .ok (.iconst 1, 1) := by decide +kernel
theorem dX5_hammer_154 : decode cX5_hammer 154 = .ok (.iadd, 1) := by decide +kernel
theorem dX5_hammer_155 : decode cX5_hammer 155 = .ok (.iastore, 1) := by decide +kernel
theorem dX5_hammer_156 : decode cX5_hammer 156 = .ok (.aload_n 0, 1) := by decide +kernel
theorem dX5_hammer_157 : decode cX5_hammer 157 = .ok (.getfield 19, 3) := by decide +kernel
theorem dX5_hammer_160 : decode cX5_hammer 160 = .ok (.iconst 3, 1) := by decide +kernel
theorem dX5_hammer_161 : decode cX5_hammer 161 = .ok (.iaload, 1) := by decide +kernel
theorem dX5_hammer_162 : decode cX5_hammer 162 = .ok (.ireturn, 1) := by decide +kernel
theorem dX5_change_0 : decode cX5_change 0 = .ok (.aload_n 0, 1) := by decide +kernel
theorem dX5_change_1 : decode cX5_change 1 = .ok (.iconst 0, 1) := by decide +kernel
theorem dX5_change_2 : decode cX5_change 2 = .ok (.putfield 56, 3) := by decide +kernel
theorem dX5_change_5 : decode cX5_change 5 = .ok (.iload_n 1, 1) := by decide +kernel
theorem dX5_change_6 : decode cX5_change 6 = .ok (.i2l, 1) := by decide +kernel
theorem dX5_change_7 : decode cX5_change 7 = .ok (.lconst 0, 1) := by decide +kernel
theorem dX5_change_8 : decode cX5_change 8 = .ok (.ldc2_w 133, 3) := by decide +kernel
theorem dX5_change_11 : decode cX5_change 11 = .ok (.invokestatic 63, 3) := by decide +kernel
theorem dX5_change_14 : decode cX5_change 14 = .ok (.ifCond .eq 15, 3) := by decide +kernel
theorem dX5_change_17 : decode cX5_change 17 = .ok (.iload_n 2, 1) := by decide +kernel
theorem dX5_change_18 : decode cX5_change 18 = .ok (.i2l, 1) := by decide +kernel
theorem dX5_change_19 : decode cX5_change 19 = .ok (.lconst 0, 1) := by decide +kernel
theorem dX5_change_20 : decode cX5_change 20 = .ok (.ldc2_w 135, 3) := by decide +kernel
theorem dX5_change_23 : decode cX5_change 23 = .ok (.invokestatic 63, 3) := by decide +kernel
theorem dX5_change_26 : decode cX5_change 26 = .ok (.ifCond .ne 6, 3) := by decide +kernel
theorem dX5_change_29 : decode cX5_change 29 = .ok (.bipush (-2), 2) := by decide +kernel
theorem dX5_change_31 : decode cX5_change 31 = .ok (.ireturn, 1) := by decide +kernel
theorem dX5_change_32 : decode cX5_change 32 = .ok (.bipush 10, 2) := by decide +kernel
theorem dX5_change_34 : decode cX5_change 34 = .ok (.aload_n 0, 1) := by decide +kernel
theorem dX5_change_35 : decode cX5_change 35 = .ok (.getfield 19, 3) := by decide +kernel
theorem dX5_change_38 : decode cX5_change 38 = .ok (.bipush 6, 2) := by decide +kernel
theorem dX5_change_40 : decode cX5_change 40 = .ok (.iaload, 1) := by decide +kernel
theorem dX5_change_41 : decode cX5_change 41 = .ok (.imul, 1) := by decide +kernel
theorem dX5_change_42 : decode cX5_change 42 = .ok (.aload_n 0, 1) := by decide +kernel
theorem dX5_change_43 : decode cX5_change 43 = .ok (.getfield 19, 3) := by decide +kernel
theorem dX5_change_46 : decode cX5_change 46 = .ok (.bipush 7, 2) := by decide +kernel
theorem dX5_change_48 : decode cX5_change 48 = .ok (.iaload, 1) := by decide +kernel
theorem dX5_change_49 : decode cX5_change 49 = .ok (.iadd, 1) := by decide +kernel
theorem dX5_change_50 : decode cX5_change 50 = .ok (.istore_n 3, 1) := by decide +kernel
theorem dX5_change_51 : decode cX5_change 51 = .ok (.iload_n 3, 1) := by decide +kernel
theorem dX5_change_52 : decode cX5_change 52 = .ok (.bipush 10, 2) := by decide +kernel
theorem dX5_change_54 : decode cX5_change 54 = .ok (.iload_n 1, 1) := by decide +kernel
theorem dX5_change_55 : decode cX5_change 55 = .ok (.imul, 1) := by decide +kernel
theorem dX5_change_56 : decode cX5_change 56 = .ok (.iload_n 2, 1) := by decide +kernel
theorem dX5_change_57 : decode cX5_change 57 = .ok (.iadd, 1) := by decide +kernel
theorem dX5_change_58 : decode cX5_change 58 = .ok (.if_icmp .ne 6, 3) := by decide +kernel
theorem dX5_change_61 : decode cX5_change 61 = .ok (.bipush (-3), 2) := by decide +kernel
theorem dX5_change_63 : decode cX5_change 63 = .ok (.ireturn, 1) := by decide +kernel
theorem dX5_change_64 : decode cX5_change 64 = .ok (.aload_n 0, 1) := by decide +kernel
theorem dX5_change_65 : decode cX5_change 65 = .ok (.invokevirtual 140, 3) := by decide +kernel
theorem dX5_change_68 : decode cX5_change 68 = .ok (.aload_n 0, 1) := by decide +kernel
theorem dX5_change_69 : decode cX5_change 69 = .ok (.getfield 19, 3) := by decide +kernel
theorem dX5_change_72 : decode cX5_change 72 = .ok (.bipush 6, 2) := by decide +kernel
theorem dX5_change_74 : decode cX5_change 74 = .ok (.iload_n 1, 1) := by decide +kernel
theorem dX5_change_75 : decode cX5_change 75 = .ok (.iastore, 1) := by decide +kernel
theorem dX5_change_76 : decode cX5_change 76 = .ok (.aload_n 0, 1) := by decide +kernel
theorem dX5_change_77 : decode cX5_change 77 = .ok (.getfield 19, 3) := by decide +kernel
theorem dX5_change_80 : decode cX5_change 80 = .ok (.bipush 7, 2) := by decide +kernel
theorem dX5_change_82 : decode cX5_change 82 = .ok (.iload_n 2, 1) := by decide +kernel
theorem dX5_change_83 : decode cX5_change 83 = .ok (.iastore, 1) := by decide +kernel
theorem dX5_change_84 : decode cX5_change 84 = .ok (.iload_n 3, 1) := by decide +kernel
theorem dX5_change_85 : decode cX5_change 85 = .ok (.ireturn, 1) := by decide +kernel
theorem dX5_hour_0 : decode cX5_hour 0 = .ok (.aload_n 0, 1) := by decide +kernel
theorem dX5_hour_1 : decode cX5_hour 1 = .ok (.iconst 0, 1) := by decide +kernel
theorem dX5_hour_2 : decode cX5_hour 2 = .ok (.putfield 56, 3) := by decide +kernel
theorem dX5_hour_5 : decode cX5_hour 5 = .ok (.aload_n 0, 1) := by decide +kernel
theorem dX5_hour_6 : decode cX5_hour 6 = .ok (.invokevirtual 140, 3) := by decide +kernel
theorem dX5_hour_9 : decode cX5_hour 9 = .ok (.aload_n 0, 1) := by decide +kernel
theorem dX5_hour_10 : decode cX5_hour 10 = .ok (.getfield 19, 3) := by decide +kernel
theorem dX5_hour_13 : decode cX5_hour 13 = .ok (.iconst 1, 1) := by decide +kernel
theorem dX5_hour_14 : decode cX5_hour 14 = .ok (.aload_n 0, 1) := by decide +kernel
theorem dX5_hour_15 : decode cX5_hour 15 = .ok (.getfield 19, 3) := by decide +kernel
theorem dX5_hour_18 : decode cX5_hour 18 = .ok (.iconst 1, 1) := by decide +kernel
theorem dX5_hour_19 : decode cX5_hour 19 = .ok (.iaload, 1) := by decide +kernel
theorem dX5_hour_20 : decode cX5_hour 20 = .ok (.iconst 1, 1) := by decide +kernel
theorem dX5_hour_21 : decode cX5_hour 21 = .ok (.iadd, 1) := by decide +kernel
theorem dX5_hour_22 : decode cX5_hour 22 = .ok (.bipush 10, 2) := by decide +kernel
theorem dX5_hour_24 : decode cX5_hour 24 = .ok (.irem, 1) := by decide +kernel
theorem dX5_hour_25 : decode cX5_hour 25 = .ok (.iastore, 1) := by decide +kernel
theorem dX5_hour_26 : decode cX5_hour 26 = .ok (.aload_n 0, 1) := by decide +kernel
theorem dX5_hour_27 : decode cX5_hour 27 = .ok (.getfield 19, 3) := by decide +kernel
theorem dX5_hour_30 : decode cX5_hour 30 = .ok (.iconst 1, 1) := by decide +kernel
theorem dX5_hour_31 : decode cX5_hour 31 = .ok (.iaload, 1) := by decide +kernel
theorem dX5_hour_32 : decode cX5_hour 32 = .ok (.ireturn, 1) := by decide +kernel
theorem dX5_undo_0 : decode cX5_undo 0 = .ok (.aload_n 0, 1) := by decide +kernel
theorem dX5_undo_1 : decode cX5_undo 1 = .ok (.iconst 0, 1) := by decide +kernel
theorem dX5_undo_2 : decode cX5_undo 2 = .ok (.putfield 56, 3) := by decide +kernel
theorem dX5_undo_5 : decode cX5_undo 5 = .ok (.aload_n 0, 1) := by decide +kernel
theorem dX5_undo_6 : decode cX5_undo 6 = .ok (.getfield 104, 3) := by decide +kernel
theorem dX5_undo_9 : decode cX5_undo 9 = .ok (.ifCond .ne 6, 3) := by decide +kernel
theorem dX5_undo_12 : decode cX5_undo 12 = .ok (.bipush (-3), 2) := by decide +kernel
theorem dX5_undo_14 : decode cX5_undo 14 = .ok (.ireturn, 1) := by decide +kernel
theorem dX5_undo_15 : decode cX5_undo 15 = .ok (.aload_n 0, 1) := by decide +kernel
theorem dX5_undo_16 : decode cX5_undo 16 = .ok (.dup, 1) := by decide +kernel
theorem dX5_undo_17 : decode cX5_undo 17 = .ok (.getfield 104, 3) := by decide +kernel
theorem dX5_undo_20 : decode cX5_undo 20 = .ok (.iconst 1, 1) := by decide +kernel
theorem dX5_undo_21 : decode cX5_undo 21 = .ok (.isub, 1) := by decide +kernel
theorem dX5_undo_22 : decode cX5_undo 22 = .ok (.putfield 104, 3) := by decide +kernel
theorem dX5_undo_25 : decode cX5_undo 25 = .ok (.iconst 0, 1) := by decide +kernel
theorem dX5_undo_26 : decode cX5_undo 26 = .ok (.istore_n 1, 1) := by decide +kernel
theorem dX5_undo_27 : decode cX5_undo 27 = .ok (.iload_n 1, 1) := by decide +kernel
theorem dX5_undo_28 : decode cX5_undo 28 = .ok (.bipush 8, 2) := by decide +kernel
theorem dX5_undo_30 : decode cX5_undo 30 = .ok (.if_icmp .ge 29, 3) := by decide +kernel
theorem dX5_undo_33 : decode cX5_undo 33 = .ok (.aload_n 0, 1) := by decide +kernel
theorem dX5_undo_34 : decode cX5_undo 34 = .ok (.getfield 19, 3) := by decide +kernel
theorem dX5_undo_37 : decode cX5_undo 37 = .ok (.iload_n 1, 1) := by decide +kernel
theorem dX5_undo_38 : decode cX5_undo 38 = .ok (.aload_n 0, 1) := by decide +kernel
theorem dX5_undo_39 : decode cX5_undo 39 = .ok (.getfield 25, 3) := by decide +kernel
theorem dX5_undo_42 : decode cX5_undo 42 = .ok (.bipush 8, 2) := by decide +kernel
theorem dX5_undo_44 : decode cX5_undo 44 = .ok (.aload_n 0, 1) := by decide +kernel
theorem dX5_undo_45 : decode cX5_undo 45 = .ok (.getfield 104, 3) := by decide +kernel
theorem dX5_undo_48 : decode cX5_undo 48 = .ok (.imul, 1) := by decide +kernel
theorem dX5_undo_49 : decode cX5_undo 49 = .ok (.iload_n 1, 1) := by decide +kernel
theorem dX5_undo_50 : decode cX5_undo 50 = .ok (.iadd, 1) := by decide +kernel
theorem dX5_undo_51 : decode cX5_undo 51 = .ok (.iaload, 1) := by decide +kernel
theorem dX5_undo_52 : decode cX5_undo 52 = .ok (.iastore, 1) := by decide +kernel
theorem dX5_undo_53 : decode cX5_undo 53 = .ok (.iinc 1 1, 3) := by decide +kernel
theorem dX5_undo_56 : decode cX5_undo 56 = .ok (.goto (-29), 3) := by decide +kernel
theorem dX5_undo_59 : decode cX5_undo 59 = .ok (.aload_n 0, 1) := by decide +kernel
theorem dX5_undo_60 : decode cX5_undo 60 = .ok (.getfield 104, 3) := by decide +kernel
theorem dX5_undo_63 : decode cX5_undo 63 = .ok (.ireturn, 1) := by decide +kernel
theorem dX5_heard_0 : decode cX5_heard 0 = .ok (.aload_n 0, 1) := by decide +kernel
