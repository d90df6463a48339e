theorem dX5_heard_1 : decode cX5_heard 1 = .ok (.iconst 0, 1) := by decide +kernel
theorem dX5_heard_2 : decode cX5_heard 2 = .ok (.putfield 56, 3) := by decide +kernel
theorem dX5_heard_5 : decode cX5_heard 5 = .ok (.iload_n 1, 1) := by decide +kernel
theorem dX5_heard_6 : decode cX5_heard 6 = .ok (.invokestatic 137, 3) := by decide +kernel
theorem dX5_heard_9 : decode cX5_heard 9 = .ok (.ifCond .ne 10, 3) := by decide +kernel
theorem dX5_heard_12 : decode cX5_heard 12 = .ok (.iload_n 2, 1) := by decide +kernel
theorem dX5_heard_13 : decode cX5_heard 13 = .ok (.invokestatic 143, 3) := by decide +kernel
theorem dX5_heard_16 : decode cX5_heard 16 = .ok (.ifCond .eq 8, 3) := by decide +kernel
theorem dX5_heard_19 : decode cX5_heard 19 = .ok (.bipush (-2), 2) := by decide +kernel
theorem dX5_heard_21 : decode cX5_heard 21 = .ok (.goto 13, 3) := by decide +kernel
theorem dX5_heard_24 : decode cX5_heard 24 = .ok (.aload_n 0, 1) := by decide +kernel
theorem dX5_heard_25 : decode cX5_heard 25 = .ok (.aload_n 0, 1) := by decide +kernel
theorem dX5_heard_26 : decode cX5_heard 26 = .ok (.getfield 19, 3) := by decide +kernel
theorem dX5_heard_29 : decode cX5_heard 29 = .ok (.iload_n 1, 1) := by decide +kernel
theorem dX5_heard_30 : decode cX5_heard 30 = .ok (.iload_n 2, 1) := by decide +kernel
theorem dX5_heard_31 : decode cX5_heard 31 = .ok (.invokevirtual 122, 3) := by decide +kernel
theorem dX5_heard_34 : decode cX5_heard 34 = .ok (.ireturn, 1) := by decide +kernel
theorem dX5_sure_0 : decode cX5_sure 0 = .ok (.aload_n 0, 1) := by decide +kernel
theorem dX5_sure_1 : decode cX5_sure 1 = .ok (.iconst 0, 1) := by decide +kernel
theorem dX5_sure_2 : decode cX5_sure 2 = .ok (.putfield 56, 3) := by decide +kernel
theorem dX5_sure_5 : decode cX5_sure 5 = .ok (.iload_n 1, 1) := by decide +kernel
theorem dX5_sure_6 : decode cX5_sure 6 = .ok (.invokestatic 143, 3) := by decide +kernel
theorem dX5_sure_9 : decode cX5_sure 9 = .ok (.ifCond .eq 8, 3) := by decide +kernel
theorem dX5_sure_12 : decode cX5_sure 12 = .ok (.bipush (-2), 2) := by decide +kernel
theorem dX5_sure_14 : decode cX5_sure 14 = .ok (.goto 12, 3) := by decide +kernel
theorem dX5_sure_17 : decode cX5_sure 17 = .ok (.aload_n 0, 1) := by decide +kernel
theorem dX5_sure_18 : decode cX5_sure 18 = .ok (.aload_n 0, 1) := by decide +kernel
theorem dX5_sure_19 : decode cX5_sure 19 = .ok (.getfield 19, 3) := by decide +kernel
theorem dX5_sure_22 : decode cX5_sure 22 = .ok (.iload_n 1, 1) := by decide +kernel
theorem dX5_sure_23 : decode cX5_sure 23 = .ok (.invokevirtual 146, 3) := by decide +kernel
theorem dX5_sure_26 : decode cX5_sure 26 = .ok (.ireturn, 1) := by decide +kernel
theorem dX5_where_0 : decode cX5_where 0 = .ok (.aload_n 0, 1) := by decide +kernel
theorem dX5_where_1 : decode cX5_where 1 = .ok (.iconst 0, 1) := by decide +kernel
theorem dX5_where_2 : decode cX5_where 2 = .ok (.putfield 56, 3) := by decide +kernel
theorem dX5_where_5 : decode cX5_where 5 = .ok (.iload_n 1, 1) := by decide +kernel
theorem dX5_where_6 : decode cX5_where 6 = .ok (.i2l, 1) := by decide +kernel
theorem dX5_where_7 : decode cX5_where 7 = .ok (.lconst 0, 1) := by decide +kernel
theorem dX5_where_8 : decode cX5_where 8 = .ok (.ldc2_w 69, 3) := by decide +kernel
theorem dX5_where_11 : decode cX5_where 11 = .ok (.invokestatic 63, 3) := by decide +kernel
theorem dX5_where_14 : decode cX5_where 14 = .ok (.ifCond .eq 10, 3) := by decide +kernel
theorem dX5_where_17 : decode cX5_where 17 = .ok (.iload_n 2, 1) := by decide +kernel
theorem dX5_where_18 : decode cX5_where 18 = .ok (.invokestatic 143, 3) := by decide +kernel
theorem dX5_where_21 : decode cX5_where 21 = .ok (.ifCond .eq 6, 3) := by decide +kernel
theorem dX5_where_24 : decode cX5_where 24 = .ok (.bipush (-2), 2) := by decide +kernel
theorem dX5_where_26 : decode cX5_where 26 = .ok (.ireturn, 1) := by decide +kernel
theorem dX5_where_27 : decode cX5_where 27 = .ok (.iconst 0, 1) := by decide +kernel
theorem dX5_where_28 : decode cX5_where 28 = .ok (.istore_n 3, 1) := by decide +kernel
theorem dX5_where_29 : decode cX5_where 29 = .ok (.iconst 0, 1) := by decide +kernel
theorem dX5_where_30 : decode cX5_where 30 = .ok (.istore 4, 2) := by decide +kernel
theorem dX5_where_32 : decode cX5_where 32 = .ok (.iload 4, 2) := by decide +kernel
theorem dX5_where_34 : decode cX5_where 34 = .ok (.bipush 10, 2) := by decide +kernel
theorem dX5_where_36 : decode cX5_where 36 = .ok (.if_icmp .ge 35, 3) := by decide +kernel
theorem dX5_where_39 : decode cX5_where 39 = .ok (.iload_n 3, 1) := by decide +kernel
theorem dX5_where_40 : decode cX5_where 40 = .ok (.aload_n 0, 1) := by decide +kernel
theorem dX5_where_41 : decode cX5_where 41 = .ok (.aload_n 0, 1) := by decide +kernel
theorem dX5_where_42 : decode cX5_where 42 = .ok (.getfield 19, 3) := by decide +kernel
theorem dX5_where_45 : decode cX5_where 45 = .ok (.iload 4, 2) := by decide +kernel
theorem dX5_where_47 : decode cX5_where 47 = .ok (.iload_n 2, 1) := by decide +kernel
theorem dX5_where_48 : decode cX5_where 48 = .ok (.invokevirtual 122, 3) := by decide +kernel
theorem dX5_where_51 : decode cX5_where 51 = .ok (.iload_n 1, 1) := by decide +kernel
theorem dX5_where_52 : decode cX5_where 52 = .ok (.if_icmp .ne 10, 3) := by decide +kernel
theorem dX5_where_55 : decode cX5_where 55 = .ok (.iconst 1, 1) := by decide +kernel
theorem dX5_where_56 : decode cX5_where 56 = .ok (.iload 4, 2) := by decide +kernel
theorem dX5_where_58 : decode cX5_where 58 = .ok (.ishl, 1) := by decide +kernel
theorem dX5_where_59 : decode cX5_where 59 = .ok (.goto 4, 3) := by decide +kernel
theorem dX5_where_62 : decode cX5_where 62 = .ok (.iconst 0, 1) := by decide +kernel
theorem dX5_where_63 : decode cX5_where 63 = .ok (.ior, 1) := by decide +kernel
theorem dX5_where_64 : decode cX5_where 64 = .ok (.istore_n 3, 1) := by decide +kernel
theorem dX5_where_65 : decode cX5_where 65 = .ok (.iinc 4 1, 3) := by decide +kernel
theorem dX5_where_68 : decode cX5_where 68 = .ok (.goto (-36), 3) := by decide +kernel
theorem dX5_where_71 : decode cX5_where 71 = .ok (.iload_n 3, 1) := by decide +kernel
theorem dX5_where_72 : decode cX5_where 72 = .ok (.ireturn, 1) := by decide +kernel
theorem dX5_when_0 : decode cX5_when 0 = .ok (.aload_n 0, 1) := by decide +kernel
theorem dX5_when_1 : decode cX5_when 1 = .ok (.iconst 0, 1) := by decide +kernel
theorem dX5_when_2 : decode cX5_when 2 = .ok (.putfield 56, 3) := by decide +kernel
theorem dX5_when_5 : decode cX5_when 5 = .ok (.iload_n 1, 1) := by decide +kernel
theorem dX5_when_6 : decode cX5_when 6 = .ok (.i2l, 1) := by decide +kernel
theorem dX5_when_7 : decode cX5_when 7 = .ok (.lconst 0, 1) := by decide +kernel
theorem dX5_when_8 : decode cX5_when 8 = .ok (.ldc2_w 69, 3) := by decide +kernel
theorem dX5_when_11 : decode cX5_when 11 = .ok (.invokestatic 63, 3) := by decide +kernel
theorem dX5_when_14 : decode cX5_when 14 = .ok (.ifCond .eq 10, 3) := by decide +kernel
theorem dX5_when_17 : decode cX5_when 17 = .ok (.iload_n 2, 1) := by decide +kernel
theorem dX5_when_18 : decode cX5_when 18 = .ok (.invokestatic 137, 3) := by decide +kernel
theorem dX5_when_21 : decode cX5_when 21 = .ok (.ifCond .eq 6, 3) := by decide +kernel
theorem dX5_when_24 : decode cX5_when 24 = .ok (.bipush (-2), 2) := by decide +kernel
theorem dX5_when_26 : decode cX5_when 26 = .ok (.ireturn, 1) := by decide +kernel
theorem dX5_when_27 : decode cX5_when 27 = .ok (.iconst 0, 1) := by decide +kernel
theorem dX5_when_28 : decode cX5_when 28 = .ok (.istore_n 3, 1) := by decide +kernel
theorem dX5_when_29 : decode cX5_when 29 = .ok (.iconst 0, 1) := by decide +kernel
theorem dX5_when_30 : decode cX5_when 30 = .ok (.istore 4, 2) := by decide +kernel
theorem dX5_when_32 : decode cX5_when 32 = .ok (.iload 4, 2) := by decide +kernel
theorem dX5_when_34 : decode cX5_when 34 = .ok (.bipush 10, 2) := by decide +kernel
theorem dX5_when_36 : decode cX5_when 36 = .ok (.if_icmp .ge 35, 3) := by decide +kernel
theorem dX5_when_39 : decode cX5_when 39 = .ok (.iload_n 3, 1) := by decide +kernel
theorem dX5_when_40 : decode cX5_when 40 = .ok (.aload_n 0, 1) := by decide +kernel
theorem dX5_when_41 : decode cX5_when 41 = .ok (.aload_n 0, 1) := by decide +kernel
theorem dX5_when_42 : decode cX5_when 42 = .ok (.getfield 19, 3) := by decide +kernel
theorem dX5_when_45 : decode cX5_when 45 = .ok (.iload_n 2, 1) := by decide +kernel
theorem dX5_when_46 : decode cX5_when 46 = .ok (.iload 4, 2) := by decide +kernel
theorem dX5_when_48 : decode cX5_when 48 = .ok (.invokevirtual 122, 3) := by decide +kernel
theorem dX5_when_51 : decode cX5_when 51 = .ok (.iload_n 1, 1) := by decide +kernel
theorem dX5_when_52 : decode cX5_when 52 = .ok (.if_icmp .ne 10, 3) := by decide +kernel
theorem dX5_when_55 : decode cX5_when 55 = .ok (.iconst 1, 1) := by decide +kernel
theorem dX5_when_56 : decode cX5_when 56 = .ok (.iload 4, 2) := by decide +kernel
theorem dX5_when_58 : decode cX5_when 58 = .ok (.ishl, 1) := by decide +kernel
theorem dX5_when_59 : decode cX5_when 59 = .ok (.goto 4, 3) := by decide +kernel
theorem dX5_when_62 : decode cX5_when 62 = .ok (.iconst 0, 1) := by decide +kernel
theorem dX5_when_63 : decode cX5_when 63 = .ok (.ior, 1) := by decide +kernel
theorem dX5_when_64 : decode cX5_when 64 = .ok (.istore_n 3, 1) := by decide +kernel
theorem dX5_when_65 : decode cX5_when 65 = .ok (.iinc 4 1, 3) := by decide +kernel
theorem dX5_when_68 : decode cX5_when 68 = .ok (.goto (-36), 3) := by decide +kernel
theorem dX5_when_71 : decode cX5_when 71 = .ok (.iload_n 3, 1) := by decide +kernel
theorem dX5_when_72 : decode cX5_when 72 = .ok (.ireturn, 1) := by decide +kernel
theorem dX5_spared_0 : decode cX5_spared 0 = .ok (.aload_n 0, 1) := by decide +kernel
theorem dX5_spared_1 : decode cX5_spared 1 = .ok (.iconst 0, 1) := by decide +kernel
theorem dX5_spared_2 : decode cX5_spared 2 = .ok (.putfield 56, 3) := by decide +kernel
theorem dX5_spared_5 : decode cX5_spared 5 = .ok (.iload_n 1, 1) := by decide +kernel
theorem dX5_spared_6 : decode cX5_spared 6 = .ok (.invokestatic 143, 3) := by decide +kernel
theorem dX5_spared_9 : decode cX5_spared 9 = .ok (.ifCond .eq 6, 3) := by decide +kernel
theorem dX5_spared_12 : decode cX5_spared 12 = .ok (.bipush (-2), 2) := by decide +kernel
theorem dX5_spared_14 : decode cX5_spared 14 = .ok (.ireturn, 1) := by decide +kernel
theorem dX5_spared_15 : decode cX5_spared 15 = .ok (.bipush (-9), 2) := by decide +kernel
theorem dX5_spared_17 : decode cX5_spared 17 = .ok (.istore_n 2, 1) := by decide +kernel
theorem dX5_spared_18 : decode cX5_spared 18 = .ok (.sipush 9999, 3) := by decide +kernel
theorem dX5_spared_21 : decode cX5_spared 21 = .ok (.istore_n 3, 1) := by decide +kernel
theorem dX5_spared_22 : decode cX5_spared 22 = .ok (.iconst 0, 1) := by decide +kernel
theorem dX5_spared_23 : decode cX5_spared 23 = .ok (.istore 4, 2) := by decide +kernel
theorem dX5_spared_25 : decode cX5_spared 25 = .ok (.iload 4, 2) := by decide +kernel
theorem dX5_spared_27 : decode cX5_spared 27 = .ok (.aload_n 0, 1) := by decide +kernel
theorem dX5_spared_28 : decode cX5_spared 28 = .ok (.getfield 60, 3) := by decide +kernel
theorem dX5_spared_31 : decode cX5_spared 31 = .ok (.if_icmp .ge 80, 3) := by decide +kernel
theorem dX5_spared_34 : decode cX5_spared 34 = .ok (.aload_n 0, 1) := by decide +kernel
theorem dX5_spared_35 : decode cX5_spared 35 = .ok (.getfield 19, 3) := by decide +kernel
theorem dX5_spared_38 : decode cX5_spared 38 = .ok (.iconst 2, 1) := by decide +kernel
theorem dX5_spared_39 : decode cX5_spared 39 = .ok (.iaload, 1) := by decide +kernel
theorem dX5_spared_40 : decode cX5_spared 40 = .ok (.iload 4, 2) := by decide +kernel
theorem dX5_spared_42 : decode cX5_spared 42 = .ok (.invokestatic 110, 3) := by decide +kernel
theorem dX5_spared_45 : decode cX5_spared 45 = .ok (.ifCond .ne 60, 3) := by decide +kernel
theorem dX5_spared_48 : decode cX5_spared 48 = .ok (.aload_n 0, 1) := by decide +kernel
theorem dX5_spared_49 : decode cX5_spared 49 = .ok (.invokevirtual 150, 3) := by decide +kernel
theorem dX5_spared_52 : decode cX5_spared 52 = .ok (.aload_n 0, 1) := by decide +kernel
theorem dX5_spared_53 : decode cX5_spared 53 = .ok (.getfield 22, 3) := by decide +kernel
theorem dX5_spared_56 : decode cX5_spared 56 = .ok (.iconst 2, 1) := by decide +kernel
theorem dX5_spared_57 : decode cX5_spared 57 = .ok (.dup2, 1) := by decide +kernel
theorem dX5_spared_58 : decode cX5_spared 58 = .ok (.iaload, 1) := by decide +kernel
theorem dX5_spared_59 : decode cX5_spared 59 = .ok (.iconst 1, 1) := by decide +kernel
theorem dX5_spared_60 : decode cX5_spared 60 = .ok (.iload 4, 2) := by decide +kernel
theorem dX5_spared_62 : decode cX5_spared 62 = .ok (.ishl, 1) := by decide +kernel
theorem dX5_spared_63 : decode cX5_spared 63 = .ok (.ior, 1) := by decide +kernel
theorem dX5_spared_64 : decode cX5_spared 64 = .ok (.iastore, 1) := by decide +kernel
theorem dX5_spared_65 : decode cX5_spared 65 = .ok (.aload_n 0, 1) := by decide +kernel
theorem dX5_spared_66 : decode cX5_spared 66 = .ok (.aload_n 0, 1) := by decide +kernel
theorem dX5_spared_67 : decode cX5_spared 67 = .ok (.getfield 22, 3) := by decide +kernel
theorem dX5_spared_70 : decode cX5_spared 70 = .ok (.iload_n 1, 1) := by decide +kernel
theorem dX5_spared_71 : decode cX5_spared 71 = .ok (.invokevirtual 146, 3) := by decide +kernel
theorem dX5_spared_74 : decode cX5_spared 74 = .ok (.invokestatic 153, 3) := by decide +kernel
theorem dX5_spared_77 : decode cX5_spared 77 = .ok (.istore 5, 2) := by decide +kernel
theorem dX5_spared_79 : decode cX5_spared 79 = .ok (.iload 5, 2) := by decide +kernel
theorem dX5_spared_81 : decode cX5_spared 81 = .ok (.iload_n 3, 1) := by decide +kernel
theorem dX5_spared_82 : decode cX5_spared 82 = .ok (.if_icmp .ge 8, 3) := by decide +kernel
theorem dX5_spared_85 : decode cX5_spared 85 = .ok (.iload 4, 2) := by decide +kernel
theorem dX5_spared_87 : decode cX5_spared 87 = .ok (.goto 4, 3) := by decide +kernel
theorem dX5_spared_90 : decode cX5_spared 90 = .ok (.iload_n 2, 1) := by decide +kernel
theorem dX5_spared_91 : decode cX5_spared 91 = .ok (.istore_n 2, 1) := by decide +kernel
theorem dX5_spared_92 : decode cX5_spared 92 = .ok (.iload 5, 2) := by decide +kernel
theorem dX5_spared_94 : decode cX5_spared 94 = .ok (.iload_n 3, 1) := by decide +kernel
theorem dX5_spared_95 : decode cX5_spared 95 = .ok (.if_icmp .ge 8, 3) := by decide +kernel
theorem dX5_spared_98 : decode cX5_spared 98 = .ok (.iload 5, 2) := by decide +kernel
theorem dX5_spared_100 : decode cX5_spared 100 = .ok (.goto 4, 3) := by decide +kernel
theorem dX5_spared_103 : decode cX5_spared 103 = .ok (.iload_n 3, 1) := by decide +kernel
theorem dX5_spared_104 : decode cX5_spared 104 = .ok (.istore_n 3, 1) := by decide +kernel
theorem dX5_spared_105 : decode cX5_spared 105 = .ok (.iinc 4 1, 3) := by decide +kernel
theorem dX5_spared_108 : decode cX5_spared 108 = .ok (.goto (-83), 3) := by decide +kernel
theorem dX5_spared_111 : decode cX5_spared 111 = .ok (.iload_n 2, 1) := by decide +kernel
theorem dX5_spared_112 : decode cX5_spared 112 = .ok (.ireturn, 1) := by decide +kernel
theorem dX5_orders_0 : decode cX5_orders 0 = .ok (.iconst 1, 1) := by decide +kernel
theorem dX5_orders_1 : decode cX5_orders 1 = .ok (.istore_n 1, 1) := by decide +kernel
theorem dX5_orders_2 : decode cX5_orders 2 = .ok (.iconst 2, 1) := by decide +kernel
theorem dX5_orders_3 : decode cX5_orders 3 = .ok (.istore_n 2, 1) := by decide +kernel
theorem dX5_orders_4 : decode cX5_orders 4 = .ok (.iload_n 2, 1) := by decide +kernel
theorem dX5_orders_5 : decode cX5_orders 5 = .ok (.iload_n 0, 1) := by decide +kernel
theorem dX5_orders_6 : decode cX5_orders 6 = .ok (.if_icmp .gt 13, 3) := by decide +kernel
theorem dX5_orders_9 : decode cX5_orders 9 = .ok (.iload_n 1, 1) := by decide +kernel
theorem dX5_orders_10 : decode cX5_orders 10 = .ok (.iload_n 2, 1) := by decide +kernel
theorem dX5_orders_11 : decode cX5_orders 11 = .ok (.imul, 1) := by decide +kernel
theorem dX5_orders_12 : decode cX5_orders 12 = .ok (.istore_n 1, 1) := by decide +kernel
theorem dX5_orders_13 : decode cX5_orders 13 = .ok (.iinc 2 1, 3) := by decide +kernel
theorem dX5_orders_16 : decode cX5_orders 16 = .ok (.goto (-12), 3) := by decide +kernel
theorem dX5_orders_19 : decode cX5_orders 19 = .ok (.iload_n 1, 1) := by decide +kernel
theorem dX5_orders_20 : decode cX5_orders 20 = .ok (.ireturn, 1) := by decide +kernel
theorem dX5_divisor_0 : decode cX5_divisor 0 = .ok (.iload_n 0, 1) := by decide +kernel
theorem dX5_divisor_1 : decode cX5_divisor 1 = .ok (.ifCond .ge 8, 3) := by decide +kernel
theorem dX5_divisor_4 : decode cX5_divisor 4 = .ok (.iload_n 0, 1) := by decide +kernel
theorem dX5_divisor_5 : decode cX5_divisor 5 = .ok (.ineg, 1) := by decide +kernel
theorem dX5_divisor_6 : decode cX5_divisor 6 = .ok (.goto 4, 3) := by decide +kernel
theorem dX5_divisor_9 : decode cX5_divisor 9 = .ok (.iload_n 0, 1) := by decide +kernel
theorem dX5_divisor_10 : decode cX5_divisor 10 = .ok (.istore_n 2, 1) := by decide +kernel
theorem dX5_divisor_11 : decode cX5_divisor 11 = .ok (.iload_n 1, 1) := by decide +kernel
theorem dX5_divisor_12 : decode cX5_divisor 12 = .ok (.istore_n 3, 1) := by decide +kernel
theorem dX5_divisor_13 : decode cX5_divisor 13 = .ok (.iload_n 3, 1) := by decide +kernel
theorem dX5_divisor_14 : decode cX5_divisor 14 = .ok (.ifCond .eq 16, 3) := by decide +kernel
theorem dX5_divisor_17 : decode cX5_divisor 17 = .ok (.iload_n 2, 1) := by decide +kernel
theorem dX5_divisor_18 : decode cX5_divisor 18 = .ok (.iload_n 3, 1) := by decide +kernel
theorem dX5_divisor_19 : decode cX5_divisor 19 = .ok (.irem, 1) := by decide +kernel
theorem dX5_divisor_20 : decode cX5_divisor 20 = .ok (.istore 4, 2) := by decide +kernel
theorem dX5_divisor_22 : decode cX5_divisor 22 = .ok (.iload_n 3, 1) := by decide +kernel
theorem dX5_divisor_23 : decode cX5_divisor 23 = .ok (.istore_n 2, 1) := by decide +kernel
theorem dX5_divisor_24 : decode cX5_divisor 24 = .ok (.iload 4, 2) := by decide +kernel
theorem dX5_divisor_26 : decode cX5_divisor 26 = .ok (.istore_n 3, 1) := by decide +kernel
theorem dX5_divisor_27 : decode cX5_divisor 27 = .ok (.goto (-14), 3) := by decide +kernel
theorem dX5_divisor_30 : decode cX5_divisor 30 = .ok (.iload_n 2, 1) := by decide +kernel
theorem dX5_divisor_31 : decode cX5_divisor 31 = .ok (.ireturn, 1) := by decide +kernel
theorem dX5_fraction_0 : decode cX5_fraction 0 = .ok (.iload_n 0, 1) := by decide +kernel
theorem dX5_fraction_1 : decode cX5_fraction 1 = .ok (.iload_n 1, 1) := by decide +kernel
theorem dX5_fraction_2 : decode cX5_fraction 2 = .ok (.invokestatic 157, 3) := by decide +kernel
theorem dX5_fraction_5 : decode cX5_fraction 5 = .ok (.istore_n 3, 1) := by decide +kernel
theorem dX5_fraction_6 : decode cX5_fraction 6 = .ok (.iload_n 2, 1) := by decide +kernel
theorem dX5_fraction_7 : decode cX5_fraction 7 = .ok (.ifCond .eq 9, 3) := by decide +kernel
theorem dX5_fraction_10 : decode cX5_fraction 10 = .ok (.iload_n 0, 1) := by decide +kernel
theorem dX5_fraction_11 : decode cX5_fraction 11 = .ok (.iload_n 3, 1) := by decide +kernel
theorem dX5_fraction_12 : decode cX5_fraction 12 = .ok (.idiv, 1) := by decide +kernel
theorem dX5_fraction_13 : decode cX5_fraction 13 = .ok (.goto 6, 3) := by decide +kernel
theorem dX5_fraction_16 : decode cX5_fraction 16 = .ok (.iload_n 1, 1) := by decide +kernel
theorem dX5_fraction_17 : decode cX5_fraction 17 = .ok (.iload_n 3, 1) := by decide +kernel
theorem dX5_fraction_18 : decode cX5_fraction 18 = .ok (.idiv, 1) := by decide +kernel
theorem dX5_fraction_19 : decode cX5_fraction 19 = .ok (.ireturn, 1) := by decide +kernel
theorem dX5_worth_0 : decode cX5_worth 0 = .ok (.aload_n 0, 1) := by decide +kernel
theorem dX5_worth_1 : decode cX5_worth 1 = .ok (.iconst 0, 1) := by decide +kernel
theorem dX5_worth_2 : decode cX5_worth 2 = .ok (.putfield 56, 3) := by decide +kernel
theorem dX5_worth_5 : decode cX5_worth 5 = .ok (.aload_n 0, 1) := by decide +kernel
theorem dX5_worth_6 : decode cX5_worth 6 = .ok (.iload_n 1, 1) := by decide +kernel
theorem dX5_worth_7 : decode cX5_worth 7 = .ok (.invokevirtual 129, 3) := by decide +kernel
theorem dX5_worth_10 : decode cX5_worth 10 = .ok (.ifCond .eq 5, 3) := by decide +kernel
theorem dX5_worth_13 : decode cX5_worth 13 = .ok (.iconst (-1), 1) := by decide +kernel
theorem dX5_worth_14 : decode cX5_worth 14 = .ok (.ireturn, 1) := by decide +kernel
theorem dX5_worth_15 : decode cX5_worth 15 = .ok (.iload_n 2, 1) := by decide +kernel
theorem dX5_worth_16 : decode cX5_worth 16 = .ok (.invokestatic 143, 3) := by decide +kernel
theorem dX5_worth_19 : decode cX5_worth 19 = .ok (.ifCond .eq 6, 3) := by decide +kernel
theorem dX5_worth_22 : decode cX5_worth 22 = .ok (.bipush (-2), 2) := by decide +kernel
theorem dX5_worth_24 : decode cX5_worth 24 = .ok (.ireturn, 1) := by decide +kernel
theorem dX5_worth_25 : decode cX5_worth 25 = .ok (.iconst 1, 1) := by decide +kernel
theorem dX5_worth_26 : decode cX5_worth 26 = .ok (.aload_n 0, 1) := by decide +kernel
theorem dX5_worth_27 : decode cX5_worth 27 = .ok (.getfield 60, 3) := by decide +kernel
theorem dX5_worth_30 : decode cX5_worth 30 = .ok (.ishl, 1) := by decide +kernel
theorem dX5_worth_31 : decode cX5_worth 31 = .ok (.iconst 1, 1) := by decide +kernel
theorem dX5_worth_32 : decode cX5_worth 32 = .ok (.isub, 1) := by decide +kernel
theorem dX5_worth_33 : decode cX5_worth 33 = .ok (.istore 4, 2) := by decide +kernel
theorem dX5_worth_35 : decode cX5_worth 35 = .ok (.iload 4, 2) := by decide +kernel
theorem dX5_worth_37 : decode cX5_worth 37 = .ok (.aload_n 0, 1) := by decide +kernel
theorem dX5_worth_38 : decode cX5_worth 38 = .ok (.getfield 19, 3) := by decide +kernel
theorem dX5_worth_41 : decode cX5_worth 41 = .ok (.iconst 2, 1) := by decide +kernel
theorem dX5_worth_42 : decode cX5_worth 42 = .ok (.iaload, 1) := by decide +kernel
theorem dX5_worth_43 : decode cX5_worth 43 = .ok (.iconst (-1), 1) := by decide +kernel
theorem dX5_worth_44 : decode cX5_worth 44 = .ok (.ixor, 1) := by decide +kernel
theorem dX5_worth_45 : decode cX5_worth 45 = .ok (.iand, 1) := by decide +kernel
theorem dX5_worth_46 : decode cX5_worth 46 = .ok (.istore 5, 2) := by decide +kernel
theorem dX5_worth_48 : decode cX5_worth 48 = .ok (.iload 5, 2) := by decide +kernel
theorem dX5_worth_50 : decode cX5_worth 50 = .ok (.invokestatic 153, 3) := by decide +kernel
theorem dX5_worth_53 : decode cX5_worth 53 = .ok (.istore 6, 2) := by decide +kernel
theorem dX5_worth_55 : decode cX5_worth 55 = .ok (.iconst 0, 1) := by decide +kernel
theorem dX5_worth_56 : decode cX5_worth 56 = .ok (.istore 7, 2) := by decide +kernel
theorem dX5_worth_58 : decode cX5_worth 58 = .ok (.iload 7, 2) := by decide +kernel
theorem dX5_worth_60 : decode cX5_worth 60 = .ok (.iload 4, 2) := by decide +kernel
theorem dX5_worth_62 : decode cX5_worth 62 = .ok (.if_icmp .gt 59, 3) := by decide +kernel
theorem dX5_worth_65 : decode cX5_worth 65 = .ok (.aload_n 0, 1) := by decide +kernel
theorem dX5_worth_66 : decode cX5_worth 66 = .ok (.invokevirtual 150, 3) := by decide +kernel
theorem dX5_worth_69 : decode cX5_worth 69 = .ok (.aload_n 0, 1) := by decide +kernel
theorem dX5_worth_70 : decode cX5_worth 70 = .ok (.getfield 22, 3) := by decide +kernel
theorem dX5_worth_73 : decode cX5_worth 73 = .ok (.iconst 2, 1) := by decide +kernel
theorem dX5_worth_74 : decode cX5_worth 74 = .ok (.iload 4, 2) := by decide +kernel
theorem dX5_worth_76 : decode cX5_worth 76 = .ok (.iload 7, 2) := by decide +kernel
theorem dX5_worth_78 : decode cX5_worth 78 = .ok (.iconst (-1), 1) := by decide +kernel
theorem dX5_worth_79 : decode cX5_worth 79 = .ok (.ixor, 1) := by decide +kernel
theorem dX5_worth_80 : decode cX5_worth 80 = .ok (.iand, 1) := by decide +kernel
theorem dX5_worth_81 : decode cX5_worth 81 = .ok (.iastore, 1) := by decide +kernel
theorem dX5_worth_82 : decode cX5_worth 82 = .ok (.aload_n 0, 1) := by decide +kernel
theorem dX5_worth_83 : decode cX5_worth 83 = .ok (.getfield 50, 3) := by decide +kernel
theorem dX5_worth_86 : decode cX5_worth 86 = .ok (.iload 7, 2) := by decide +kernel
theorem dX5_worth_88 : decode cX5_worth 88 = .ok (.iload 7, 2) := by decide +kernel
theorem dX5_worth_90 : decode cX5_worth 90 = .ok (.iload 5, 2) := by decide +kernel
theorem dX5_worth_92 : decode cX5_worth 92 = .ok (.iconst (-1), 1) := by decide +kernel
theorem dX5_worth_93 : decode cX5_worth 93 = .ok (.ixor, 1) := by decide +kernel
theorem dX5_worth_94 : decode cX5_worth 94 = .ok (.iand, 1) := by decide +kernel
theorem dX5_worth_95 : decode cX5_worth 95 = .ok (.ifCond .ne 18, 3) := by decide +kernel
theorem dX5_worth_98 : decode cX5_worth 98 = .ok (.aload_n 0, 1) := by decide +kernel
theorem dX5_worth_99 : decode cX5_worth 99 = .ok (.aload_n 0, 1) := by decide +kernel
theorem dX5_worth_100 : decode cX5_worth 100 = .ok (.getfield 22, 3) := by decide +kernel
theorem dX5_worth_103 : decode cX5_worth 103 = .ok (.iload_n 2, 1) := by decide +kernel
theorem dX5_worth_104 : decode cX5_worth 104 = .ok (.invokevirtual 146, 3) := by decide +kernel
theorem dX5_worth_107 : decode cX5_worth 107 = .ok (.invokestatic 153, 3) := by decide +kernel
theorem dX5_worth_110 : decode cX5_worth 110 = .ok (.goto 4, 3) := by decide +kernel
theorem dX5_worth_113 : decode cX5_worth 113 = .ok (.iconst 0, 1) := by decide +kernel
theorem dX5_worth_114 : decode cX5_worth 114 = .ok (.iastore, 1) := by decide +kernel
theorem dX5_worth_115 : decode cX5_worth 115 = .ok (.iinc 7 1, 3) := by decide +kernel
theorem dX5_worth_118 : decode cX5_worth 118 = .ok (.goto (-60), 3) := by decide +kernel
theorem dX5_worth_121 : decode cX5_worth 121 = .ok (.iconst 0, 1) := by decide +kernel
theorem dX5_worth_122 : decode cX5_worth 122 = .ok (.istore 7, 2) := by decide +kernel
theorem dX5_worth_124 : decode cX5_worth 124 = .ok (.iconst 0, 1) := by decide +kernel
theorem dX5_worth_125 : decode cX5_worth 125 = .ok (.istore 8, 2) := by decide +kernel
theorem dX5_worth_127 : decode cX5_worth 127 = .ok (.iload 8, 2) := by decide +kernel
theorem dX5_worth_129 : decode cX5_worth 129 = .ok (.iload 4, 2) := by decide +kernel
theorem dX5_worth_131 : decode cX5_worth 131 = .ok (.if_icmp .gt 85, 3) := by decide +kernel
theorem dX5_worth_134 : decode cX5_worth 134 = .ok (.iload 5, 2) := by decide +kernel
theorem dX5_worth_136 : decode cX5_worth 136 = .ok (.iload_n 1, 1) := by decide +kernel
theorem dX5_worth_137 : decode cX5_worth 137 = .ok (.invokestatic 110, 3) := by decide +kernel
theorem dX5_worth_140 : decode cX5_worth 140 = .ok (.ifCond .eq 76, 3) := by decide +kernel
theorem dX5_worth_143 : decode cX5_worth 143 = .ok (.iload 8, 2) := by decide +kernel
theorem dX5_worth_145 : decode cX5_worth 145 = .ok (.iload 5, 2) := by decide +kernel
theorem dX5_worth_147 : decode cX5_worth 147 = .ok (.iconst (-1), 1) := by decide +kernel
theorem dX5_worth_148 : decode cX5_worth 148 = .ok (.ixor, 1) := by decide +kernel
theorem dX5_worth_149 : decode cX5_worth 149 = .ok (.iand, 1) := by decide +kernel
theorem dX5_worth_150 : decode cX5_worth 150 = .ok (.ifCond .ne 60, 3) := by decide +kernel
theorem dX5_worth_153 : decode cX5_worth 153 = .ok (.iload 8, 2) := by decide +kernel
theorem dX5_worth_155 : decode cX5_worth 155 = .ok (.iload_n 1, 1) := by decide +kernel
theorem dX5_worth_156 : decode cX5_worth 156 = .ok (.invokestatic 110, 3) := by decide +kernel
theorem dX5_worth_159 : decode cX5_worth 159 = .ok (.ifCond .ne 51, 3) := by decide +kernel
theorem dX5_worth_162 : decode cX5_worth 162 = .ok (.iload 8, 2) := by decide +kernel
theorem dX5_worth_164 : decode cX5_worth 164 = .ok (.invokestatic 153, 3) := by decide +kernel
theorem dX5_worth_167 : decode cX5_worth 167 = .ok (.istore 9, 2) := by decide +kernel
theorem dX5_worth_169 : decode cX5_worth 169 = .ok (.iload 7, 2) := by decide +kernel
theorem dX5_worth_171 : decode cX5_worth 171 = .ok (.iload 9, 2) := by decide +kernel
theorem dX5_worth_173 : decode cX5_worth 173 = .ok (.invokestatic 160, 3) := by decide +kernel
theorem dX5_worth_176 : decode cX5_worth 176 = .ok (.iload 6, 2) := by decide +kernel
theorem dX5_worth_178 : decode cX5_worth 178 = .ok (.iconst 1, 1) := by decide +kernel
theorem dX5_worth_179 : decode cX5_worth 179 = .ok (.isub, 1) := by decide +kernel
theorem dX5_worth_180 : decode cX5_worth 180 = .ok (.iload 9, 2) := by decide +kernel
theorem dX5_worth_182 : decode cX5_worth 182 = .ok (.isub, 1) := by decide +kernel
theorem dX5_worth_183 : decode cX5_worth 183 = .ok (.invokestatic 160, 3) := by decide +kernel
theorem dX5_worth_186 : decode cX5_worth 186 = .ok (.imul, 1) := by decide +kernel
theorem dX5_worth_187 : decode cX5_worth 187 = .ok (.aload_n 0, 1) := by decide +kernel
theorem dX5_worth_188 : decode cX5_worth 188 = .ok (.getfield 50, 3) := by decide +kernel
theorem dX5_worth_191 : decode cX5_worth 191 = .ok (.iload 8, 2) := by decide +kernel
theorem dX5_worth_193 : decode cX5_worth 193 = .ok (.iconst 1, 1) := by decide +kernel
theorem dX5_worth_194 : decode cX5_worth 194 = .ok (.iload_n 1, 1) := by decide +kernel
theorem dX5_worth_195 : decode cX5_worth 195 = .ok (.ishl, 1) := by decide +kernel
theorem dX5_worth_196 : decode cX5_worth 196 = .ok (.ior, 1) := by decide +kernel
theorem dX5_worth_197 : decode cX5_worth 197 = .ok (.iaload, 1) := by decide +kernel
theorem dX5_worth_198 : decode cX5_worth 198 = .ok (.aload_n 0, 1) := by decide +kernel
theorem dX5_worth_199 : decode cX5_worth 199 = .ok (.getfield 50, 3) := by decide +kernel
theorem dX5_worth_202 : decode cX5_worth 202 = .ok (.iload 8, 2) := by decide +kernel
theorem dX5_worth_204 : decode cX5_worth 204 = .ok (.iaload, 1) := by decide +kernel
theorem dX5_worth_205 : decode cX5_worth 205 = .ok (.isub, 1) := by decide +kernel
theorem dX5_worth_206 : decode cX5_worth 206 = .ok (.imul, 1) := by decide +kernel
theorem dX5_worth_207 : decode cX5_worth 207 = .ok (.iadd, 1) := by decide +kernel
theorem dX5_worth_208 : decode cX5_worth 208 = .ok (.istore 7, 2) := by decide +kernel
theorem dX5_worth_210 : decode cX5_worth 210 = .ok (.iinc 8 1, 3) := by decide +kernel
theorem dX5_worth_213 : decode cX5_worth 213 = .ok (.goto (-86), 3) := by decide +kernel
theorem dX5_worth_216 : decode cX5_worth 216 = .ok (.iload 7, 2) := by decide +kernel
theorem dX5_worth_218 : decode cX5_worth 218 = .ok (.iload 6, 2) := by decide +kernel
theorem dX5_worth_220 : decode cX5_worth 220 = .ok (.invokestatic 160, 3) := by decide +kernel
theorem dX5_worth_223 : decode cX5_worth 223 = .ok (.iload_n 3, 1) := by decide +kernel
theorem dX5_worth_224 : decode cX5_worth 224 = .ok (.invokestatic 163, 3) := by decide +kernel
theorem dX5_worth_227 : decode cX5_worth 227 = .ok (.ireturn, 1) := by decide +kernel
theorem dX5_sureWith_0 : decode cX5_sureWith 0 = .ok (.aload_n 0, 1) := by decide +kernel
theorem dX5_sureWith_1 : decode cX5_sureWith 1 = .ok (.invokevirtual 150, 3) := by decide +kernel
theorem dX5_sureWith_4 : decode cX5_sureWith 4 = .ok (.aload_n 0, 1) := by decide +kernel
theorem dX5_sureWith_5 : decode cX5_sureWith 5 = .ok (.getfield 22, 3) := by decide +kernel
theorem dX5_sureWith_8 : decode cX5_sureWith 8 = .ok (.iconst 4, 1) := by decide +kernel
theorem dX5_sureWith_9 : decode cX5_sureWith 9 = .ok (.iload_n 1, 1) := by decide +kernel
theorem dX5_sureWith_10 : decode cX5_sureWith 10 = .ok (.iastore, 1) := by decide +kernel
theorem dX5_sureWith_11 : decode cX5_sureWith 11 = .ok (.aload_n 0, 1) := by decide +kernel
theorem dX5_sureWith_12 : decode cX5_sureWith 12 = .ok (.getfield 22, 3) := by decide +kernel
theorem dX5_sureWith_15 : decode cX5_sureWith 15 = .ok (.iconst 5, 1) := by decide +kernel
theorem dX5_sureWith_16 : decode cX5_sureWith 16 = .ok (.iload_n 2, 1) := by decide +kernel
theorem dX5_sureWith_17 : decode cX5_sureWith 17 = .ok (.iastore, 1) := by decide +kernel
theorem dX5_sureWith_18 : decode cX5_sureWith 18 = .ok (.aload_n 0, 1) := by decide +kernel
theorem dX5_sureWith_19 : decode cX5_sureWith 19 = .ok (.aload_n 0, 1) := by decide +kernel
theorem dX5_sureWith_20 : decode cX5_sureWith 20 = .ok (.getfield 22, 3) := by decide +kernel
theorem dX5_sureWith_23 : decode cX5_sureWith 23 = .ok (.iload_n 3, 1) := by decide +kernel
theorem dX5_sureWith_24 : decode cX5_sureWith 24 = .ok (.invokevirtual 146, 3) := by decide +kernel
theorem dX5_sureWith_27 : decode cX5_sureWith 27 = .ok (.invokestatic 153, 3) := by decide +kernel
theorem dX5_sureWith_30 : decode cX5_sureWith 30 = .ok (.ireturn, 1) := by decide +kernel
theorem dX5_findHammers_0 : decode cX5_findHammers 0 = .ok (.aload_n 0, 1) := by decide +kernel
theorem dX5_findHammers_1 : decode cX5_findHammers 1 = .ok (.bipush (-9), 2) := by decide +kernel
theorem dX5_findHammers_3 : decode cX5_findHammers 3 = .ok (.putfield 167, 3) := by decide +kernel
theorem dX5_findHammers_6 : decode cX5_findHammers 6 = .ok (.aload_n 0, 1) := by decide +kernel
theorem dX5_findHammers_7 : decode cX5_findHammers 7 = .ok (.bipush (-9), 2) := by decide +kernel
theorem dX5_findHammers_9 : decode cX5_findHammers 9 = .ok (.putfield 170, 3) := by decide +kernel
theorem dX5_findHammers_12 : decode cX5_findHammers 12 = .ok (.aload_n 0, 1) := by decide +kernel
theorem dX5_findHammers_13 : decode cX5_findHammers 13 = .ok (.bipush (-9), 2) := by decide +kernel
theorem dX5_findHammers_15 : decode cX5_findHammers 15 = .ok (.bipush (-9), 2) := by decide +kernel
theorem dX5_findHammers_17 : decode cX5_findHammers 17 = .ok (.iload_n 1, 1) := by decide +kernel
theorem dX5_findHammers_18 : decode cX5_findHammers 18 = .ok (.invokevirtual 173, 3) := by decide +kernel
theorem dX5_findHammers_21 : decode cX5_findHammers 21 = .ok (.iload_n 2, 1) := by decide +kernel
theorem dX5_findHammers_22 : decode cX5_findHammers 22 = .ok (.if_icmp .lt 13, 3) := by decide +kernel
theorem dX5_findHammers_25 : decode cX5_findHammers 25 = .ok (.aload_n 0, 1) := by decide +kernel
theorem dX5_findHammers_26 : decode cX5_findHammers 26 = .ok (.iconst 0, 1) := by decide +kernel
theorem dX5_findHammers_27 : decode cX5_findHammers 27 = .ok (.putfield 167, 3) := by decide +kernel
theorem dX5_findHammers_30 : decode cX5_findHammers 30 = .ok (.aload_n 0, 1) := by decide +kernel
theorem dX5_findHammers_31 : decode cX5_findHammers 31 = .ok (.iconst 0, 1) := by decide +kernel
theorem dX5_findHammers_32 : decode cX5_findHammers 32 = .ok (.putfield 170, 3) := by decide +kernel
theorem dX5_findHammers_35 : decode cX5_findHammers 35 = .ok (.iconst 0, 1) := by decide +kernel
theorem dX5_findHammers_36 : decode cX5_findHammers 36 = .ok (.istore_n 3, 1) := by decide +kernel
theorem dX5_findHammers_37 : decode cX5_findHammers 37 = .ok (.iload_n 3, 1) := by decide +kernel
theorem dX5_findHammers_38 : decode cX5_findHammers 38 = .ok (.bipush 10, 2) := by decide +kernel
theorem dX5_findHammers_40 : decode cX5_findHammers 40 = .ok (.if_icmp .ge 40, 3) := by decide +kernel
theorem dX5_findHammers_43 : decode cX5_findHammers 43 = .ok (.aload_n 0, 1) := by decide +kernel
theorem dX5_findHammers_44 : decode cX5_findHammers 44 = .ok (.getfield 167, 3) := by decide +kernel
theorem dX5_findHammers_47 : decode cX5_findHammers 47 = .ok (.bipush (-9), 2) := by decide +kernel
theorem dX5_findHammers_49 : decode cX5_findHammers 49 = .ok (.if_icmp .ne 31, 3) := by decide +kernel
theorem dX5_findHammers_52 : decode cX5_findHammers 52 = .ok (.aload_n 0, 1) := by decide +kernel
theorem dX5_findHammers_53 : decode cX5_findHammers 53 = .ok (.iload_n 3, 1) := by decide +kernel
theorem dX5_findHammers_54 : decode cX5_findHammers 54 = .ok (.bipush (-9), 2) := by decide +kernel
theorem dX5_findHammers_56 : decode cX5_findHammers 56 = .ok (.iload_n 1, 1) := by decide +kernel
theorem dX5_findHammers_57 : decode cX5_findHammers 57 = .ok (.invokevirtual 173, 3) := by decide +kernel
theorem dX5_findHammers_60 : decode cX5_findHammers 60 = .ok (.iload_n 2, 1) := by decide +kernel
theorem dX5_findHammers_61 : decode cX5_findHammers 61 = .ok (.if_icmp .lt 13, 3) := by decide +kernel
theorem dX5_findHammers_64 : decode cX5_findHammers 64 = .ok (.aload_n 0, 1) := by decide +kernel
theorem dX5_findHammers_65 : decode cX5_findHammers 65 = .ok (.iconst 1, 1) := by decide +kernel
theorem dX5_findHammers_66 : decode cX5_findHammers 66 = .ok (.putfield 167, 3) := by decide +kernel
theorem dX5_findHammers_69 : decode cX5_findHammers 69 = .ok (.aload_n 0, 1) := by decide +kernel
theorem dX5_findHammers_70 : decode cX5_findHammers 70 = .ok (.iload_n 3, 1) := by decide +kernel
theorem dX5_findHammers_71 : decode cX5_findHammers 71 = .ok (.putfield 170, 3) := by decide +kernel
theorem dX5_findHammers_74 : decode cX5_findHammers 74 = .ok (.iinc 3 1, 3) := by decide +kernel
theorem dX5_findHammers_77 : decode cX5_findHammers 77 = .ok (.goto (-40), 3) := by decide +kernel
theorem dX5_findHammers_80 : decode cX5_findHammers 80 = .ok (.iconst 0, 1) := by decide +kernel
theorem dX5_findHammers_81 : decode cX5_findHammers 81 = .ok (.istore_n 3, 1) := by decide +kernel
theorem dX5_findHammers_82 : decode cX5_findHammers 82 = .ok (.iload_n 3, 1) := by decide +kernel
theorem dX5_findHammers_83 : decode cX5_findHammers 83 = .ok (.bipush 100, 2) := by decide +kernel
theorem dX5_findHammers_85 : decode cX5_findHammers 85 = .ok (.if_icmp .ge 56, 3) := by decide +kernel
theorem dX5_findHammers_88 : decode cX5_findHammers 88 = .ok (.aload_n 0, 1) := by decide +kernel
theorem dX5_findHammers_89 : decode cX5_findHammers 89 = .ok (.getfield 167, 3) := by decide +kernel
theorem dX5_findHammers_92 : decode cX5_findHammers 92 = .ok (.bipush (-9), 2) := by decide +kernel
theorem dX5_findHammers_94 : decode cX5_findHammers 94 = .ok (.if_icmp .ne 47, 3) := by decide +kernel
theorem dX5_findHammers_97 : decode cX5_findHammers 97 = .ok (.iload_n 3, 1) := by decide +kernel
theorem dX5_findHammers_98 : decode cX5_findHammers 98 = .ok (.bipush 10, 2) := by decide +kernel
theorem dX5_findHammers_100 : decode cX5_findHammers 100 = .ok (.idiv, 1) := by decide +kernel
theorem dX5_findHammers_101 : decode cX5_findHammers 101 = .ok (.iload_n 3, 1) := by decide +kernel
theorem dX5_findHammers_102 : decode cX5_findHammers 102 = .ok (.bipush 10, 2) := by decide +kernel
theorem dX5_findHammers_104 : decode cX5_findHammers 104 = .ok (.irem, 1) := by decide +kernel
theorem dX5_findHammers_105 : decode cX5_findHammers 105 = .ok (.if_icmp .ge 30, 3) := by decide +kernel
theorem dX5_findHammers_108 : decode cX5_findHammers 108 = .ok (.aload_n 0, 1) := by decide +kernel
theorem dX5_findHammers_109 : decode cX5_findHammers 109 = .ok (.iload_n 3, 1) := by decide +kernel
theorem dX5_findHammers_110 : decode cX5_findHammers 110 = .ok (.bipush 10, 2) := by decide +kernel
theorem dX5_findHammers_112 : decode cX5_findHammers 112 = .ok (.idiv, 1) := by decide +kernel
theorem dX5_findHammers_113 : decode cX5_findHammers 113 = .ok (.iload_n 3, 1) := by decide +kernel
theorem dX5_findHammers_114 : decode cX5_findHammers 114 = .ok (.bipush 10, 2) := by decide +kernel
theorem dX5_findHammers_116 : decode cX5_findHammers 116 = .ok (.irem, 1) := by decide +kernel
theorem dX5_findHammers_117 : decode cX5_findHammers 117 = .ok (.iload_n 1, 1) := by decide +kernel
theorem dX5_findHammers_118 : decode cX5_findHammers 118 = .ok (.invokevirtual 173, 3) := by decide +kernel
theorem dX5_findHammers_121 : decode cX5_findHammers 121 = .ok (.iload_n 2, 1) := by decide +kernel
theorem dX5_findHammers_122 : decode cX5_findHammers 122 = .ok (.if_icmp .lt 13, 3) := by decide +kernel
theorem dX5_findHammers_125 : decode cX5_findHammers 125 = .ok (.aload_n 0, 1) := by decide +kernel
theorem dX5_findHammers_126 : decode cX5_findHammers 126 = .ok (.iconst 2, 1) := by decide +kernel
theorem dX5_findHammers_127 : decode cX5_findHammers 127 = .ok (.putfield 167, 3) := by decide +kernel
theorem dX5_findHammers_130 : decode cX5_findHammers 130 = .ok (.aload_n 0, 1) := by decide +kernel
theorem dX5_findHammers_131 : decode cX5_findHammers 131 = .ok (.iload_n 3, 1) := by decide +kernel
theorem dX5_findHammers_132 : decode cX5_findHammers 132 = .ok (.putfield 170, 3) := by decide +kernel
theorem dX5_findHammers_135 : decode cX5_findHammers 135 = .ok (.iinc 3 1, 3) := by decide +kernel
theorem dX5_findHammers_138 : decode cX5_findHammers 138 = .ok (.goto (-56), 3) := by decide +kernel
theorem dX5_findHammers_141 : decode cX5_findHammers 141 = .ok (.return_, 1) := by decide +kernel
theorem dX5_hammers_0 : decode cX5_hammers 0 = .ok (.aload_n 0, 1) := by decide +kernel
theorem dX5_hammers_1 : decode cX5_hammers 1 = .ok (.iconst 0, 1) := by decide +kernel
theorem dX5_hammers_2 : decode cX5_hammers 2 = .ok (.putfield 56, 3) := by decide +kernel
theorem dX5_hammers_5 : decode cX5_hammers 5 = .ok (.iload_n 1, 1) := by decide +kernel
theorem dX5_hammers_6 : decode cX5_hammers 6 = .ok (.invokestatic 143, 3) := by decide +kernel
theorem dX5_hammers_9 : decode cX5_hammers 9 = .ok (.ifCond .ne 25, 3) := by decide +kernel
theorem dX5_hammers_12 : decode cX5_hammers 12 = .ok (.iload_n 2, 1) := by decide +kernel
theorem dX5_hammers_13 : decode cX5_hammers 13 = .ok (.i2l, 1) := by decide +kernel
theorem dX5_hammers_14 : decode cX5_hammers 14 = .ok (.lconst 1, 1) := by decide +kernel
theorem dX5_hammers_15 : decode cX5_hammers 15 = .ok (.ldc2_w 177, 3) := by decide +kernel
theorem dX5_hammers_18 : decode cX5_hammers 18 = .ok (.invokestatic 63, 3) := by decide +kernel
theorem dX5_hammers_21 : decode cX5_hammers 21 = .ok (.ifCond .eq 13, 3) := by decide +kernel
theorem dX5_hammers_24 : decode cX5_hammers 24 = .ok (.iload_n 3, 1) := by decide +kernel
theorem dX5_hammers_25 : decode cX5_hammers 25 = .ok (.i2l, 1) := by decide +kernel
theorem dX5_hammers_26 : decode cX5_hammers 26 = .ok (.lconst 0, 1) := by decide +kernel
theorem dX5_hammers_27 : decode cX5_hammers 27 = .ok (.lconst 1, 1) := by decide +kernel
theorem dX5_hammers_28 : decode cX5_hammers 28 = .ok (.invokestatic 63, 3) := by decide +kernel
theorem dX5_hammers_31 : decode cX5_hammers 31 = .ok (.ifCond .ne 6, 3) := by decide +kernel
theorem dX5_hammers_34 : decode cX5_hammers 34 = .ok (.bipush (-2), 2) := by decide +kernel
theorem dX5_hammers_36 : decode cX5_hammers 36 = .ok (.ireturn, 1) := by decide +kernel
theorem dX5_hammers_37 : decode cX5_hammers 37 = .ok (.aload_n 0, 1) := by decide +kernel
theorem dX5_hammers_38 : decode cX5_hammers 38 = .ok (.iload_n 1, 1) := by decide +kernel
theorem dX5_hammers_39 : decode cX5_hammers 39 = .ok (.iload_n 2, 1) := by decide +kernel
theorem dX5_hammers_40 : decode cX5_hammers 40 = .ok (.invokevirtual 179, 3) := by decide +kernel
theorem dX5_hammers_43 : decode cX5_hammers 43 = .ok (.iload_n 3, 1) := by decide +kernel
theorem dX5_hammers_44 : decode cX5_hammers 44 = .ok (.ifCond .ne 10, 3) := by decide +kernel
theorem dX5_hammers_47 : decode cX5_hammers 47 = .ok (.aload_n 0, 1) := by decide +kernel
theorem dX5_hammers_48 : decode cX5_hammers 48 = .ok (.getfield 167, 3) := by decide +kernel
theorem dX5_hammers_51 : decode cX5_hammers 51 = .ok (.goto 7, 3) := by decide +kernel
theorem dX5_hammers_54 : decode cX5_hammers 54 = .ok (.aload_n 0, 1) := by decide +kernel
theorem dX5_hammers_55 : decode cX5_hammers 55 = .ok (.getfield 170, 3) := by decide +kernel
theorem dX5_hammers_58 : decode cX5_hammers 58 = .ok (.ireturn, 1) := by decide +kernel
theorem dX5_bestHours_0 : decode cX5_bestHours 0 = .ok (.aload_n 0, 1) := by decide +kernel
theorem dX5_bestHours_1 : decode cX5_bestHours 1 = .ok (.iconst 0, 1) := by decide +kernel
theorem dX5_bestHours_2 : decode cX5_bestHours 2 = .ok (.putfield 56, 3) := by decide +kernel
theorem dX5_bestHours_5 : decode cX5_bestHours 5 = .ok (.iload_n 1, 1) := by decide +kernel
theorem dX5_bestHours_6 : decode cX5_bestHours 6 = .ok (.i2l, 1) := by decide +kernel
theorem dX5_bestHours_7 : decode cX5_bestHours 7 = .ok (.lconst 1, 1) := by decide +kernel
theorem dX5_bestHours_8 : decode cX5_bestHours 8 = .ok (.ldc2_w 177, 3) := by decide +kernel
theorem dX5_bestHours_11 : decode cX5_bestHours 11 = .ok (.invokestatic 63, 3) := by decide +kernel
theorem dX5_bestHours_14 : decode cX5_bestHours 14 = .ok (.ifCond .eq 13, 3) := by decide +kernel
theorem dX5_bestHours_17 : decode cX5_bestHours 17 = .ok (.iload_n 2, 1) := by decide +kernel
theorem dX5_bestHours_18 : decode cX5_bestHours 18 = .ok (.i2l, 1) := by decide +kernel
theorem dX5_bestHours_19 : decode cX5_bestHours 19 = .ok (.lconst 0, 1) := by decide +kernel
theorem dX5_bestHours_20 : decode cX5_bestHours 20 = .ok (.lconst 1, 1) := by decide +kernel
theorem dX5_bestHours_21 : decode cX5_bestHours 21 = .ok (.invokestatic 63, 3) := by decide +kernel
theorem dX5_bestHours_24 : decode cX5_bestHours 24 = .ok (.ifCond .ne 6, 3) := by decide +kernel
theorem dX5_bestHours_27 : decode cX5_bestHours 27 = .ok (.bipush (-2), 2) := by decide +kernel
theorem dX5_bestHours_29 : decode cX5_bestHours 29 = .ok (.ireturn, 1) := by decide +kernel
theorem dX5_bestHours_30 : decode cX5_bestHours 30 = .ok (.aload_n 0, 1) := by decide +kernel
theorem dX5_bestHours_31 : decode cX5_bestHours 31 = .ok (.bipush (-9), 2) := by decide +kernel
theorem dX5_bestHours_33 : decode cX5_bestHours 33 = .ok (.putfield 183, 3) := by decide +kernel
theorem dX5_bestHours_36 : decode cX5_bestHours 36 = .ok (.aload_n 0, 1) := by decide +kernel
theorem dX5_bestHours_37 : decode cX5_bestHours 37 = .ok (.bipush (-9), 2) := by decide +kernel
theorem dX5_bestHours_39 : decode cX5_bestHours 39 = .ok (.putfield 186, 3) := by decide +kernel
theorem dX5_bestHours_42 : decode cX5_bestHours 42 = .ok (.iconst 0, 1) := by decide +kernel
theorem dX5_bestHours_43 : decode cX5_bestHours 43 = .ok (.istore_n 3, 1) := by decide +kernel
theorem dX5_bestHours_44 : decode cX5_bestHours 44 = .ok (.iload_n 3, 1) := by decide +kernel
theorem dX5_bestHours_45 : decode cX5_bestHours 45 = .ok (.bipush 10, 2) := by decide +kernel
theorem dX5_bestHours_47 : decode cX5_bestHours 47 = .ok (.if_icmp .ge 93, 3) := by decide +kernel
theorem dX5_bestHours_50 : decode cX5_bestHours 50 = .ok (.iconst 0, 1) := by decide +kernel
theorem dX5_bestHours_51 : decode cX5_bestHours 51 = .ok (.istore 4, 2) := by decide +kernel
theorem dX5_bestHours_53 : decode cX5_bestHours 53 = .ok (.iconst 0, 1) := by decide +kernel
theorem dX5_bestHours_54 : decode cX5_bestHours 54 = .ok (.istore 5, 2) := by decide +kernel
theorem dX5_bestHours_56 : decode cX5_bestHours 56 = .ok (.iload 5, 2) := by decide +kernel
theorem dX5_bestHours_58 : decode cX5_bestHours 58 = .ok (.iload_n 1, 1) := by decide +kernel
theorem dX5_bestHours_59 : decode cX5_bestHours 59 = .ok (.if_icmp .ge 32, 3) := by decide +kernel
theorem dX5_bestHours_62 : decode cX5_bestHours 62 = .ok (.iload 4, 2) := by decide +kernel
theorem dX5_bestHours_64 : decode cX5_bestHours 64 = .ok (.aload_n 0, 1) := by decide +kernel
theorem dX5_bestHours_65 : decode cX5_bestHours 65 = .ok (.aload_n 0, 1) := by decide +kernel
theorem dX5_bestHours_66 : decode cX5_bestHours 66 = .ok (.getfield 19, 3) := by decide +kernel
theorem dX5_bestHours_69 : decode cX5_bestHours 69 = .ok (.iload_n 3, 1) := by decide +kernel
theorem dX5_bestHours_70 : decode cX5_bestHours 70 = .ok (.iload 5, 2) := by decide +kernel
theorem dX5_bestHours_72 : decode cX5_bestHours 72 = .ok (.iadd, 1) := by decide +kernel
theorem dX5_bestHours_73 : decode cX5_bestHours 73 = .ok (.bipush 10, 2) := by decide +kernel
theorem dX5_bestHours_75 : decode cX5_bestHours 75 = .ok (.irem, 1) := by decide +kernel
theorem dX5_bestHours_76 : decode cX5_bestHours 76 = .ok (.invokevirtual 146, 3) := by decide +kernel
theorem dX5_bestHours_79 : decode cX5_bestHours 79 = .ok (.invokestatic 153, 3) := by decide +kernel
theorem dX5_bestHours_82 : decode cX5_bestHours 82 = .ok (.iadd, 1) := by decide +kernel
theorem dX5_bestHours_83 : decode cX5_bestHours 83 = .ok (.istore 4, 2) := by decide +kernel
theorem dX5_bestHours_85 : decode cX5_bestHours 85 = .ok (.iinc 5 1, 3) := by decide +kernel
theorem dX5_bestHours_88 : decode cX5_bestHours 88 = .ok (.goto (-32), 3) := by decide +kernel
theorem dX5_bestHours_91 : decode cX5_bestHours 91 = .ok (.aload_n 0, 1) := by decide +kernel
theorem dX5_bestHours_92 : decode cX5_bestHours 92 = .ok (.iload 4, 2) := by decide +kernel
theorem dX5_bestHours_94 : decode cX5_bestHours 94 = .ok (.aload_n 0, 1) := by decide +kernel
theorem dX5_bestHours_95 : decode cX5_bestHours 95 = .ok (.getfield 183, 3) := by decide +kernel
theorem dX5_bestHours_98 : decode cX5_bestHours 98 = .ok (.if_icmp .le 7, 3) := by decide +kernel
theorem dX5_bestHours_101 : decode cX5_bestHours 101 = .ok (.iload_n 3, 1) := by decide +kernel
theorem dX5_bestHours_102 : decode cX5_bestHours 102 = .ok (.goto 7, 3) := by decide +kernel
theorem dX5_bestHours_105 : decode cX5_bestHours 105 = .ok (.aload_n 0, 1) := by decide +kernel
theorem dX5_bestHours_106 : decode cX5_bestHours 106 = .ok (.getfield 186, 3) := by decide +kernel
theorem dX5_bestHours_109 : decode cX5_bestHours 109 = .ok (.putfield 186, 3) := by decide +kernel
theorem dX5_bestHours_112 : decode cX5_bestHours 112 = .ok (.aload_n 0, 1) := by decide +kernel
theorem dX5_bestHours_113 : decode cX5_bestHours 113 = .ok (.iload 4, 2) := by decide +kernel
theorem dX5_bestHours_115 : decode cX5_bestHours 115 = .ok (.aload_n 0, 1) := by decide +kernel
theorem dX5_bestHours_116 : decode cX5_bestHours 116 = .ok (.getfield 183, 3) := by decide +kernel
theorem dX5_bestHours_119 : decode cX5_bestHours 119 = .ok (.if_icmp .le 8, 3) := by decide +kernel
theorem dX5_bestHours_122 : decode cX5_bestHours 122 = .ok (.iload 4, 2) := by decide +kernel
theorem dX5_bestHours_124 : decode cX5_bestHours 124 = .ok (.goto 7, 3) := by decide +kernel
theorem dX5_bestHours_127 : decode cX5_bestHours 127 = .ok (.aload_n 0, 1) := by decide +kernel
theorem dX5_bestHours_128 : decode cX5_bestHours 128 = .ok (.getfield 183, 3) := by decide +kernel
theorem dX5_bestHours_131 : decode cX5_bestHours 131 = .ok (.putfield 183, 3) := by decide +kernel
theorem dX5_bestHours_134 : decode cX5_bestHours 134 = .ok (.iinc 3 1, 3) := by decide +kernel
theorem dX5_bestHours_137 : decode cX5_bestHours 137 = .ok (.goto (-93), 3) := by decide +kernel
theorem dX5_bestHours_140 : decode cX5_bestHours 140 = .ok (.iload_n 2, 1) := by decide +kernel
theorem dX5_bestHours_141 : decode cX5_bestHours 141 = .ok (.ifCond .ne 10, 3) := by decide +kernel
theorem dX5_bestHours_144 : decode cX5_bestHours 144 = .ok (.aload_n 0, 1) := by decide +kernel
theorem dX5_bestHours_145 : decode cX5_bestHours 145 = .ok (.getfield 186, 3) := by decide +kernel
theorem dX5_bestHours_148 : decode cX5_bestHours 148 = .ok (.goto 7, 3) := by decide +kernel
theorem dX5_bestHours_151 : decode cX5_bestHours 151 = .ok (.aload_n 0, 1) := by decide +kernel
theorem dX5_bestHours_152 : decode cX5_bestHours 152 = .ok (.getfield 183, 3) := by decide +kernel
theorem dX5_bestHours_155 : decode cX5_bestHours 155 = .ok (.ireturn, 1) := by decide +kernel
theorem dX5_grounded_0 : decode cX5_grounded 0 = .ok (.aload_n 0, 1) := by decide +kernel
theorem dX5_grounded_1 : decode cX5_grounded 1 = .ok (.iconst 0, 1) := by decide +kernel
theorem dX5_grounded_2 : decode cX5_grounded 2 = .ok (.putfield 56, 3) := by decide +kernel
theorem dX5_grounded_5 : decode cX5_grounded 5 = .ok (.aload_n 0, 1) := by decide +kernel
theorem dX5_grounded_6 : decode cX5_grounded 6 = .ok (.iload_n 1, 1) := by decide +kernel
theorem dX5_grounded_7 : decode cX5_grounded 7 = .ok (.invokevirtual 129, 3) := by decide +kernel
theorem dX5_grounded_10 : decode cX5_grounded 10 = .ok (.ifCond .eq 5, 3) := by decide +kernel
theorem dX5_grounded_13 : decode cX5_grounded 13 = .ok (.iconst (-1), 1) := by decide +kernel
theorem dX5_grounded_14 : decode cX5_grounded 14 = .ok (.ireturn, 1) := by decide +kernel
theorem dX5_grounded_15 : decode cX5_grounded 15 = .ok (.iload_n 2, 1) := by decide +kernel
theorem dX5_grounded_16 : decode cX5_grounded 16 = .ok (.invokestatic 137, 3) := by decide +kernel
theorem dX5_grounded_19 : decode cX5_grounded 19 = .ok (.ifCond .ne 31, 3) := by decide +kernel
theorem dX5_grounded_22 : decode cX5_grounded 22 = .ok (.iload_n 3, 1) := by decide +kernel
theorem dX5_grounded_23 : decode cX5_grounded 23 = .ok (.invokestatic 137, 3) := by decide +kernel
theorem dX5_grounded_26 : decode cX5_grounded 26 = .ok (.ifCond .ne 24, 3) := by decide +kernel
theorem dX5_grounded_29 : decode cX5_grounded 29 = .ok (.iload 4, 2) := by decide +kernel
theorem dX5_grounded_31 : decode cX5_grounded 31 = .ok (.invokestatic 143, 3) := by decide +kernel
theorem dX5_grounded_34 : decode cX5_grounded 34 = .ok (.ifCond .ne 16, 3) := by decide +kernel
theorem dX5_grounded_37 : decode cX5_grounded 37 = .ok (.iload 5, 2) := by decide +kernel
theorem dX5_grounded_39 : decode cX5_grounded 39 = .ok (.i2l, 1) := by decide +kernel
theorem dX5_grounded_40 : decode cX5_grounded 40 = .ok (.lconst 1, 1) := by decide +kernel
theorem dX5_grounded_41 : decode cX5_grounded 41 = .ok (.ldc2_w 67, 3) := by decide +kernel
theorem dX5_grounded_44 : decode cX5_grounded 44 = .ok (.invokestatic 63, 3) := by decide +kernel
theorem dX5_grounded_47 : decode cX5_grounded 47 = .ok (.ifCond .ne 6, 3) := by decide +kernel
theorem dX5_grounded_50 : decode cX5_grounded 50 = .ok (.bipush (-2), 2) := by decide +kernel
theorem dX5_grounded_52 : decode cX5_grounded 52 = .ok (.ireturn, 1) := by decide +kernel
theorem dX5_grounded_53 : decode cX5_grounded 53 = .ok (.aload_n 0, 1) := by decide +kernel
theorem dX5_grounded_54 : decode cX5_grounded 54 = .ok (.aload_n 0, 1) := by decide +kernel
theorem dX5_grounded_55 : decode cX5_grounded 55 = .ok (.getfield 19, 3) := by decide +kernel
theorem dX5_grounded_58 : decode cX5_grounded 58 = .ok (.iload_n 2, 1) := by decide +kernel
theorem dX5_grounded_59 : decode cX5_grounded 59 = .ok (.iload 4, 2) := by decide +kernel
theorem dX5_grounded_61 : decode cX5_grounded 61 = .ok (.invokevirtual 122, 3) := by decide +kernel
theorem dX5_grounded_64 : decode cX5_grounded 64 = .ok (.istore 6, 2) := by decide +kernel
theorem dX5_grounded_66 : decode cX5_grounded 66 = .ok (.iload 6, 2) := by decide +kernel
theorem dX5_grounded_68 : decode cX5_grounded 68 = .ok (.iload_n 1, 1) := by decide +kernel
theorem dX5_grounded_69 : decode cX5_grounded 69 = .ok (.invokestatic 110, 3) := by decide +kernel
theorem dX5_grounded_72 : decode cX5_grounded 72 = .ok (.ifCond .ne 23, 3) := by decide +kernel
theorem dX5_grounded_75 : decode cX5_grounded 75 = .ok (.iload 6, 2) := by decide +kernel
theorem dX5_grounded_77 : decode cX5_grounded 77 = .ok (.iconst 1, 1) := by decide +kernel
theorem dX5_grounded_78 : decode cX5_grounded 78 = .ok (.iload_n 1, 1) := by decide +kernel
theorem dX5_grounded_79 : decode cX5_grounded 79 = .ok (.ishl, 1) := by decide +kernel
theorem dX5_grounded_80 : decode cX5_grounded 80 = .ok (.ior, 1) := by decide +kernel
theorem dX5_grounded_81 : decode cX5_grounded 81 = .ok (.aload_n 0, 1) := by decide +kernel
theorem dX5_grounded_82 : decode cX5_grounded 82 = .ok (.aload_n 0, 1) := by decide +kernel
theorem dX5_grounded_83 : decode cX5_grounded 83 = .ok (.getfield 19, 3) := by decide +kernel
theorem dX5_grounded_86 : decode cX5_grounded 86 = .ok (.iload_n 3, 1) := by decide +kernel
theorem dX5_grounded_87 : decode cX5_grounded 87 = .ok (.iload 4, 2) := by decide +kernel
theorem dX5_grounded_89 : decode cX5_grounded 89 = .ok (.invokevirtual 122, 3) := by decide +kernel
theorem dX5_grounded_92 : decode cX5_grounded 92 = .ok (.if_icmp .eq 5, 3) := by decide +kernel
theorem dX5_grounded_95 : decode cX5_grounded 95 = .ok (.iconst 0, 1) := by decide +kernel
theorem dX5_grounded_96 : decode cX5_grounded 96 = .ok (.ireturn, 1) := by decide +kernel
theorem dX5_grounded_97 : decode cX5_grounded 97 = .ok (.iconst 0, 1) := by decide +kernel
theorem dX5_grounded_98 : decode cX5_grounded 98 = .ok (.istore 7, 2) := by decide +kernel
theorem dX5_grounded_100 : decode cX5_grounded 100 = .ok (.iconst 0, 1) := by decide +kernel
theorem dX5_grounded_101 : decode cX5_grounded 101 = .ok (.istore 8, 2) := by decide +kernel
theorem dX5_grounded_103 : decode cX5_grounded 103 = .ok (.iload 8, 2) := by decide +kernel
theorem dX5_grounded_105 : decode cX5_grounded 105 = .ok (.bipush 10, 2) := by decide +kernel
theorem dX5_grounded_107 : decode cX5_grounded 107 = .ok (.if_icmp .ge 38, 3) := by decide +kernel
theorem dX5_grounded_110 : decode cX5_grounded 110 = .ok (.iload 7, 2) := by decide +kernel
theorem dX5_grounded_112 : decode cX5_grounded 112 = .ok (.aload_n 0, 1) := by decide +kernel
theorem dX5_grounded_113 : decode cX5_grounded 113 = .ok (.getfield 19, 3) := by decide +kernel
theorem dX5_grounded_116 : decode cX5_grounded 116 = .ok (.iload 8, 2) := by decide +kernel
theorem dX5_grounded_118 : decode cX5_grounded 118 = .ok (.iload 5, 2) := by decide +kernel
theorem dX5_grounded_120 : decode cX5_grounded 120 = .ok (.iconst 0, 1) := by decide +kernel
theorem dX5_grounded_121 : decode cX5_grounded 121 = .ok (.iload_n 2, 1) := by decide +kernel
theorem dX5_grounded_122 : decode cX5_grounded 122 = .ok (.invokestatic 114, 3) := by decide +kernel
theorem dX5_grounded_125 : decode cX5_grounded 125 = .ok (.ifCond .eq 10, 3) := by decide +kernel
theorem dX5_grounded_128 : decode cX5_grounded 128 = .ok (.iconst 1, 1) := by decide +kernel
theorem dX5_grounded_129 : decode cX5_grounded 129 = .ok (.iload 8, 2) := by decide +kernel
theorem dX5_grounded_131 : decode cX5_grounded 131 = .ok (.ishl, 1) := by decide +kernel
theorem dX5_grounded_132 : decode cX5_grounded 132 = .ok (.goto 4, 3) := by decide +kernel
theorem dX5_grounded_135 : decode cX5_grounded 135 = .ok (.iconst 0, 1) := by decide +kernel
theorem dX5_grounded_136 : decode cX5_grounded 136 = .ok (.ior, 1) := by decide +kernel
theorem dX5_grounded_137 : decode cX5_grounded 137 = .ok (.istore 7, 2) := by decide +kernel
theorem dX5_grounded_139 : decode cX5_grounded 139 = .ok (.iinc 8 1, 3) := by decide +kernel
theorem dX5_grounded_142 : decode cX5_grounded 142 = .ok (.goto (-39), 3) := by decide +kernel
theorem dX5_grounded_145 : decode cX5_grounded 145 = .ok (.iload 7, 2) := by decide +kernel
theorem dX5_grounded_147 : decode cX5_grounded 147 = .ok (.ireturn, 1) := by decide +kernel
theorem dX5_see_0 : decode cX5_see 0 = .ok (.aload_n 0, 1) := by decide +kernel
theorem dX5_see_1 : decode cX5_see 1 = .ok (.iconst 0, 1) := by decide +kernel
theorem dX5_see_2 : decode cX5_see 2 = .ok (.putfield 56, 3) := by decide +kernel
theorem dX5_see_5 : decode cX5_see 5 = .ok (.aload_n 0, 1) := by decide +kernel
theorem dX5_see_6 : decode cX5_see 6 = .ok (.iload_n 1, 1) := by decide +kernel
theorem dX5_see_7 : decode cX5_see 7 = .ok (.invokevirtual 129, 3) := by decide +kernel
theorem dX5_see_10 : decode cX5_see 10 = .ok (.ifCond .eq 5, 3) := by decide +kernel
theorem dX5_see_13 : decode cX5_see 13 = .ok (.iconst (-1), 1) := by decide +kernel
theorem dX5_see_14 : decode cX5_see 14 = .ok (.ireturn, 1) := by decide +kernel
theorem dX5_see_15 : decode cX5_see 15 = .ok (.iload_n 2, 1) := by decide +kernel
theorem dX5_see_16 : decode cX5_see 16 = .ok (.invokestatic 137, 3) := by decide +kernel
theorem dX5_see_19 : decode cX5_see 19 = .ok (.ifCond .ne 10, 3) := by decide +kernel
theorem dX5_see_22 : decode cX5_see 22 = .ok (.iload_n 3, 1) := by decide +kernel
theorem dX5_see_23 : decode cX5_see 23 = .ok (.invokestatic 143, 3) := by decide +kernel
theorem dX5_see_26 : decode cX5_see 26 = .ok (.ifCond .eq 6, 3) := by decide +kernel
theorem dX5_see_29 : decode cX5_see 29 = .ok (.bipush (-2), 2) := by decide +kernel
theorem dX5_see_31 : decode cX5_see 31 = .ok (.ireturn, 1) := by decide +kernel
theorem dX5_see_32 : decode cX5_see 32 = .ok (.aload_n 0, 1) := by decide +kernel
theorem dX5_see_33 : decode cX5_see 33 = .ok (.getfield 126, 3) := by decide +kernel
theorem dX5_see_36 : decode cX5_see 36 = .ok (.bipush 6, 2) := by decide +kernel
theorem dX5_see_38 : decode cX5_see 38 = .ok (.if_icmp .ne 6, 3) := by decide +kernel
theorem dX5_see_41 : decode cX5_see 41 = .ok (.bipush (-4), 2) := by decide +kernel
theorem dX5_see_43 : decode cX5_see 43 = .ok (.ireturn, 1) := by decide +kernel
theorem dX5_see_44 : decode cX5_see 44 = .ok (.aload_n 0, 1) := by decide +kernel
theorem dX5_see_45 : decode cX5_see 45 = .ok (.getfield 35, 3) := by decide +kernel
theorem dX5_see_48 : decode cX5_see 48 = .ok (.aload_n 0, 1) := by decide +kernel
theorem dX5_see_49 : decode cX5_see 49 = .ok (.getfield 126, 3) := by decide +kernel
theorem dX5_see_52 : decode cX5_see 52 = .ok (.iload_n 1, 1) := by decide +kernel
theorem dX5_see_53 : decode cX5_see 53 = .ok (.iastore, 1) := by decide +kernel
theorem dX5_see_54 : decode cX5_see 54 = .ok (.aload_n 0, 1) := by decide +kernel
theorem dX5_see_55 : decode cX5_see 55 = .ok (.getfield 38, 3) := by decide +kernel
theorem dX5_see_58 : decode cX5_see 58 = .ok (.aload_n 0, 1) := by decide +kernel
theorem dX5_see_59 : decode cX5_see 59 = .ok (.getfield 126, 3) := by decide +kernel
theorem dX5_see_62 : decode cX5_see 62 = .ok (.iload_n 2, 1) := by decide +kernel
theorem dX5_see_63 : decode cX5_see 63 = .ok (.iastore, 1) := by decide +kernel
theorem dX5_see_64 : decode cX5_see 64 = .ok (.aload_n 0, 1) := by decide +kernel
theorem dX5_see_65 : decode cX5_see 65 = .ok (.getfield 41, 3) := by decide +kernel
theorem dX5_see_68 : decode cX5_see 68 = .ok (.aload_n 0, 1) := by decide +kernel
theorem dX5_see_69 : decode cX5_see 69 = .ok (.getfield 126, 3) := by decide +kernel
theorem dX5_see_72 : decode cX5_see 72 = .ok (.iload_n 3, 1) := by decide +kernel
theorem dX5_see_73 : decode cX5_see 73 = .ok (.iastore, 1) := by decide +kernel
theorem dX5_see_74 : decode cX5_see 74 = .ok (.aload_n 0, 1) := by decide +kernel
theorem dX5_see_75 : decode cX5_see 75 = .ok (.getfield 44, 3) := by decide +kernel
theorem dX5_see_78 : decode cX5_see 78 = .ok (.aload_n 0, 1) := by decide +kernel
theorem dX5_see_79 : decode cX5_see 79 = .ok (.getfield 126, 3) := by decide +kernel
theorem dX5_see_82 : decode cX5_see 82 = .ok (.iload 4, 2) := by decide +kernel
theorem dX5_see_84 : decode cX5_see 84 = .ok (.bastore, 1) := by decide +kernel
theorem dX5_see_85 : decode cX5_see 85 = .ok (.aload_n 0, 1) := by decide +kernel
theorem dX5_see_86 : decode cX5_see 86 = .ok (.dup, 1) := by decide +kernel
theorem dX5_see_87 : decode cX5_see 87 = .ok (.getfield 126, 3) := by decide +kernel
theorem dX5_see_90 : decode cX5_see 90 = .ok (.iconst 1, 1) := by decide +kernel
theorem dX5_see_91 : decode cX5_see 91 = .ok (.iadd, 1) := by decide +kernel
theorem dX5_see_92 : decode cX5_see 92 = .ok (.putfield 126, 3) := by decide +kernel
theorem dX5_see_95 : decode cX5_see 95 = .ok (.aload_n 0, 1) := by decide +kernel
theorem dX5_see_96 : decode cX5_see 96 = .ok (.getfield 126, 3) := by decide +kernel
theorem dX5_see_99 : decode cX5_see 99 = .ok (.ireturn, 1) := by decide +kernel
theorem dX5_unsee_0 : decode cX5_unsee 0 = .ok (.aload_n 0, 1) := by decide +kernel
theorem dX5_unsee_1 : decode cX5_unsee 1 = .ok (.iconst 0, 1) := by decide +kernel
theorem dX5_unsee_2 : decode cX5_unsee 2 = .ok (.putfield 56, 3) := by decide +kernel
theorem dX5_unsee_5 : decode cX5_unsee 5 = .ok (.aload_n 0, 1) := by decide +kernel
theorem dX5_unsee_6 : decode cX5_unsee 6 = .ok (.getfield 126, 3) := by decide +kernel
theorem dX5_unsee_9 : decode cX5_unsee 9 = .ok (.istore_n 1, 1) := by decide +kernel
theorem dX5_unsee_10 : decode cX5_unsee 10 = .ok (.aload_n 0, 1) := by decide +kernel
theorem dX5_unsee_11 : decode cX5_unsee 11 = .ok (.iconst 0, 1) := by decide +kernel
theorem dX5_unsee_12 : decode cX5_unsee 12 = .ok (.putfield 126, 3) := by decide +kernel
theorem dX5_unsee_15 : decode cX5_unsee 15 = .ok (.iload_n 1, 1) := by decide +kernel
theorem dX5_unsee_16 : decode cX5_unsee 16 = .ok (.ireturn, 1) := by decide +kernel
theorem dX5_weather_0 : decode cX5_weather 0 = .ok (.aload_n 0, 1) := by decide +kernel
theorem dX5_weather_1 : decode cX5_weather 1 = .ok (.iconst 0, 1) := by decide +kernel
theorem dX5_weather_2 : decode cX5_weather 2 = .ok (.putfield 56, 3) := by decide +kernel
theorem dX5_weather_5 : decode cX5_weather 5 = .ok (.iload_n 1, 1) := by decide +kernel
theorem dX5_weather_6 : decode cX5_weather 6 = .ok (.i2l, 1) := by decide +kernel
theorem dX5_weather_7 : decode cX5_weather 7 = .ok (.lconst 0, 1) := by decide +kernel
theorem dX5_weather_8 : decode cX5_weather 8 = .ok (.lconst 1, 1) := by decide +kernel
theorem dX5_weather_9 : decode cX5_weather 9 = .ok (.invokestatic 63, 3) := by decide +kernel
theorem dX5_weather_12 : decode cX5_weather 12 = .ok (.ifCond .ne 6, 3) := by decide +kernel
theorem dX5_weather_15 : decode cX5_weather 15 = .ok (.bipush (-2), 2) := by decide +kernel
theorem dX5_weather_17 : decode cX5_weather 17 = .ok (.ireturn, 1) := by decide +kernel
theorem dX5_weather_18 : decode cX5_weather 18 = .ok (.aload_n 0, 1) := by decide +kernel
theorem dX5_weather_19 : decode cX5_weather 19 = .ok (.iconst 0, 1) := by decide +kernel
theorem dX5_weather_20 : decode cX5_weather 20 = .ok (.putfield 189, 3) := by decide +kernel
theorem dX5_weather_23 : decode cX5_weather 23 = .ok (.aload_n 0, 1) := by decide +kernel
theorem dX5_weather_24 : decode cX5_weather 24 = .ok (.bipush (-9), 2) := by decide +kernel
theorem dX5_weather_26 : decode cX5_weather 26 = .ok (.putfield 192, 3) := by decide +kernel
theorem dX5_weather_29 : decode cX5_weather 29 = .ok (.iconst 0, 1) := by decide +kernel
theorem dX5_weather_30 : decode cX5_weather 30 = .ok (.istore_n 2, 1) := by decide +kernel
theorem dX5_weather_31 : decode cX5_weather 31 = .ok (.iload_n 2, 1) := by decide +kernel
theorem dX5_weather_32 : decode cX5_weather 32 = .ok (.bipush 15, 2) := by decide +kernel
theorem dX5_weather_34 : decode cX5_weather 34 = .ok (.if_icmp .ge 158, 3) := by decide +kernel
theorem dX5_weather_37 : decode cX5_weather 37 = .ok (.aload_n 0, 1) := by decide +kernel
theorem dX5_weather_38 : decode cX5_weather 38 = .ok (.invokevirtual 150, 3) := by decide +kernel
theorem dX5_weather_41 : decode cX5_weather 41 = .ok (.aload_n 0, 1) := by decide +kernel
theorem dX5_weather_42 : decode cX5_weather 42 = .ok (.getfield 22, 3) := by decide +kernel
theorem dX5_weather_45 : decode cX5_weather 45 = .ok (.bipush 6, 2) := by decide +kernel
theorem dX5_weather_47 : decode cX5_weather 47 = .ok (.iload_n 2, 1) := by decide +kernel
theorem dX5_weather_48 : decode cX5_weather 48 = .ok (.iconst 3, 1) := by decide +kernel
theorem dX5_weather_49 : decode cX5_weather 49 = .ok (.idiv, 1) := by decide +kernel
theorem dX5_weather_50 : decode cX5_weather 50 = .ok (.iastore, 1) := by decide +kernel
theorem dX5_weather_51 : decode cX5_weather 51 = .ok (.aload_n 0, 1) := by decide +kernel
theorem dX5_weather_52 : decode cX5_weather 52 = .ok (.getfield 22, 3) := by decide +kernel
theorem dX5_weather_55 : decode cX5_weather 55 = .ok (.bipush 7, 2) := by decide +kernel
theorem dX5_weather_57 : decode cX5_weather 57 = .ok (.iload_n 2, 1) := by decide +kernel
theorem dX5_weather_58 : decode cX5_weather 58 = .ok (.iconst 3, 1) := by decide +kernel
theorem dX5_weather_59 : decode cX5_weather 59 = .ok (.irem, 1) := by decide +kernel
theorem dX5_weather_60 : decode cX5_weather 60 = .ok (.iastore, 1) := by decide +kernel
theorem dX5_weather_61 : decode cX5_weather 61 = .ok (.iconst 1, 1) := by decide +kernel
theorem dX5_weather_62 : decode cX5_weather 62 = .ok (.istore_n 3, 1) := by decide +kernel
theorem dX5_weather_63 : decode cX5_weather 63 = .ok (.iconst 0, 1) := by decide +kernel
theorem dX5_weather_64 : decode cX5_weather 64 = .ok (.istore 4, 2) := by decide +kernel
theorem dX5_weather_66 : decode cX5_weather 66 = .ok (.iload 4, 2) := by decide +kernel
theorem dX5_weather_68 : decode cX5_weather 68 = .ok (.aload_n 0, 1) := by decide +kernel
theorem dX5_weather_69 : decode cX5_weather 69 = .ok (.getfield 126, 3) := by decide +kernel
theorem dX5_weather_72 : decode cX5_weather 72 = .ok (.if_icmp .ge 72, 3) := by decide +kernel
theorem dX5_weather_75 : decode cX5_weather 75 = .ok (.iload_n 3, 1) := by decide +kernel
theorem dX5_weather_76 : decode cX5_weather 76 = .ok (.ifCond .eq 68, 3) := by decide +kernel
theorem dX5_weather_79 : decode cX5_weather 79 = .ok (.aload_n 0, 1) := by decide +kernel
theorem dX5_weather_80 : decode cX5_weather 80 = .ok (.getfield 35, 3) := by decide +kernel
theorem dX5_weather_83 : decode cX5_weather 83 = .ok (.iload 4, 2) := by decide +kernel
theorem dX5_weather_85 : decode cX5_weather 85 = .ok (.iaload, 1) := by decide +kernel
theorem dX5_weather_86 : decode cX5_weather 86 = .ok (.aload_n 0, 1) := by decide +kernel
theorem dX5_weather_87 : decode cX5_weather 87 = .ok (.getfield 60, 3) := by decide +kernel
theorem dX5_weather_90 : decode cX5_weather 90 = .ok (.if_icmp .ge 42, 3) := by decide +kernel
theorem dX5_weather_93 : decode cX5_weather 93 = .ok (.aload_n 0, 1) := by decide +kernel
theorem dX5_weather_94 : decode cX5_weather 94 = .ok (.aload_n 0, 1) := by decide +kernel
theorem dX5_weather_95 : decode cX5_weather 95 = .ok (.getfield 22, 3) := by decide +kernel
theorem dX5_weather_98 : decode cX5_weather 98 = .ok (.aload_n 0, 1) := by decide +kernel
theorem dX5_weather_99 : decode cX5_weather 99 = .ok (.getfield 35, 3) := by decide +kernel
theorem dX5_weather_102 : decode cX5_weather 102 = .ok (.iload 4, 2) := by decide +kernel
theorem dX5_weather_104 : decode cX5_weather 104 = .ok (.iaload, 1) := by decide +kernel
theorem dX5_weather_105 : decode cX5_weather 105 = .ok (.aload_n 0, 1) := by decide +kernel
theorem dX5_weather_106 : decode cX5_weather 106 = .ok (.getfield 38, 3) := by decide +kernel
theorem dX5_weather_109 : decode cX5_weather 109 = .ok (.iload 4, 2) := by decide +kernel
theorem dX5_weather_111 : decode cX5_weather 111 = .ok (.iaload, 1) := by decide +kernel
theorem dX5_weather_112 : decode cX5_weather 112 = .ok (.aload_n 0, 1) := by decide +kernel
theorem dX5_weather_113 : decode cX5_weather 113 = .ok (.getfield 41, 3) := by decide +kernel
theorem dX5_weather_116 : decode cX5_weather 116 = .ok (.iload 4, 2) := by decide +kernel
theorem dX5_weather_118 : decode cX5_weather 118 = .ok (.iaload, 1) := by decide +kernel
theorem dX5_weather_119 : decode cX5_weather 119 = .ok (.invokevirtual 118, 3) := by decide +kernel
theorem dX5_weather_122 : decode cX5_weather 122 = .ok (.aload_n 0, 1) := by decide +kernel
theorem dX5_weather_123 : decode cX5_weather 123 = .ok (.getfield 44, 3) := by decide +kernel
theorem dX5_weather_126 : decode cX5_weather 126 = .ok (.iload 4, 2) := by decide +kernel
theorem dX5_weather_128 : decode cX5_weather 128 = .ok (.baload, 1) := by decide +kernel
theorem dX5_weather_129 : decode cX5_weather 129 = .ok (.if_icmp .ne 7, 3) := by decide +kernel
theorem dX5_weather_132 : decode cX5_weather 132 = .ok (.iconst 1, 1) := by decide +kernel
theorem dX5_weather_133 : decode cX5_weather 133 = .ok (.goto 4, 3) := by decide +kernel
theorem dX5_weather_136 : decode cX5_weather 136 = .ok (.iconst 0, 1) := by decide +kernel
theorem dX5_weather_137 : decode cX5_weather 137 = .ok (.istore_n 3, 1) := by decide +kernel
theorem dX5_weather_138 : decode cX5_weather 138 = .ok (.iinc 4 1, 3) := by decide +kernel
theorem dX5_weather_141 : decode cX5_weather 141 = .ok (.goto (-75), 3) := by decide +kernel
theorem dX5_weather_144 : decode cX5_weather 144 = .ok (.iload_n 3, 1) := by decide +kernel
theorem dX5_weather_145 : decode cX5_weather 145 = .ok (.ifCond .eq 41, 3) := by decide +kernel
theorem dX5_weather_148 : decode cX5_weather 148 = .ok (.aload_n 0, 1) := by decide +kernel
theorem dX5_weather_149 : decode cX5_weather 149 = .ok (.aload_n 0, 1) := by decide +kernel
theorem dX5_weather_150 : decode cX5_weather 150 = .ok (.getfield 189, 3) := by decide +kernel
theorem dX5_weather_153 : decode cX5_weather 153 = .ok (.ifCond .ne 16, 3) := by decide +kernel
theorem dX5_weather_156 : decode cX5_weather 156 = .ok (.bipush 10, 2) := by decide +kernel
theorem dX5_weather_158 : decode cX5_weather 158 = .ok (.iload_n 2, 1) := by decide +kernel
theorem dX5_weather_159 : decode cX5_weather 159 = .ok (.iconst 3, 1) := by decide +kernel
theorem dX5_weather_160 : decode cX5_weather 160 = .ok (.idiv, 1) := by decide +kernel
theorem dX5_weather_161 : decode cX5_weather 161 = .ok (.imul, 1) := by decide +kernel
theorem dX5_weather_162 : decode cX5_weather 162 = .ok (.iload_n 2, 1) := by decide +kernel
theorem dX5_weather_163 : decode cX5_weather 163 = .ok (.iconst 3, 1) := by decide +kernel
theorem dX5_weather_164 : decode cX5_weather 164 = .ok (.irem, 1) := by decide +kernel
theorem dX5_weather_165 : decode cX5_weather 165 = .ok (.iadd, 1) := by decide +kernel
theorem dX5_weather_166 : decode cX5_weather 166 = .ok (.goto 7, 3) := by decide +kernel
theorem dX5_weather_169 : decode cX5_weather 169 = .ok (.aload_n 0, 1) := by decide +kernel
theorem dX5_weather_170 : decode cX5_weather 170 = .ok (.getfield 192, 3) := by decide +kernel
theorem dX5_weather_173 : decode cX5_weather 173 = .ok (.putfield 192, 3) := by decide +kernel
theorem dX5_weather_176 : decode cX5_weather 176 = .ok (.aload_n 0, 1) := by decide +kernel
theorem dX5_weather_177 : decode cX5_weather 177 = .ok (.dup, 1) := by decide +kernel
theorem dX5_weather_178 : decode cX5_weather 178 = .ok (.getfield 189, 3) := by decide +kernel
theorem dX5_weather_181 : decode cX5_weather 181 = .ok (.iconst 1, 1) := by decide +kernel
theorem dX5_weather_182 : decode cX5_weather 182 = .ok (.iadd, 1) := by decide +kernel
theorem dX5_weather_183 : decode cX5_weather 183 = .ok (.putfield 189, 3) := by decide +kernel
theorem dX5_weather_186 : decode cX5_weather 186 = .ok (.iinc 2 1, 3) := by decide +kernel
theorem dX5_weather_189 : decode cX5_weather 189 = .ok (.goto (-158), 3) := by decide +kernel
theorem dX5_weather_192 : decode cX5_weather 192 = .ok (.iload_n 1, 1) := by decide +kernel
theorem dX5_weather_193 : decode cX5_weather 193 = .ok (.ifCond .ne 10, 3) := by decide +kernel
theorem dX5_weather_196 : decode cX5_weather 196 = .ok (.aload_n 0, 1) := by decide +kernel
theorem dX5_weather_197 : decode cX5_weather 197 = .ok (.getfield 189, 3) := by decide +kernel
theorem dX5_weather_200 : decode cX5_weather 200 = .ok (.goto 7, 3) := by decide +kernel
theorem dX5_weather_203 : decode cX5_weather 203 = .ok (.aload_n 0, 1) := by decide +kernel
theorem dX5_weather_204 : decode cX5_weather 204 = .ok (.getfield 192, 3) := by decide +kernel
theorem dX5_weather_207 : decode cX5_weather 207 = .ok (.ireturn, 1) := by decide +kernel
theorem dX5_canBoth_0 : decode cX5_canBoth 0 = .ok (.iload_n 0, 1) := by decide +kernel
theorem dX5_canBoth_1 : decode cX5_canBoth 1 = .ok (.iload_n 1, 1) := by decide +kernel
theorem dX5_canBoth_2 : decode cX5_canBoth 2 = .ok (.if_icmp .ne 9, 3) := by decide +kernel
theorem dX5_canBoth_5 : decode cX5_canBoth 5 = .ok (.iload_n 0, 1) := by decide +kernel
theorem dX5_canBoth_6 : decode cX5_canBoth 6 = .ok (.bipush 10, 2) := by decide +kernel
theorem dX5_canBoth_8 : decode cX5_canBoth 8 = .ok (.if_icmp .ne 7, 3) := by decide +kernel
theorem dX5_canBoth_11 : decode cX5_canBoth 11 = .ok (.iconst 1, 1) := by decide +kernel
theorem dX5_canBoth_12 : decode cX5_canBoth 12 = .ok (.goto 4, 3) := by decide +kernel
theorem dX5_canBoth_15 : decode cX5_canBoth 15 = .ok (.iconst 0, 1) := by decide +kernel
theorem dX5_canBoth_16 : decode cX5_canBoth 16 = .ok (.ireturn, 1) := by decide +kernel
theorem dX5_doRest_0 : decode cX5_doRest 0 = .ok (.iload_n 1, 1) := by decide +kernel
theorem dX5_doRest_1 : decode cX5_doRest 1 = .ok (.iload_n 2, 1) := by decide +kernel
theorem dX5_doRest_2 : decode cX5_doRest 2 = .ok (.invokestatic 195, 3) := by decide +kernel
theorem dX5_doRest_5 : decode cX5_doRest 5 = .ok (.istore_n 3, 1) := by decide +kernel
theorem dX5_doRest_6 : decode cX5_doRest 6 = .ok (.iconst 0, 1) := by decide +kernel
theorem dX5_doRest_7 : decode cX5_doRest 7 = .ok (.istore 4, 2) := by decide +kernel
theorem dX5_doRest_9 : decode cX5_doRest 9 = .ok (.iload 4, 2) := by decide +kernel
theorem dX5_doRest_11 : decode cX5_doRest 11 = .ok (.bipush 10, 2) := by decide +kernel
theorem dX5_doRest_13 : decode cX5_doRest 13 = .ok (.if_icmp .gt 99, 3) := by decide +kernel
theorem dX5_doRest_16 : decode cX5_doRest 16 = .ok (.iload_n 3, 1) := by decide +kernel
theorem dX5_doRest_17 : decode cX5_doRest 17 = .ok (.ifCond .eq 95, 3) := by decide +kernel
theorem dX5_doRest_20 : decode cX5_doRest 20 = .ok (.iload 4, 2) := by decide +kernel
theorem dX5_doRest_22 : decode cX5_doRest 22 = .ok (.iload_n 2, 1) := by decide +kernel
theorem dX5_doRest_23 : decode cX5_doRest 23 = .ok (.invokestatic 195, 3) := by decide +kernel
theorem dX5_doRest_26 : decode cX5_doRest 26 = .ok (.ifCond .eq 29, 3) := by decide +kernel
theorem dX5_doRest_29 : decode cX5_doRest 29 = .ok (.aload_n 0, 1) := by decide +kernel
theorem dX5_doRest_30 : decode cX5_doRest 30 = .ok (.getfield 53, 3) := by decide +kernel
theorem dX5_doRest_33 : decode cX5_doRest 33 = .ok (.bipush 11, 2) := by decide +kernel
theorem dX5_doRest_35 : decode cX5_doRest 35 = .ok (.iload 4, 2) := by decide +kernel
theorem dX5_doRest_37 : decode cX5_doRest 37 = .ok (.imul, 1) := by decide +kernel
theorem dX5_doRest_38 : decode cX5_doRest 38 = .ok (.iload_n 2, 1) := by decide +kernel
theorem dX5_doRest_39 : decode cX5_doRest 39 = .ok (.iadd, 1) := by decide +kernel
theorem dX5_doRest_40 : decode cX5_doRest 40 = .ok (.iaload, 1) := by decide +kernel
theorem dX5_doRest_41 : decode cX5_doRest 41 = .ok (.aload_n 0, 1) := by decide +kernel
theorem dX5_doRest_42 : decode cX5_doRest 42 = .ok (.getfield 53, 3) := by decide +kernel
theorem dX5_doRest_45 : decode cX5_doRest 45 = .ok (.bipush 11, 2) := by decide +kernel
theorem dX5_doRest_47 : decode cX5_doRest 47 = .ok (.iload_n 1, 1) := by decide +kernel
theorem dX5_doRest_48 : decode cX5_doRest 48 = .ok (.imul, 1) := by decide +kernel
theorem dX5_doRest_49 : decode cX5_doRest 49 = .ok (.iload_n 2, 1) := by decide +kernel
theorem dX5_doRest_50 : decode cX5_doRest 50 = .ok (.iadd, 1) := by decide +kernel
theorem dX5_doRest_51 : decode cX5_doRest 51 = .ok (.iaload, 1) := by decide +kernel
theorem dX5_doRest_52 : decode cX5_doRest 52 = .ok (.if_icmp .gt 7, 3) := by decide +kernel
theorem dX5_doRest_55 : decode cX5_doRest 55 = .ok (.iconst 1, 1) := by decide +kernel
theorem dX5_doRest_56 : decode cX5_doRest 56 = .ok (.goto 4, 3) := by decide +kernel
theorem dX5_doRest_59 : decode cX5_doRest 59 = .ok (.iconst 0, 1) := by decide +kernel
theorem dX5_doRest_60 : decode cX5_doRest 60 = .ok (.istore_n 3, 1) := by decide +kernel
theorem dX5_doRest_61 : decode cX5_doRest 61 = .ok (.iload_n 3, 1) := by decide +kernel
theorem dX5_doRest_62 : decode cX5_doRest 62 = .ok (.ifCond .eq 42, 3) := by decide +kernel
theorem dX5_doRest_65 : decode cX5_doRest 65 = .ok (.iload_n 1, 1) := by decide +kernel
theorem dX5_doRest_66 : decode cX5_doRest 66 = .ok (.iload 4, 2) := by decide +kernel
theorem dX5_doRest_68 : decode cX5_doRest 68 = .ok (.invokestatic 195, 3) := by decide +kernel
theorem dX5_doRest_71 : decode cX5_doRest 71 = .ok (.ifCond .eq 29, 3) := by decide +kernel
theorem dX5_doRest_74 : decode cX5_doRest 74 = .ok (.aload_n 0, 1) := by decide +kernel
theorem dX5_doRest_75 : decode cX5_doRest 75 = .ok (.getfield 53, 3) := by decide +kernel
theorem dX5_doRest_78 : decode cX5_doRest 78 = .ok (.bipush 11, 2) := by decide +kernel
theorem dX5_doRest_80 : decode cX5_doRest 80 = .ok (.iload_n 1, 1) := by decide +kernel
theorem dX5_doRest_81 : decode cX5_doRest 81 = .ok (.imul, 1) := by decide +kernel
theorem dX5_doRest_82 : decode cX5_doRest 82 = .ok (.iload 4, 2) := by decide +kernel
theorem dX5_doRest_84 : decode cX5_doRest 84 = .ok (.iadd, 1) := by decide +kernel
theorem dX5_doRest_85 : decode cX5_doRest 85 = .ok (.iaload, 1) := by decide +kernel
theorem dX5_doRest_86 : decode cX5_doRest 86 = .ok (.aload_n 0, 1) := by decide +kernel
theorem dX5_doRest_87 : decode cX5_doRest 87 = .ok (.getfield 53, 3) := by decide +kernel
theorem dX5_doRest_90 : decode cX5_doRest 90 = .ok (.bipush 11, 2) := by decide +kernel
theorem dX5_doRest_92 : decode cX5_doRest 92 = .ok (.iload_n 1, 1) := by decide +kernel
theorem dX5_doRest_93 : decode cX5_doRest 93 = .ok (.imul, 1) := by decide +kernel
theorem dX5_doRest_94 : decode cX5_doRest 94 = .ok (.iload_n 2, 1) := by decide +kernel
theorem dX5_doRest_95 : decode cX5_doRest 95 = .ok (.iadd, 1) := by decide +kernel
theorem dX5_doRest_96 : decode cX5_doRest 96 = .ok (.iaload, 1) := by decide +kernel
theorem dX5_doRest_97 : decode cX5_doRest 97 = .ok (.if_icmp .lt 7, 3) := by decide +kernel
theorem dX5_doRest_100 : decode cX5_doRest 100 = .ok (.iconst 1, 1) := by decide +kernel
theorem dX5_doRest_101 : decode cX5_doRest 101 = .ok (.goto 4, 3) := by decide +kernel
theorem dX5_doRest_104 : decode cX5_doRest 104 = .ok (.iconst 0, 1) := by decide +kernel
theorem dX5_doRest_105 : decode cX5_doRest 105 = .ok (.istore_n 3, 1) := by decide +kernel
theorem dX5_doRest_106 : decode cX5_doRest 106 = .ok (.iinc 4 1, 3) := by decide +kernel
theorem dX5_doRest_109 : decode cX5_doRest 109 = .ok (.goto (-100), 3) := by decide +kernel
theorem dX5_doRest_112 : decode cX5_doRest 112 = .ok (.iload_n 3, 1) := by decide +kernel
theorem dX5_doRest_113 : decode cX5_doRest 113 = .ok (.ireturn, 1) := by decide +kernel
theorem dX5_rivals_0 : decode cX5_rivals 0 = .ok (.aload_n 0, 1) := by decide +kernel
theorem dX5_rivals_1 : decode cX5_rivals 1 = .ok (.iconst 0, 1) := by decide +kernel
theorem dX5_rivals_2 : decode cX5_rivals 2 = .ok (.putfield 56, 3) := by decide +kernel
theorem dX5_rivals_5 : decode cX5_rivals 5 = .ok (.iload_n 1, 1) := by decide +kernel
theorem dX5_rivals_6 : decode cX5_rivals 6 = .ok (.invokestatic 143, 3) := by decide +kernel
theorem dX5_rivals_9 : decode cX5_rivals 9 = .ok (.ifCond .ne 13, 3) := by decide +kernel
theorem dX5_rivals_12 : decode cX5_rivals 12 = .ok (.iload_n 2, 1) := by decide +kernel
theorem dX5_rivals_13 : decode cX5_rivals 13 = .ok (.i2l, 1) := by decide +kernel
theorem dX5_rivals_14 : decode cX5_rivals 14 = .ok (.lconst 0, 1) := by decide +kernel
theorem dX5_rivals_15 : decode cX5_rivals 15 = .ok (.lconst 1, 1) := by decide +kernel
theorem dX5_rivals_16 : decode cX5_rivals 16 = .ok (.invokestatic 63, 3) := by decide +kernel
theorem dX5_rivals_19 : decode cX5_rivals 19 = .ok (.ifCond .ne 6, 3) := by decide +kernel
theorem dX5_rivals_22 : decode cX5_rivals 22 = .ok (.bipush (-2), 2) := by decide +kernel
theorem dX5_rivals_24 : decode cX5_rivals 24 = .ok (.ireturn, 1) := by decide +kernel
theorem dX5_rivals_25 : decode cX5_rivals 25 = .ok (.iconst 0, 1) := by decide +kernel
theorem dX5_rivals_26 : decode cX5_rivals 26 = .ok (.istore_n 3, 1) := by decide +kernel
theorem dX5_rivals_27 : decode cX5_rivals 27 = .ok (.iload_n 3, 1) := by decide +kernel
theorem dX5_rivals_28 : decode cX5_rivals 28 = .ok (.bipush 121, 2) := by decide +kernel
theorem dX5_rivals_30 : decode cX5_rivals 30 = .ok (.if_icmp .ge 60, 3) := by decide +kernel
theorem dX5_rivals_33 : decode cX5_rivals 33 = .ok (.iload_n 3, 1) := by decide +kernel
theorem dX5_rivals_34 : decode cX5_rivals 34 = .ok (.bipush 11, 2) := by decide +kernel
theorem dX5_rivals_36 : decode cX5_rivals 36 = .ok (.idiv, 1) := by decide +kernel
theorem dX5_rivals_37 : decode cX5_rivals 37 = .ok (.istore 4, 2) := by decide +kernel
theorem dX5_rivals_39 : decode cX5_rivals 39 = .ok (.iload_n 3, 1) := by decide +kernel
theorem dX5_rivals_40 : decode cX5_rivals 40 = .ok (.bipush 11, 2) := by decide +kernel
theorem dX5_rivals_42 : decode cX5_rivals 42 = .ok (.irem, 1) := by decide +kernel
theorem dX5_rivals_43 : decode cX5_rivals 43 = .ok (.istore 5, 2) := by decide +kernel
theorem dX5_rivals_45 : decode cX5_rivals 45 = .ok (.aload_n 0, 1) := by decide +kernel
theorem dX5_rivals_46 : decode cX5_rivals 46 = .ok (.getfield 53, 3) := by decide +kernel
theorem dX5_rivals_49 : decode cX5_rivals 49 = .ok (.iload_n 3, 1) := by decide +kernel
theorem dX5_rivals_50 : decode cX5_rivals 50 = .ok (.aload_n 0, 1) := by decide +kernel
theorem dX5_rivals_51 : decode cX5_rivals 51 = .ok (.iload 4, 2) := by decide +kernel
theorem dX5_rivals_53 : decode cX5_rivals 53 = .ok (.bipush 10, 2) := by decide +kernel
theorem dX5_rivals_55 : decode cX5_rivals 55 = .ok (.if_icmp .ne 8, 3) := by decide +kernel
theorem dX5_rivals_58 : decode cX5_rivals 58 = .ok (.bipush (-9), 2) := by decide +kernel
theorem dX5_rivals_60 : decode cX5_rivals 60 = .ok (.goto 5, 3) := by decide +kernel
theorem dX5_rivals_63 : decode cX5_rivals 63 = .ok (.iload 4, 2) := by decide +kernel
theorem dX5_rivals_65 : decode cX5_rivals 65 = .ok (.iload 5, 2) := by decide +kernel
theorem dX5_rivals_67 : decode cX5_rivals 67 = .ok (.bipush 10, 2) := by decide +kernel
theorem dX5_rivals_69 : decode cX5_rivals 69 = .ok (.if_icmp .ne 8, 3) := by decide +kernel
theorem dX5_rivals_72 : decode cX5_rivals 72 = .ok (.bipush (-9), 2) := by decide +kernel
theorem dX5_rivals_74 : decode cX5_rivals 74 = .ok (.goto 5, 3) := by decide +kernel
theorem dX5_rivals_77 : decode cX5_rivals 77 = .ok (.iload 5, 2) := by decide +kernel
theorem dX5_rivals_79 : decode cX5_rivals 79 = .ok (.iload_n 1, 1) := by decide +kernel
theorem dX5_rivals_80 : decode cX5_rivals 80 = .ok (.invokevirtual 173, 3) := by decide +kernel
theorem dX5_rivals_83 : decode cX5_rivals 83 = .ok (.iastore, 1) := by decide +kernel
theorem dX5_rivals_84 : decode cX5_rivals 84 = .ok (.iinc 3 1, 3) := by decide +kernel
theorem dX5_rivals_87 : decode cX5_rivals 87 = .ok (.goto (-60), 3) := by decide +kernel
theorem dX5_rivals_90 : decode cX5_rivals 90 = .ok (.iconst 0, 1) := by decide +kernel
theorem dX5_rivals_91 : decode cX5_rivals 91 = .ok (.istore_n 3, 1) := by decide +kernel
theorem dX5_rivals_92 : decode cX5_rivals 92 = .ok (.bipush (-9), 2) := by decide +kernel
theorem dX5_rivals_94 : decode cX5_rivals 94 = .ok (.istore 4, 2) := by decide +kernel
theorem dX5_rivals_96 : decode cX5_rivals 96 = .ok (.iconst 0, 1) := by decide +kernel
theorem dX5_rivals_97 : decode cX5_rivals 97 = .ok (.istore 5, 2) := by decide +kernel
theorem dX5_rivals_99 : decode cX5_rivals 99 = .ok (.iload 5, 2) := by decide +kernel
theorem dX5_rivals_101 : decode cX5_rivals 101 = .ok (.bipush 121, 2) := by decide +kernel
theorem dX5_rivals_103 : decode cX5_rivals 103 = .ok (.if_icmp .ge 42, 3) := by decide +kernel
theorem dX5_rivals_106 : decode cX5_rivals 106 = .ok (.aload_n 0, 1) := by decide +kernel
theorem dX5_rivals_107 : decode cX5_rivals 107 = .ok (.iload 5, 2) := by decide +kernel
theorem dX5_rivals_109 : decode cX5_rivals 109 = .ok (.bipush 11, 2) := by decide +kernel
theorem dX5_rivals_111 : decode cX5_rivals 111 = .ok (.idiv, 1) := by decide +kernel
theorem dX5_rivals_112 : decode cX5_rivals 112 = .ok (.iload 5, 2) := by decide +kernel
theorem dX5_rivals_114 : decode cX5_rivals 114 = .ok (.bipush 11, 2) := by decide +kernel
theorem dX5_rivals_116 : decode cX5_rivals 116 = .ok (.irem, 1) := by decide +kernel
theorem dX5_rivals_117 : decode cX5_rivals 117 = .ok (.invokevirtual 198, 3) := by decide +kernel
theorem dX5_rivals_120 : decode cX5_rivals 120 = .ok (.ifCond .eq 19, 3) := by decide +kernel
theorem dX5_rivals_123 : decode cX5_rivals 123 = .ok (.iload_n 3, 1) := by decide +kernel
theorem dX5_rivals_124 : decode cX5_rivals 124 = .ok (.ifCond .ne 8, 3) := by decide +kernel
theorem dX5_rivals_127 : decode cX5_rivals 127 = .ok (.iload 5, 2) := by decide +kernel
theorem dX5_rivals_129 : decode cX5_rivals 129 = .ok (.goto 5, 3) := by decide +kernel
theorem dX5_rivals_132 : decode cX5_rivals 132 = .ok (.iload 4, 2) := by decide +kernel
theorem dX5_rivals_134 : decode cX5_rivals 134 = .ok (.istore 4, 2) := by decide +kernel
theorem dX5_rivals_136 : decode cX5_rivals 136 = .ok (.iinc 3 1, 3) := by decide +kernel
theorem dX5_rivals_139 : decode cX5_rivals 139 = .ok (.iinc 5 1, 3) := by decide +kernel
theorem dX5_rivals_142 : decode cX5_rivals 142 = .ok (.goto (-43), 3) := by decide +kernel
theorem dX5_rivals_145 : decode cX5_rivals 145 = .ok (.iload_n 2, 1) := by decide +kernel
theorem dX5_rivals_146 : decode cX5_rivals 146 = .ok (.ifCond .ne 7, 3) := by decide +kernel
theorem dX5_rivals_149 : decode cX5_rivals 149 = .ok (.iload_n 3, 1) := by decide +kernel
theorem dX5_rivals_150 : decode cX5_rivals 150 = .ok (.goto 5, 3) := by decide +kernel
theorem dX5_rivals_153 : decode cX5_rivals 153 = .ok (.iload 4, 2) := by decide +kernel
theorem dX5_rivals_155 : decode cX5_rivals 155 = .ok (.ireturn, 1) := by decide +kernel
theorem dX5_chance_0 : decode cX5_chance 0 = .ok (.aload_n 0, 1) := by decide +kernel
theorem dX5_chance_1 : decode cX5_chance 1 = .ok (.iconst 0, 1) := by decide +kernel
theorem dX5_chance_2 : decode cX5_chance 2 = .ok (.putfield 56, 3) := by decide +kernel
theorem dX5_chance_5 : decode cX5_chance 5 = .ok (.iload_n 1, 1) := by decide +kernel
theorem dX5_chance_6 : decode cX5_chance 6 = .ok (.invokestatic 137, 3) := by decide +kernel
theorem dX5_chance_9 : decode cX5_chance 9 = .ok (.ifCond .ne 22, 3) := by decide +kernel
theorem dX5_chance_12 : decode cX5_chance 12 = .ok (.iload_n 2, 1) := by decide +kernel
theorem dX5_chance_13 : decode cX5_chance 13 = .ok (.invokestatic 143, 3) := by decide +kernel
theorem dX5_chance_16 : decode cX5_chance 16 = .ok (.ifCond .ne 15, 3) := by decide +kernel
theorem dX5_chance_19 : decode cX5_chance 19 = .ok (.iload_n 3, 1) := by decide +kernel
theorem dX5_chance_20 : decode cX5_chance 20 = .ok (.i2l, 1) := by decide +kernel
theorem dX5_chance_21 : decode cX5_chance 21 = .ok (.lconst 0, 1) := by decide +kernel
theorem dX5_chance_22 : decode cX5_chance 22 = .ok (.ldc2_w 177, 3) := by decide +kernel
theorem dX5_chance_25 : decode cX5_chance 25 = .ok (.invokestatic 63, 3) := by decide +kernel
theorem dX5_chance_28 : decode cX5_chance 28 = .ok (.ifCond .ne 6, 3) := by decide +kernel
theorem dX5_chance_31 : decode cX5_chance 31 = .ok (.bipush (-2), 2) := by decide +kernel
theorem dX5_chance_33 : decode cX5_chance 33 = .ok (.ireturn, 1) := by decide +kernel
theorem dX5_chance_34 : decode cX5_chance 34 = .ok (.iconst 1, 1) := by decide +kernel
theorem dX5_chance_35 : decode cX5_chance 35 = .ok (.aload_n 0, 1) := by decide +kernel
theorem dX5_chance_36 : decode cX5_chance 36 = .ok (.getfield 60, 3) := by decide +kernel
theorem dX5_chance_39 : decode cX5_chance 39 = .ok (.ishl, 1) := by decide +kernel
theorem dX5_chance_40 : decode cX5_chance 40 = .ok (.iconst 1, 1) := by decide +kernel
theorem dX5_chance_41 : decode cX5_chance 41 = .ok (.isub, 1) := by decide +kernel
theorem dX5_chance_42 : decode cX5_chance 42 = .ok (.istore 5, 2) := by decide +kernel
theorem dX5_chance_44 : decode cX5_chance 44 = .ok (.iload 5, 2) := by decide +kernel
theorem dX5_chance_46 : decode cX5_chance 46 = .ok (.aload_n 0, 1) := by decide +kernel
theorem dX5_chance_47 : decode cX5_chance 47 = .ok (.getfield 19, 3) := by decide +kernel
theorem dX5_chance_50 : decode cX5_chance 50 = .ok (.iconst 2, 1) := by decide +kernel
theorem dX5_chance_51 : decode cX5_chance 51 = .ok (.iaload, 1) := by decide +kernel
theorem dX5_chance_52 : decode cX5_chance 52 = .ok (.iconst (-1), 1) := by decide +kernel
theorem dX5_chance_53 : decode cX5_chance 53 = .ok (.ixor, 1) := by decide +kernel
theorem dX5_chance_54 : decode cX5_chance 54 = .ok (.iand, 1) := by decide +kernel
theorem dX5_chance_55 : decode cX5_chance 55 = .ok (.istore 6, 2) := by decide +kernel
theorem dX5_chance_57 : decode cX5_chance 57 = .ok (.iconst 0, 1) := by decide +kernel
theorem dX5_chance_58 : decode cX5_chance 58 = .ok (.istore 7, 2) := by decide +kernel
theorem dX5_chance_60 : decode cX5_chance 60 = .ok (.iconst 0, 1) := by decide +kernel
theorem dX5_chance_61 : decode cX5_chance 61 = .ok (.istore 8, 2) := by decide +kernel
theorem dX5_chance_63 : decode cX5_chance 63 = .ok (.iconst 0, 1) := by decide +kernel
theorem dX5_chance_64 : decode cX5_chance 64 = .ok (.istore 9, 2) := by decide +kernel
theorem dX5_chance_66 : decode cX5_chance 66 = .ok (.iload 9, 2) := by decide +kernel
theorem dX5_chance_68 : decode cX5_chance 68 = .ok (.iload 5, 2) := by decide +kernel
theorem dX5_chance_70 : decode cX5_chance 70 = .ok (.if_icmp .gt 126, 3) := by decide +kernel
theorem dX5_chance_73 : decode cX5_chance 73 = .ok (.iload 9, 2) := by decide +kernel
theorem dX5_chance_75 : decode cX5_chance 75 = .ok (.iload 6, 2) := by decide +kernel
theorem dX5_chance_77 : decode cX5_chance 77 = .ok (.iconst (-1), 1) := by decide +kernel
theorem dX5_chance_78 : decode cX5_chance 78 = .ok (.ixor, 1) := by decide +kernel
theorem dX5_chance_79 : decode cX5_chance 79 = .ok (.iand, 1) := by decide +kernel
theorem dX5_chance_80 : decode cX5_chance 80 = .ok (.ifCond .ne 110, 3) := by decide +kernel
theorem dX5_chance_83 : decode cX5_chance 83 = .ok (.iconst 1, 1) := by decide +kernel
theorem dX5_chance_84 : decode cX5_chance 84 = .ok (.istore 10, 2) := by decide +kernel
theorem dX5_chance_86 : decode cX5_chance 86 = .ok (.iconst 0, 1) := by decide +kernel
theorem dX5_chance_87 : decode cX5_chance 87 = .ok (.istore 11, 2) := by decide +kernel
theorem dX5_chance_89 : decode cX5_chance 89 = .ok (.iload 11, 2) := by decide +kernel
theorem dX5_chance_91 : decode cX5_chance 91 = .ok (.aload_n 0, 1) := by decide +kernel
theorem dX5_chance_92 : decode cX5_chance 92 = .ok (.getfield 60, 3) := by decide +kernel
theorem dX5_chance_95 : decode cX5_chance 95 = .ok (.if_icmp .ge 46, 3) := by decide +kernel
theorem dX5_chance_98 : decode cX5_chance 98 = .ok (.iload 10, 2) := by decide +kernel
theorem dX5_chance_100 : decode cX5_chance 100 = .ok (.iload 6, 2) := by decide +kernel
theorem dX5_chance_102 : decode cX5_chance 102 = .ok (.iload 11, 2) := by decide +kernel
theorem dX5_chance_104 : decode cX5_chance 104 = .ok (.invokestatic 110, 3) := by decide +kernel
theorem dX5_chance_107 : decode cX5_chance 107 = .ok (.ifCond .ne 7, 3) := by decide +kernel
theorem dX5_chance_110 : decode cX5_chance 110 = .ok (.iconst 1, 1) := by decide +kernel
theorem dX5_chance_111 : decode cX5_chance 111 = .ok (.goto 21, 3) := by decide +kernel
theorem dX5_chance_114 : decode cX5_chance 114 = .ok (.iload 9, 2) := by decide +kernel
theorem dX5_chance_116 : decode cX5_chance 116 = .ok (.iload 11, 2) := by decide +kernel
theorem dX5_chance_118 : decode cX5_chance 118 = .ok (.invokestatic 110, 3) := by decide +kernel
theorem dX5_chance_121 : decode cX5_chance 121 = .ok (.ifCond .eq 7, 3) := by decide +kernel
theorem dX5_chance_124 : decode cX5_chance 124 = .ok (.iload_n 3, 1) := by decide +kernel
theorem dX5_chance_125 : decode cX5_chance 125 = .ok (.goto 7, 3) := by decide +kernel
theorem dX5_chance_128 : decode cX5_chance 128 = .ok (.bipush 10, 2) := by decide +kernel
theorem dX5_chance_130 : decode cX5_chance 130 = .ok (.iload_n 3, 1) := by decide +kernel
theorem dX5_chance_131 : decode cX5_chance 131 = .ok (.isub, 1) := by decide +kernel
theorem dX5_chance_132 : decode cX5_chance 132 = .ok (.imul, 1) := by decide +kernel
theorem dX5_chance_133 : decode cX5_chance 133 = .ok (.istore 10, 2) := by decide +kernel
theorem dX5_chance_135 : decode cX5_chance 135 = .ok (.iinc 11 1, 3) := by decide +kernel
theorem dX5_chance_138 : decode cX5_chance 138 = .ok (.goto (-49), 3) := by decide +kernel
theorem dX5_chance_141 : decode cX5_chance 141 = .ok (.aload_n 0, 1) := by decide +kernel
theorem dX5_chance_142 : decode cX5_chance 142 = .ok (.invokevirtual 150, 3) := by decide +kernel
theorem dX5_chance_145 : decode cX5_chance 145 = .ok (.aload_n 0, 1) := by decide +kernel
theorem dX5_chance_146 : decode cX5_chance 146 = .ok (.getfield 22, 3) := by decide +kernel
theorem dX5_chance_149 : decode cX5_chance 149 = .ok (.iconst 2, 1) := by decide +kernel
theorem dX5_chance_150 : decode cX5_chance 150 = .ok (.dup2, 1) := by decide +kernel
theorem dX5_chance_151 : decode cX5_chance 151 = .ok (.iaload, 1) := by decide +kernel
theorem dX5_chance_152 : decode cX5_chance 152 = .ok (.iload 9, 2) := by decide +kernel
theorem dX5_chance_154 : decode cX5_chance 154 = .ok (.ior, 1) := by decide +kernel
theorem dX5_chance_155 : decode cX5_chance 155 = .ok (.iastore, 1) := by decide +kernel
theorem dX5_chance_156 : decode cX5_chance 156 = .ok (.iload 8, 2) := by decide +kernel
theorem dX5_chance_158 : decode cX5_chance 158 = .ok (.iload 10, 2) := by decide +kernel
theorem dX5_chance_160 : decode cX5_chance 160 = .ok (.iadd, 1) := by decide +kernel
theorem dX5_chance_161 : decode cX5_chance 161 = .ok (.istore 8, 2) := by decide +kernel
theorem dX5_chance_163 : decode cX5_chance 163 = .ok (.iload 7, 2) := by decide +kernel
theorem dX5_chance_165 : decode cX5_chance 165 = .ok (.aload_n 0, 1) := by decide +kernel
theorem dX5_chance_166 : decode cX5_chance 166 = .ok (.aload_n 0, 1) := by decide +kernel
theorem dX5_chance_167 : decode cX5_chance 167 = .ok (.getfield 22, 3) := by decide +kernel
theorem dX5_chance_170 : decode cX5_chance 170 = .ok (.iload_n 2, 1) := by decide +kernel
theorem dX5_chance_171 : decode cX5_chance 171 = .ok (.invokevirtual 146, 3) := by decide +kernel
theorem dX5_chance_174 : decode cX5_chance 174 = .ok (.iload_n 1, 1) := by decide +kernel
theorem dX5_chance_175 : decode cX5_chance 175 = .ok (.invokestatic 110, 3) := by decide +kernel
theorem dX5_chance_178 : decode cX5_chance 178 = .ok (.ifCond .eq 8, 3) := by decide +kernel
theorem dX5_chance_181 : decode cX5_chance 181 = .ok (.iload 10, 2) := by decide +kernel
theorem dX5_chance_183 : decode cX5_chance 183 = .ok (.goto 4, 3) := by decide +kernel
theorem dX5_chance_186 : decode cX5_chance 186 = .ok (.iconst 0, 1) := by decide +kernel
theorem dX5_chance_187 : decode cX5_chance 187 = .ok (.iadd, 1) := by decide +kernel
theorem dX5_chance_188 : decode cX5_chance 188 = .ok (.istore 7, 2) := by decide +kernel
theorem dX5_chance_190 : decode cX5_chance 190 = .ok (.iinc 9 1, 3) := by decide +kernel
theorem dX5_chance_193 : decode cX5_chance 193 = .ok (.goto (-127), 3) := by decide +kernel
theorem dX5_chance_196 : decode cX5_chance 196 = .ok (.iload 7, 2) := by decide +kernel
theorem dX5_chance_198 : decode cX5_chance 198 = .ok (.iload 8, 2) := by decide +kernel
theorem dX5_chance_200 : decode cX5_chance 200 = .ok (.iload 4, 2) := by decide +kernel
theorem dX5_chance_202 : decode cX5_chance 202 = .ok (.invokestatic 163, 3) := by decide +kernel
theorem dX5_chance_205 : decode cX5_chance 205 = .ok (.ireturn, 1) := by decide +kernel
theorem dX5_seed_0 : decode cX5_seed 0 = .ok (.aload_n 0, 1) := by decide +kernel
theorem dX5_seed_1 : decode cX5_seed 1 = .ok (.iconst 0, 1) := by decide +kernel
theorem dX5_seed_2 : decode cX5_seed 2 = .ok (.putfield 56, 3) := by decide +kernel
theorem dX5_seed_5 : decode cX5_seed 5 = .ok (.aload_n 0, 1) := by decide +kernel
theorem dX5_seed_6 : decode cX5_seed 6 = .ok (.getfield 201, 3) := by decide +kernel
theorem dX5_seed_9 : decode cX5_seed 9 = .ok (.lstore_n 3, 1) := by decide +kernel
theorem dX5_seed_10 : decode cX5_seed 10 = .ok (.aload_n 0, 1) := by decide +kernel
theorem dX5_seed_11 : decode cX5_seed 11 = .ok (.lload_n 1, 1) := by decide +kernel
theorem dX5_seed_12 : decode cX5_seed 12 = .ok (.putfield 201, 3) := by decide +kernel
theorem dX5_seed_15 : decode cX5_seed 15 = .ok (.lload_n 3, 1) := by decide +kernel
theorem dX5_seed_16 : decode cX5_seed 16 = .ok (.lreturn, 1) := by decide +kernel
theorem dX5_days_0 : decode cX5_days 0 = .ok (.aload_n 0, 1) := by decide +kernel
theorem dX5_days_1 : decode cX5_days 1 = .ok (.iconst 0, 1) := by decide +kernel
theorem dX5_days_2 : decode cX5_days 2 = .ok (.putfield 56, 3) := by decide +kernel
theorem dX5_days_5 : decode cX5_days 5 = .ok (.iload_n 1, 1) := by decide +kernel
theorem dX5_days_6 : decode cX5_days 6 = .ok (.i2l, 1) := by decide +kernel
theorem dX5_days_7 : decode cX5_days 7 = .ok (.lconst 1, 1) := by decide +kernel
theorem dX5_days_8 : decode cX5_days 8 = .ok (.ldc2_w 205, 3) := by decide +kernel
theorem dX5_days_11 : decode cX5_days 11 = .ok (.invokestatic 63, 3) := by decide +kernel
theorem dX5_days_14 : decode cX5_days 14 = .ok (.ifCond .ne 6, 3) := by decide +kernel
theorem dX5_days_17 : decode cX5_days 17 = .ok (.bipush (-2), 2) := by decide +kernel
theorem dX5_days_19 : decode cX5_days 19 = .ok (.ireturn, 1) := by decide +kernel
theorem dX5_days_20 : decode cX5_days 20 = .ok (.iconst 0, 1) := by decide +kernel
theorem dX5_days_21 : decode cX5_days 21 = .ok (.istore_n 2, 1) := by decide +kernel
theorem dX5_days_22 : decode cX5_days 22 = .ok (.iconst 0, 1) := by decide +kernel
theorem dX5_days_23 : decode cX5_days 23 = .ok (.istore_n 3, 1) := by decide +kernel
theorem dX5_days_24 : decode cX5_days 24 = .ok (.iload_n 3, 1) := by decide +kernel
theorem dX5_days_25 : decode cX5_days 25 = .ok (.iload_n 1, 1) := by decide +kernel
theorem dX5_days_26 : decode cX5_days 26 = .ok (.if_icmp .ge 89, 3) := by decide +kernel
theorem dX5_days_29 : decode cX5_days 29 = .ok (.aload_n 0, 1) := by decide +kernel
theorem dX5_days_30 : decode cX5_days 30 = .ok (.aload_n 0, 1) := by decide +kernel
theorem dX5_days_31 : decode cX5_days 31 = .ok (.getfield 201, 3) := by decide +kernel
theorem dX5_days_34 : decode cX5_days 34 = .ok (.ldc2_w 207, 3) := by decide +kernel
theorem dX5_days_37 : decode cX5_days 37 = .ok (.lmul, 1) := by decide +kernel
theorem dX5_days_38 : decode cX5_days 38 = .ok (.ldc2_w 209, 3) := by decide +kernel
theorem dX5_days_41 : decode cX5_days 41 = .ok (.ladd, 1) := by decide +kernel
theorem dX5_days_42 : decode cX5_days 42 = .ok (.putfield 201, 3) := by decide +kernel
theorem dX5_days_45 : decode cX5_days 45 = .ok (.aload_n 0, 1) := by decide +kernel
theorem dX5_days_46 : decode cX5_days 46 = .ok (.invokevirtual 150, 3) := by decide +kernel
theorem dX5_days_49 : decode cX5_days 49 = .ok (.aload_n 0, 1) := by decide +kernel
theorem dX5_days_50 : decode cX5_days 50 = .ok (.getfield 22, 3) := by decide +kernel
theorem dX5_days_53 : decode cX5_days 53 = .ok (.iconst 2, 1) := by decide +kernel
theorem dX5_days_54 : decode cX5_days 54 = .ok (.dup2, 1) := by decide +kernel
theorem dX5_days_55 : decode cX5_days 55 = .ok (.iaload, 1) := by decide +kernel
theorem dX5_days_56 : decode cX5_days 56 = .ok (.aload_n 0, 1) := by decide +kernel
theorem dX5_days_57 : decode cX5_days 57 = .ok (.getfield 201, 3) := by decide +kernel
theorem dX5_days_60 : decode cX5_days 60 = .ok (.bipush 33, 2) := by decide +kernel
theorem dX5_days_62 : decode cX5_days 62 = .ok (.lushr, 1) := by decide +kernel
theorem dX5_days_63 : decode cX5_days 63 = .ok (.ldc2_w 211, 3) := by decide +kernel
theorem dX5_days_66 : decode cX5_days 66 = .ok (.lrem, 1) := by decide +kernel
theorem dX5_days_67 : decode cX5_days 67 = .ok (.l2i, 1) := by decide +kernel
theorem dX5_days_68 : decode cX5_days 68 = .ok (.ior, 1) := by decide +kernel
theorem dX5_days_69 : decode cX5_days 69 = .ok (.iastore, 1) := by decide +kernel
theorem dX5_days_70 : decode cX5_days 70 = .ok (.iload_n 2, 1) := by decide +kernel
theorem dX5_days_71 : decode cX5_days 71 = .ok (.aload_n 0, 1) := by decide +kernel
theorem dX5_days_72 : decode cX5_days 72 = .ok (.aload_n 0, 1) := by decide +kernel
theorem dX5_days_73 : decode cX5_days 73 = .ok (.getfield 22, 3) := by decide +kernel
theorem dX5_days_76 : decode cX5_days 76 = .ok (.aload_n 0, 1) := by decide +kernel
theorem dX5_days_77 : decode cX5_days 77 = .ok (.getfield 19, 3) := by decide +kernel
theorem dX5_days_80 : decode cX5_days 80 = .ok (.iconst 1, 1) := by decide +kernel
theorem dX5_days_81 : decode cX5_days 81 = .ok (.iaload, 1) := by decide +kernel
theorem dX5_days_82 : decode cX5_days 82 = .ok (.iload_n 3, 1) := by decide +kernel
theorem dX5_days_83 : decode cX5_days 83 = .ok (.iadd, 1) := by decide +kernel
theorem dX5_days_84 : decode cX5_days 84 = .ok (.bipush 10, 2) := by decide +kernel
theorem dX5_days_86 : decode cX5_days 86 = .ok (.irem, 1) := by decide +kernel
theorem dX5_days_87 : decode cX5_days 87 = .ok (.invokevirtual 146, 3) := by decide +kernel
theorem dX5_days_90 : decode cX5_days 90 = .ok (.aload_n 0, 1) := by decide +kernel
theorem dX5_days_91 : decode cX5_days 91 = .ok (.getfield 19, 3) := by decide +kernel
theorem dX5_days_94 : decode cX5_days 94 = .ok (.iconst 0, 1) := by decide +kernel
theorem dX5_days_95 : decode cX5_days 95 = .ok (.iaload, 1) := by decide +kernel
theorem dX5_days_96 : decode cX5_days 96 = .ok (.invokestatic 110, 3) := by decide +kernel
theorem dX5_days_99 : decode cX5_days 99 = .ok (.ifCond .eq 7, 3) := by decide +kernel
theorem dX5_days_102 : decode cX5_days 102 = .ok (.iconst 1, 1) := by decide +kernel
theorem dX5_days_103 : decode cX5_days 103 = .ok (.goto 4, 3) := by decide +kernel
theorem dX5_days_106 : decode cX5_days 106 = .ok (.iconst 0, 1) := by decide +kernel
theorem dX5_days_107 : decode cX5_days 107 = .ok (.iadd, 1) := by decide +kernel
theorem dX5_days_108 : decode cX5_days 108 = .ok (.istore_n 2, 1) := by decide +kernel
theorem dX5_days_109 : decode cX5_days 109 = .ok (.iinc 3 1, 3) := by decide +kernel
theorem dX5_days_112 : decode cX5_days 112 = .ok (.goto (-88), 3) := by decide +kernel
theorem dX5_days_115 : decode cX5_days 115 = .ok (.iload_n 2, 1) := by decide +kernel
theorem dX5_days_116 : decode cX5_days 116 = .ok (.ireturn, 1) := by decide +kernel
theorem dX5_keep_0 : decode cX5_keep 0 = .ok (.aload_n 0, 1) := by decide +kernel
theorem dX5_keep_1 : decode cX5_keep 1 = .ok (.iconst 0, 1) := by decide +kernel
theorem dX5_keep_2 : decode cX5_keep 2 = .ok (.putfield 56, 3) := by decide +kernel
theorem dX5_keep_5 : decode cX5_keep 5 = .ok (.iload_n 1, 1) := by decide +kernel
theorem dX5_keep_6 : decode cX5_keep 6 = .ok (.i2l, 1) := by decide +kernel
theorem dX5_keep_7 : decode cX5_keep 7 = .ok (.lconst 0, 1) := by decide +kernel
theorem dX5_keep_8 : decode cX5_keep 8 = .ok (.lconst 1, 1) := by decide +kernel
theorem dX5_keep_9 : decode cX5_keep 9 = .ok (.invokestatic 63, 3) := by decide +kernel
theorem dX5_keep_12 : decode cX5_keep 12 = .ok (.ifCond .ne 5, 3) := by decide +kernel
theorem dX5_keep_15 : decode cX5_keep 15 = .ok (.iconst (-1), 1) := by decide +kernel
theorem dX5_keep_16 : decode cX5_keep 16 = .ok (.ireturn, 1) := by decide +kernel
theorem dX5_keep_17 : decode cX5_keep 17 = .ok (.aload_n 0, 1) := by decide +kernel
theorem dX5_keep_18 : decode cX5_keep 18 = .ok (.getfield 31, 3) := by decide +kernel
theorem dX5_keep_21 : decode cX5_keep 21 = .ok (.iload_n 1, 1) := by decide +kernel
theorem dX5_keep_22 : decode cX5_keep 22 = .ok (.iconst 1, 1) := by decide +kernel
theorem dX5_keep_23 : decode cX5_keep 23 = .ok (.bastore, 1) := by decide +kernel
theorem dX5_keep_24 : decode cX5_keep 24 = .ok (.iconst 0, 1) := by decide +kernel
theorem dX5_keep_25 : decode cX5_keep 25 = .ok (.istore_n 2, 1) := by decide +kernel
theorem dX5_keep_26 : decode cX5_keep 26 = .ok (.iload_n 2, 1) := by decide +kernel
theorem dX5_keep_27 : decode cX5_keep 27 = .ok (.bipush 8, 2) := by decide +kernel
theorem dX5_keep_29 : decode cX5_keep 29 = .ok (.if_icmp .ge 26, 3) := by decide +kernel
theorem dX5_keep_32 : decode cX5_keep 32 = .ok (.aload_n 0, 1) := by decide +kernel
theorem dX5_keep_33 : decode cX5_keep 33 = .ok (.getfield 28, 3) := by decide +kernel
theorem dX5_keep_36 : decode cX5_keep 36 = .ok (.bipush 8, 2) := by decide +kernel
theorem dX5_keep_38 : decode cX5_keep 38 = .ok (.iload_n 1, 1) := by decide +kernel
