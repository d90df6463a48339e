theorem dX0_init_0 : decode cX0_init 0 = .ok (.aload_n 0, 1) := by decide +kernel
theorem dX0_init_1 : decode cX0_init 1 = .ok (.invokespecial 3, 3) := by decide +kernel
theorem dX0_init_4 : decode cX0_init 4 = .ok (.aload_n 0, 1) := by decide +kernel
theorem dX0_init_5 : decode cX0_init 5 = .ok (.iconst 0, 1) := by decide +kernel
theorem dX0_init_6 : decode cX0_init 6 = .ok (.putfield 9, 3) := by decide +kernel
theorem dX0_init_9 : decode cX0_init 9 = .ok (.aload_n 0, 1) := by decide +kernel
theorem dX0_init_10 : decode cX0_init 10 = .ok (.iconst 0, 1) := by decide +kernel
theorem dX0_init_11 : decode cX0_init 11 = .ok (.putfield 15, 3) := by decide +kernel
theorem dX0_init_14 : decode cX0_init 14 = .ok (.aload_n 0, 1) := by decide +kernel
theorem dX0_init_15 : decode cX0_init 15 = .ok (.iconst 0, 1) := by decide +kernel
theorem dX0_init_16 : decode cX0_init 16 = .ok (.putfield 18, 3) := by decide +kernel
theorem dX0_init_19 : decode cX0_init 19 = .ok (.aload_n 0, 1) := by decide +kernel
theorem dX0_init_20 : decode cX0_init 20 = .ok (.bipush 10, 2) := by decide +kernel
theorem dX0_init_22 : decode cX0_init 22 = .ok (.putfield 21, 3) := by decide +kernel
theorem dX0_init_25 : decode cX0_init 25 = .ok (.aload_n 0, 1) := by decide +kernel
theorem dX0_init_26 : decode cX0_init 26 = .ok (.bipush 10, 2) := by decide +kernel
theorem dX0_init_28 : decode cX0_init 28 = .ok (.putfield 24, 3) := by decide +kernel
theorem dX0_init_31 : decode cX0_init 31 = .ok (.aload_n 0, 1) := by decide +kernel
theorem dX0_init_32 : decode cX0_init 32 = .ok (.iconst 0, 1) := by decide +kernel
theorem dX0_init_33 : decode cX0_init 33 = .ok (.putfield 27, 3) := by decide +kernel
theorem dX0_init_36 : decode cX0_init 36 = .ok (.aload_n 0, 1) := by decide +kernel
theorem dX0_init_37 : decode cX0_init 37 = .ok (.iconst 1, 1) := by decide +kernel
theorem dX0_init_38 : decode cX0_init 38 = .ok (.putfield 30, 3) := by decide +kernel
theorem dX0_init_41 : decode cX0_init 41 = .ok (.return_, 1) := by decide +kernel
theorem dX0_begin_0 : decode cX0_begin 0 = .ok (.aload_n 0, 1) := by decide +kernel
theorem dX0_begin_1 : decode cX0_begin 1 = .ok (.iload_n 1, 1) := by decide +kernel
theorem dX0_begin_2 : decode cX0_begin 2 = .ok (.putfield 9, 3) := by decide +kernel
theorem dX0_begin_5 : decode cX0_begin 5 = .ok (.aload_n 0, 1) := by decide +kernel
theorem dX0_begin_6 : decode cX0_begin 6 = .ok (.iconst 0, 1) := by decide +kernel
theorem dX0_begin_7 : decode cX0_begin 7 = .ok (.putfield 15, 3) := by decide +kernel
theorem dX0_begin_10 : decode cX0_begin 10 = .ok (.aload_n 0, 1) := by decide +kernel
theorem dX0_begin_11 : decode cX0_begin 11 = .ok (.iconst 0, 1) := by decide +kernel
theorem dX0_begin_12 : decode cX0_begin 12 = .ok (.putfield 18, 3) := by decide +kernel
theorem dX0_begin_15 : decode cX0_begin 15 = .ok (.aload_n 0, 1) := by decide +kernel
theorem dX0_begin_16 : decode cX0_begin 16 = .ok (.bipush 10, 2) := by decide +kernel
theorem dX0_begin_18 : decode cX0_begin 18 = .ok (.putfield 21, 3) := by decide +kernel
theorem dX0_begin_21 : decode cX0_begin 21 = .ok (.aload_n 0, 1) := by decide +kernel
theorem dX0_begin_22 : decode cX0_begin 22 = .ok (.bipush 10, 2) := by decide +kernel
theorem dX0_begin_24 : decode cX0_begin 24 = .ok (.putfield 24, 3) := by decide +kernel
theorem dX0_begin_27 : decode cX0_begin 27 = .ok (.aload_n 0, 1) := by decide +kernel
theorem dX0_begin_28 : decode cX0_begin 28 = .ok (.iload_n 2, 1) := by decide +kernel
theorem dX0_begin_29 : decode cX0_begin 29 = .ok (.putfield 27, 3) := by decide +kernel
theorem dX0_begin_32 : decode cX0_begin 32 = .ok (.aload_n 0, 1) := by decide +kernel
theorem dX0_begin_33 : decode cX0_begin 33 = .ok (.iload_n 3, 1) := by decide +kernel
theorem dX0_begin_34 : decode cX0_begin 34 = .ok (.putfield 30, 3) := by decide +kernel
theorem dX0_begin_37 : decode cX0_begin 37 = .ok (.return_, 1) := by decide +kernel
theorem dX0_hammerCount_0 : decode cX0_hammerCount 0 = .ok (.aload_n 0, 1) := by decide +kernel
theorem dX0_hammerCount_1 : decode cX0_hammerCount 1 = .ok (.getfield 21, 3) := by decide +kernel
theorem dX0_hammerCount_4 : decode cX0_hammerCount 4 = .ok (.bipush 10, 2) := by decide +kernel
theorem dX0_hammerCount_6 : decode cX0_hammerCount 6 = .ok (.if_icmp .ne 7, 3) := by decide +kernel
theorem dX0_hammerCount_9 : decode cX0_hammerCount 9 = .ok (.iconst 0, 1) := by decide +kernel
theorem dX0_hammerCount_10 : decode cX0_hammerCount 10 = .ok (.goto 4, 3) := by decide +kernel
theorem dX0_hammerCount_13 : decode cX0_hammerCount 13 = .ok (.iconst 1, 1) := by decide +kernel
theorem dX0_hammerCount_14 : decode cX0_hammerCount 14 = .ok (.aload_n 0, 1) := by decide +kernel
theorem dX0_hammerCount_15 : decode cX0_hammerCount 15 = .ok (.getfield 24, 3) := by decide +kernel
theorem dX0_hammerCount_18 : decode cX0_hammerCount 18 = .ok (.bipush 10, 2) := by decide +kernel
theorem dX0_hammerCount_20 : decode cX0_hammerCount 20 = .ok (.if_icmp .ne 7, 3) := by decide +kernel
theorem dX0_hammerCount_23 : decode cX0_hammerCount 23 = .ok (.iconst 0, 1) := by decide +kernel
theorem dX0_hammerCount_24 : decode cX0_hammerCount 24 = .ok (.goto 4, 3) := by decide +kernel
theorem dX0_hammerCount_27 : decode cX0_hammerCount 27 = .ok (.iconst 1, 1) := by decide +kernel
theorem dX0_hammerCount_28 : decode cX0_hammerCount 28 = .ok (.iadd, 1) := by decide +kernel
theorem dX0_hammerCount_29 : decode cX0_hammerCount 29 = .ok (.ireturn, 1) := by decide +kernel
theorem dX0_putHammer_0 : decode cX0_putHammer 0 = .ok (.aload_n 0, 1) := by decide +kernel
theorem dX0_putHammer_1 : decode cX0_putHammer 1 = .ok (.getfield 21, 3) := by decide +kernel
theorem dX0_putHammer_4 : decode cX0_putHammer 4 = .ok (.bipush 10, 2) := by decide +kernel
theorem dX0_putHammer_6 : decode cX0_putHammer 6 = .ok (.if_icmp .ne 11, 3) := by decide +kernel
theorem dX0_putHammer_9 : decode cX0_putHammer 9 = .ok (.aload_n 0, 1) := by decide +kernel
theorem dX0_putHammer_10 : decode cX0_putHammer 10 = .ok (.iload_n 1, 1) := by decide +kernel
theorem dX0_putHammer_11 : decode cX0_putHammer 11 = .ok (.putfield 21, 3) := by decide +kernel
theorem dX0_putHammer_14 : decode cX0_putHammer 14 = .ok (.goto 8, 3) := by decide +kernel
theorem dX0_putHammer_17 : decode cX0_putHammer 17 = .ok (.aload_n 0, 1) := by decide +kernel
theorem dX0_putHammer_18 : decode cX0_putHammer 18 = .ok (.iload_n 1, 1) := by decide +kernel
theorem dX0_putHammer_19 : decode cX0_putHammer 19 = .ok (.putfield 24, 3) := by decide +kernel
theorem dX0_putHammer_22 : decode cX0_putHammer 22 = .ok (.return_, 1) := by decide +kernel
theorem dX0_takeHammer_0 : decode cX0_takeHammer 0 = .ok (.aload_n 0, 1) := by decide +kernel
theorem dX0_takeHammer_1 : decode cX0_takeHammer 1 = .ok (.getfield 21, 3) := by decide +kernel
theorem dX0_takeHammer_4 : decode cX0_takeHammer 4 = .ok (.iload_n 1, 1) := by decide +kernel
theorem dX0_takeHammer_5 : decode cX0_takeHammer 5 = .ok (.if_icmp .ne 11, 3) := by decide +kernel
theorem dX0_takeHammer_8 : decode cX0_takeHammer 8 = .ok (.aload_n 0, 1) := by decide +kernel
theorem dX0_takeHammer_9 : decode cX0_takeHammer 9 = .ok (.aload_n 0, 1) := by decide +kernel
theorem dX0_takeHammer_10 : decode cX0_takeHammer 10 = .ok (.getfield 24, 3) := by decide +kernel
theorem dX0_takeHammer_13 : decode cX0_takeHammer 13 = .ok (.putfield 21, 3) := by decide +kernel
theorem dX0_takeHammer_16 : decode cX0_takeHammer 16 = .ok (.aload_n 0, 1) := by decide +kernel
theorem dX0_takeHammer_17 : decode cX0_takeHammer 17 = .ok (.bipush 10, 2) := by decide +kernel
theorem dX0_takeHammer_19 : decode cX0_takeHammer 19 = .ok (.putfield 24, 3) := by decide +kernel
theorem dX0_takeHammer_22 : decode cX0_takeHammer 22 = .ok (.return_, 1) := by decide +kernel
theorem dX0_packed_0 : decode cX0_packed 0 = .ok (.aload_n 0, 1) := by decide +kernel
theorem dX0_packed_1 : decode cX0_packed 1 = .ok (.getfield 9, 3) := by decide +kernel
theorem dX0_packed_4 : decode cX0_packed 4 = .ok (.aload_n 0, 1) := by decide +kernel
theorem dX0_packed_5 : decode cX0_packed 5 = .ok (.getfield 15, 3) := by decide +kernel
theorem dX0_packed_8 : decode cX0_packed 8 = .ok (.iconst 4, 1) := by decide +kernel
theorem dX0_packed_9 : decode cX0_packed 9 = .ok (.ishl, 1) := by decide +kernel
theorem dX0_packed_10 : decode cX0_packed 10 = .ok (.ior, 1) := by decide +kernel
theorem dX0_packed_11 : decode cX0_packed 11 = .ok (.aload_n 0, 1) := by decide +kernel
theorem dX0_packed_12 : decode cX0_packed 12 = .ok (.getfield 18, 3) := by decide +kernel
theorem dX0_packed_15 : decode cX0_packed 15 = .ok (.bipush 8, 2) := by decide +kernel
theorem dX0_packed_17 : decode cX0_packed 17 = .ok (.ishl, 1) := by decide +kernel
theorem dX0_packed_18 : decode cX0_packed 18 = .ok (.ior, 1) := by decide +kernel
theorem dX0_packed_19 : decode cX0_packed 19 = .ok (.aload_n 0, 1) := by decide +kernel
theorem dX0_packed_20 : decode cX0_packed 20 = .ok (.getfield 21, 3) := by decide +kernel
theorem dX0_packed_23 : decode cX0_packed 23 = .ok (.bipush 14, 2) := by decide +kernel
theorem dX0_packed_25 : decode cX0_packed 25 = .ok (.ishl, 1) := by decide +kernel
theorem dX0_packed_26 : decode cX0_packed 26 = .ok (.ior, 1) := by decide +kernel
theorem dX0_packed_27 : decode cX0_packed 27 = .ok (.aload_n 0, 1) := by decide +kernel
theorem dX0_packed_28 : decode cX0_packed 28 = .ok (.getfield 24, 3) := by decide +kernel
theorem dX0_packed_31 : decode cX0_packed 31 = .ok (.bipush 18, 2) := by decide +kernel
theorem dX0_packed_33 : decode cX0_packed 33 = .ok (.ishl, 1) := by decide +kernel
theorem dX0_packed_34 : decode cX0_packed 34 = .ok (.ior, 1) := by decide +kernel
theorem dX0_packed_35 : decode cX0_packed 35 = .ok (.aload_n 0, 1) := by decide +kernel
theorem dX0_packed_36 : decode cX0_packed 36 = .ok (.getfield 27, 3) := by decide +kernel
theorem dX0_packed_39 : decode cX0_packed 39 = .ok (.bipush 22, 2) := by decide +kernel
theorem dX0_packed_41 : decode cX0_packed 41 = .ok (.ishl, 1) := by decide +kernel
theorem dX0_packed_42 : decode cX0_packed 42 = .ok (.ior, 1) := by decide +kernel
theorem dX0_packed_43 : decode cX0_packed 43 = .ok (.aload_n 0, 1) := by decide +kernel
theorem dX0_packed_44 : decode cX0_packed 44 = .ok (.getfield 30, 3) := by decide +kernel
theorem dX0_packed_47 : decode cX0_packed 47 = .ok (.bipush 25, 2) := by decide +kernel
theorem dX0_packed_49 : decode cX0_packed 49 = .ok (.ishl, 1) := by decide +kernel
theorem dX0_packed_50 : decode cX0_packed 50 = .ok (.ior, 1) := by decide +kernel
theorem dX0_packed_51 : decode cX0_packed 51 = .ok (.ireturn, 1) := by decide +kernel
theorem dX0_unpack_0 : decode cX0_unpack 0 = .ok (.aload_n 0, 1) := by decide +kernel
theorem dX0_unpack_1 : decode cX0_unpack 1 = .ok (.iload_n 1, 1) := by decide +kernel
theorem dX0_unpack_2 : decode cX0_unpack 2 = .ok (.bipush 15, 2) := by decide +kernel
theorem dX0_unpack_4 : decode cX0_unpack 4 = .ok (.iand, 1) := by decide +kernel
theorem dX0_unpack_5 : decode cX0_unpack 5 = .ok (.putfield 9, 3) := by decide +kernel
theorem dX0_unpack_8 : decode cX0_unpack 8 = .ok (.aload_n 0, 1) := by decide +kernel
theorem dX0_unpack_9 : decode cX0_unpack 9 = .ok (.iload_n 1, 1) := by decide +kernel
theorem dX0_unpack_10 : decode cX0_unpack 10 = .ok (.iconst 4, 1) := by decide +kernel
theorem dX0_unpack_11 : decode cX0_unpack 11 = .ok (.ishr, 1) := by decide +kernel
theorem dX0_unpack_12 : decode cX0_unpack 12 = .ok (.bipush 15, 2) := by decide +kernel
theorem dX0_unpack_14 : decode cX0_unpack 14 = .ok (.iand, 1) := by decide +kernel
theorem dX0_unpack_15 : decode cX0_unpack 15 = .ok (.putfield 15, 3) := by decide +kernel
theorem dX0_unpack_18 : decode cX0_unpack 18 = .ok (.aload_n 0, 1) := by decide +kernel
theorem dX0_unpack_19 : decode cX0_unpack 19 = .ok (.iload_n 1, 1) := by decide +kernel
theorem dX0_unpack_20 : decode cX0_unpack 20 = .ok (.bipush 8, 2) := by decide +kernel
theorem dX0_unpack_22 : decode cX0_unpack 22 = .ok (.ishr, 1) := by decide +kernel
theorem dX0_unpack_23 : decode cX0_unpack 23 = .ok (.bipush 63, 2) := by decide +kernel
theorem dX0_unpack_25 : decode cX0_unpack 25 = .ok (.iand, 1) := by decide +kernel
theorem dX0_unpack_26 : decode cX0_unpack 26 = .ok (.putfield 18, 3) := by decide +kernel
theorem dX0_unpack_29 : decode cX0_unpack 29 = .ok (.aload_n 0, 1) := by decide +kernel
theorem dX0_unpack_30 : decode cX0_unpack 30 = .ok (.iload_n 1, 1) := by decide +kernel
theorem dX0_unpack_31 : decode cX0_unpack 31 = .ok (.bipush 14, 2) := by decide +kernel
theorem dX0_unpack_33 : decode cX0_unpack 33 = .ok (.ishr, 1) := by decide +kernel
theorem dX0_unpack_34 : decode cX0_unpack 34 = .ok (.bipush 15, 2) := by decide +kernel
theorem dX0_unpack_36 : decode cX0_unpack 36 = .ok (.iand, 1) := by decide +kernel
theorem dX0_unpack_37 : decode cX0_unpack 37 = .ok (.putfield 21, 3) := by decide +kernel
theorem dX0_unpack_40 : decode cX0_unpack 40 = .ok (.aload_n 0, 1) := by decide +kernel
theorem dX0_unpack_41 : decode cX0_unpack 41 = .ok (.iload_n 1, 1) := by decide +kernel
theorem dX0_unpack_42 : decode cX0_unpack 42 = .ok (.bipush 18, 2) := by decide +kernel
theorem dX0_unpack_44 : decode cX0_unpack 44 = .ok (.ishr, 1) := by decide +kernel
theorem dX0_unpack_45 : decode cX0_unpack 45 = .ok (.bipush 15, 2) := by decide +kernel
theorem dX0_unpack_47 : decode cX0_unpack 47 = .ok (.iand, 1) := by decide +kernel
theorem dX0_unpack_48 : decode cX0_unpack 48 = .ok (.putfield 24, 3) := by decide +kernel
theorem dX0_unpack_51 : decode cX0_unpack 51 = .ok (.aload_n 0, 1) := by decide +kernel
theorem dX0_unpack_52 : decode cX0_unpack 52 = .ok (.iload_n 1, 1) := by decide +kernel
theorem dX0_unpack_53 : decode cX0_unpack 53 = .ok (.bipush 22, 2) := by decide +kernel
theorem dX0_unpack_55 : decode cX0_unpack 55 = .ok (.ishr, 1) := by decide +kernel
theorem dX0_unpack_56 : decode cX0_unpack 56 = .ok (.bipush 7, 2) := by decide +kernel
theorem dX0_unpack_58 : decode cX0_unpack 58 = .ok (.iand, 1) := by decide +kernel
theorem dX0_unpack_59 : decode cX0_unpack 59 = .ok (.putfield 27, 3) := by decide +kernel
theorem dX0_unpack_62 : decode cX0_unpack 62 = .ok (.aload_n 0, 1) := by decide +kernel
theorem dX0_unpack_63 : decode cX0_unpack 63 = .ok (.iload_n 1, 1) := by decide +kernel
theorem dX0_unpack_64 : decode cX0_unpack 64 = .ok (.bipush 25, 2) := by decide +kernel
theorem dX0_unpack_66 : decode cX0_unpack 66 = .ok (.ishr, 1) := by decide +kernel
theorem dX0_unpack_67 : decode cX0_unpack 67 = .ok (.iconst 3, 1) := by decide +kernel
theorem dX0_unpack_68 : decode cX0_unpack 68 = .ok (.iand, 1) := by decide +kernel
theorem dX0_unpack_69 : decode cX0_unpack 69 = .ok (.putfield 30, 3) := by decide +kernel
theorem dX0_unpack_72 : decode cX0_unpack 72 = .ok (.return_, 1) := by decide +kernel
theorem dX1_init_0 : decode cX1_init 0 = .ok (.aload_n 0, 1) := by decide +kernel
theorem dX1_init_1 : decode cX1_init 1 = .ok (.invokespecial 3, 3) := by decide +kernel
theorem dX1_init_4 : decode cX1_init 4 = .ok (.aload_n 0, 1) := by decide +kernel
theorem dX1_init_5 : decode cX1_init 5 = .ok (.bipush 6, 2) := by decide +kernel
theorem dX1_init_7 : decode cX1_init 7 = .ok (.newarray .int, 2) := by decide +kernel
theorem dX1_init_9 : decode cX1_init 9 = .ok (.putfield 9, 3) := by decide +kernel
theorem dX1_init_12 : decode cX1_init 12 = .ok (.aload_n 0, 1) := by decide +kernel
theorem dX1_init_13 : decode cX1_init 13 = .ok (.bipush 6, 2) := by decide +kernel
theorem dX1_init_15 : decode cX1_init 15 = .ok (.newarray .int, 2) := by decide +kernel
theorem dX1_init_17 : decode cX1_init 17 = .ok (.putfield 15, 3) := by decide +kernel
theorem dX1_init_20 : decode cX1_init 20 = .ok (.aload_n 0, 1) := by decide +kernel
theorem dX1_init_21 : decode cX1_init 21 = .ok (.bipush 6, 2) := by decide +kernel
theorem dX1_init_23 : decode cX1_init 23 = .ok (.newarray .int, 2) := by decide +kernel
theorem dX1_init_25 : decode cX1_init 25 = .ok (.putfield 18, 3) := by decide +kernel
theorem dX1_init_28 : decode cX1_init 28 = .ok (.aload_n 0, 1) := by decide +kernel
theorem dX1_init_29 : decode cX1_init 29 = .ok (.bipush 6, 2) := by decide +kernel
theorem dX1_init_31 : decode cX1_init 31 = .ok (.newarray .boolean, 2) := by decide +kernel
theorem dX1_init_33 : decode cX1_init 33 = .ok (.putfield 21, 3) := by decide +kernel
theorem dX1_init_36 : decode cX1_init 36 = .ok (.aload_n 0, 1) := by decide +kernel
theorem dX1_init_37 : decode cX1_init 37 = .ok (.iconst 0, 1) := by decide +kernel
theorem dX1_init_38 : decode cX1_init 38 = .ok (.putfield 25, 3) := by decide +kernel
theorem dX1_init_41 : decode cX1_init 41 = .ok (.return_, 1) := by decide +kernel
theorem dX1_add_0 : decode cX1_add 0 = .ok (.aload_n 0, 1) := by decide +kernel
theorem dX1_add_1 : decode cX1_add 1 = .ok (.getfield 25, 3) := by decide +kernel
theorem dX1_add_4 : decode cX1_add 4 = .ok (.bipush 6, 2) := by decide +kernel
theorem dX1_add_6 : decode cX1_add 6 = .ok (.if_icmp .ge 54, 3) := by decide +kernel
theorem dX1_add_9 : decode cX1_add 9 = .ok (.aload_n 0, 1) := by decide +kernel
theorem dX1_add_10 : decode cX1_add 10 = .ok (.getfield 9, 3) := by decide +kernel
theorem dX1_add_13 : decode cX1_add 13 = .ok (.aload_n 0, 1) := by decide +kernel
theorem dX1_add_14 : decode cX1_add 14 = .ok (.getfield 25, 3) := by decide +kernel
theorem dX1_add_17 : decode cX1_add 17 = .ok (.iload_n 1, 1) := by decide +kernel
theorem dX1_add_18 : decode cX1_add 18 = .ok (.iastore, 1) := by decide +kernel
theorem dX1_add_19 : decode cX1_add 19 = .ok (.aload_n 0, 1) := by decide +kernel
theorem dX1_add_20 : decode cX1_add 20 = .ok (.getfield 15, 3) := by decide +kernel
theorem dX1_add_23 : decode cX1_add 23 = .ok (.aload_n 0, 1) := by decide +kernel
theorem dX1_add_24 : decode cX1_add 24 = .ok (.getfield 25, 3) := by decide +kernel
theorem dX1_add_27 : decode cX1_add 27 = .ok (.iload_n 2, 1) := by decide +kernel
theorem dX1_add_28 : decode cX1_add 28 = .ok (.iastore, 1) := by decide +kernel
theorem dX1_add_29 : decode cX1_add 29 = .ok (.aload_n 0, 1) := by decide +kernel
theorem dX1_add_30 : decode cX1_add 30 = .ok (.getfield 18, 3) := by decide +kernel
theorem dX1_add_33 : decode cX1_add 33 = .ok (.aload_n 0, 1) := by decide +kernel
theorem dX1_add_34 : decode cX1_add 34 = .ok (.getfield 25, 3) := by decide +kernel
theorem dX1_add_37 : decode cX1_add 37 = .ok (.iload_n 3, 1) := by decide +kernel
theorem dX1_add_38 : decode cX1_add 38 = .ok (.iastore, 1) := by decide +kernel
theorem dX1_add_39 : decode cX1_add 39 = .ok (.aload_n 0, 1) := by decide +kernel
theorem dX1_add_40 : decode cX1_add 40 = .ok (.getfield 21, 3) := by decide +kernel
theorem dX1_add_43 : decode cX1_add 43 = .ok (.aload_n 0, 1) := by decide +kernel
theorem dX1_add_44 : decode cX1_add 44 = .ok (.getfield 25, 3) := by decide +kernel
theorem dX1_add_47 : decode cX1_add 47 = .ok (.iload 4, 2) := by decide +kernel
theorem dX1_add_49 : decode cX1_add 49 = .ok (.bastore, 1) := by decide +kernel
theorem dX1_add_50 : decode cX1_add 50 = .ok (.aload_n 0, 1) := by decide +kernel
theorem dX1_add_51 : decode cX1_add 51 = .ok (.dup, 1) := by decide +kernel
theorem dX1_add_52 : decode cX1_add 52 = .ok (.getfield 25, 3) := by decide +kernel
theorem dX1_add_55 : decode cX1_add 55 = .ok (.iconst 1, 1) := by decide +kernel
theorem dX1_add_56 : decode cX1_add 56 = .ok (.iadd, 1) := by decide +kernel
theorem dX1_add_57 : decode cX1_add 57 = .ok (.putfield 25, 3) := by decide +kernel
theorem dX1_add_60 : decode cX1_add 60 = .ok (.return_, 1) := by decide +kernel
theorem dX2_init_0 : decode cX2_init 0 = .ok (.aload_n 0, 1) := by decide +kernel
theorem dX2_init_1 : decode cX2_init 1 = .ok (.invokespecial 3, 3) := by decide +kernel
theorem dX2_init_4 : decode cX2_init 4 = .ok (.aload_n 0, 1) := by decide +kernel
theorem dX2_init_5 : decode cX2_init 5 = .ok (.bipush 6, 2) := by decide +kernel
theorem dX2_init_7 : decode cX2_init 7 = .ok (.newarray .int, 2) := by decide +kernel
theorem dX2_init_9 : decode cX2_init 9 = .ok (.putfield 9, 3) := by decide +kernel
theorem dX2_init_12 : decode cX2_init 12 = .ok (.aload_n 0, 1) := by decide +kernel
theorem dX2_init_13 : decode cX2_init 13 = .ok (.bipush 6, 2) := by decide +kernel
theorem dX2_init_15 : decode cX2_init 15 = .ok (.newarray .int, 2) := by decide +kernel
theorem dX2_init_17 : decode cX2_init 17 = .ok (.putfield 15, 3) := by decide +kernel
theorem dX2_init_20 : decode cX2_init 20 = .ok (.aload_n 0, 1) := by decide +kernel
theorem dX2_init_21 : decode cX2_init 21 = .ok (.bipush 6, 2) := by decide +kernel
theorem dX2_init_23 : decode cX2_init 23 = .ok (.newarray .int, 2) := by decide +kernel
theorem dX2_init_25 : decode cX2_init 25 = .ok (.putfield 18, 3) := by decide +kernel
theorem dX2_init_28 : decode cX2_init 28 = .ok (.aload_n 0, 1) := by decide +kernel
theorem dX2_init_29 : decode cX2_init 29 = .ok (.bipush 6, 2) := by decide +kernel
theorem dX2_init_31 : decode cX2_init 31 = .ok (.newarray .int, 2) := by decide +kernel
theorem dX2_init_33 : decode cX2_init 33 = .ok (.putfield 21, 3) := by decide +kernel
theorem dX2_init_36 : decode cX2_init 36 = .ok (.aload_n 0, 1) := by decide +kernel
theorem dX2_init_37 : decode cX2_init 37 = .ok (.bipush 6, 2) := by decide +kernel
theorem dX2_init_39 : decode cX2_init 39 = .ok (.newarray .int, 2) := by decide +kernel
theorem dX2_init_41 : decode cX2_init 41 = .ok (.putfield 24, 3) := by decide +kernel
theorem dX2_init_44 : decode cX2_init 44 = .ok (.aload_n 0, 1) := by decide +kernel
theorem dX2_init_45 : decode cX2_init 45 = .ok (.iconst 0, 1) := by decide +kernel
theorem dX2_init_46 : decode cX2_init 46 = .ok (.putfield 27, 3) := by decide +kernel
theorem dX2_init_49 : decode cX2_init 49 = .ok (.return_, 1) := by decide +kernel
theorem dX2_has_0 : decode cX2_has 0 = .ok (.iload_n 1, 1) := by decide +kernel
theorem dX2_has_1 : decode cX2_has 1 = .ok (.ifCond .lt 15, 3) := by decide +kernel
theorem dX2_has_4 : decode cX2_has 4 = .ok (.iload_n 1, 1) := by decide +kernel
theorem dX2_has_5 : decode cX2_has 5 = .ok (.aload_n 0, 1) := by decide +kernel
theorem dX2_has_6 : decode cX2_has 6 = .ok (.getfield 27, 3) := by decide +kernel
theorem dX2_has_9 : decode cX2_has 9 = .ok (.if_icmp .ge 7, 3) := by decide +kernel
theorem dX2_has_12 : decode cX2_has 12 = .ok (.iconst 1, 1) := by decide +kernel
theorem dX2_has_13 : decode cX2_has 13 = .ok (.goto 4, 3) := by decide +kernel
theorem dX2_has_16 : decode cX2_has 16 = .ok (.iconst 0, 1) := by decide +kernel
theorem dX2_has_17 : decode cX2_has 17 = .ok (.ireturn, 1) := by decide +kernel
theorem dX2_take_0 : decode cX2_take 0 = .ok (.aload_n 0, 1) := by decide +kernel
theorem dX2_take_1 : decode cX2_take 1 = .ok (.bipush 6, 2) := by decide +kernel
theorem dX2_take_3 : decode cX2_take 3 = .ok (.iconst 0, 1) := by decide +kernel
theorem dX2_take_4 : decode cX2_take 4 = .ok (.aload_n 1, 1) := by decide +kernel
theorem dX2_take_5 : decode cX2_take 5 = .ok (.getfield 31, 3) := by decide +kernel
theorem dX2_take_8 : decode cX2_take 8 = .ok (.iconst 4, 1) := by decide +kernel
theorem dX2_take_9 : decode cX2_take 9 = .ok (.isub, 1) := by decide +kernel
theorem dX2_take_10 : decode cX2_take 10 = .ok (.bipush 6, 2) := by decide +kernel
theorem dX2_take_12 : decode cX2_take 12 = .ok (.idiv, 1) := by decide +kernel
theorem dX2_take_13 : decode cX2_take 13 = .ok (.invokestatic 36, 3) := by decide +kernel
theorem dX2_take_16 : decode cX2_take 16 = .ok (.invokestatic 42, 3) := by decide +kernel
theorem dX2_take_19 : decode cX2_take 19 = .ok (.putfield 27, 3) := by decide +kernel
theorem dX2_take_22 : decode cX2_take 22 = .ok (.iconst 0, 1) := by decide +kernel
theorem dX2_take_23 : decode cX2_take 23 = .ok (.istore_n 2, 1) := by decide +kernel
theorem dX2_take_24 : decode cX2_take 24 = .ok (.iload_n 2, 1) := by decide +kernel
theorem dX2_take_25 : decode cX2_take 25 = .ok (.aload_n 0, 1) := by decide +kernel
theorem dX2_take_26 : decode cX2_take 26 = .ok (.getfield 27, 3) := by decide +kernel
theorem dX2_take_29 : decode cX2_take 29 = .ok (.if_icmp .ge 81, 3) := by decide +kernel
theorem dX2_take_32 : decode cX2_take 32 = .ok (.iconst 4, 1) := by decide +kernel
theorem dX2_take_33 : decode cX2_take 33 = .ok (.bipush 6, 2) := by decide +kernel
theorem dX2_take_35 : decode cX2_take 35 = .ok (.iload_n 2, 1) := by decide +kernel
theorem dX2_take_36 : decode cX2_take 36 = .ok (.imul, 1) := by decide +kernel
theorem dX2_take_37 : decode cX2_take 37 = .ok (.iadd, 1) := by decide +kernel
theorem dX2_take_38 : decode cX2_take 38 = .ok (.istore_n 3, 1) := by decide +kernel
theorem dX2_take_39 : decode cX2_take 39 = .ok (.aload_n 0, 1) := by decide +kernel
theorem dX2_take_40 : decode cX2_take 40 = .ok (.getfield 9, 3) := by decide +kernel
theorem dX2_take_43 : decode cX2_take 43 = .ok (.iload_n 2, 1) := by decide +kernel
theorem dX2_take_44 : decode cX2_take 44 = .ok (.aload_n 1, 1) := by decide +kernel
theorem dX2_take_45 : decode cX2_take 45 = .ok (.iload_n 3, 1) := by decide +kernel
theorem dX2_take_46 : decode cX2_take 46 = .ok (.iconst 1, 1) := by decide +kernel
theorem dX2_take_47 : decode cX2_take 47 = .ok (.iadd, 1) := by decide +kernel
theorem dX2_take_48 : decode cX2_take 48 = .ok (.invokevirtual 45, 3) := by decide +kernel
theorem dX2_take_51 : decode cX2_take 51 = .ok (.iastore, 1) := by decide +kernel
theorem dX2_take_52 : decode cX2_take 52 = .ok (.aload_n 0, 1) := by decide +kernel
theorem dX2_take_53 : decode cX2_take 53 = .ok (.getfield 15, 3) := by decide +kernel
theorem dX2_take_56 : decode cX2_take 56 = .ok (.iload_n 2, 1) := by decide +kernel
theorem dX2_take_57 : decode cX2_take 57 = .ok (.aload_n 1, 1) := by decide +kernel
theorem dX2_take_58 : decode cX2_take 58 = .ok (.iload_n 3, 1) := by decide +kernel
theorem dX2_take_59 : decode cX2_take 59 = .ok (.iconst 2, 1) := by decide +kernel
theorem dX2_take_60 : decode cX2_take 60 = .ok (.iadd, 1) := by decide +kernel
theorem dX2_take_61 : decode cX2_take 61 = .ok (.invokevirtual 45, 3) := by decide +kernel
theorem dX2_take_64 : decode cX2_take 64 = .ok (.iastore, 1) := by decide +kernel
theorem dX2_take_65 : decode cX2_take 65 = .ok (.aload_n 0, 1) := by decide +kernel
theorem dX2_take_66 : decode cX2_take 66 = .ok (.getfield 18, 3) := by decide +kernel
theorem dX2_take_69 : decode cX2_take 69 = .ok (.iload_n 2, 1) := by decide +kernel
theorem dX2_take_70 : decode cX2_take 70 = .ok (.aload_n 1, 1) := by decide +kernel
theorem dX2_take_71 : decode cX2_take 71 = .ok (.iload_n 3, 1) := by decide +kernel
theorem dX2_take_72 : decode cX2_take 72 = .ok (.iconst 3, 1) := by decide +kernel
theorem dX2_take_73 : decode cX2_take 73 = .ok (.iadd, 1) := by decide +kernel
theorem dX2_take_74 : decode cX2_take 74 = .ok (.invokevirtual 45, 3) := by decide +kernel
theorem dX2_take_77 : decode cX2_take 77 = .ok (.iastore, 1) := by decide +kernel
theorem dX2_take_78 : decode cX2_take 78 = .ok (.aload_n 0, 1) := by decide +kernel
theorem dX2_take_79 : decode cX2_take 79 = .ok (.getfield 21, 3) := by decide +kernel
theorem dX2_take_82 : decode cX2_take 82 = .ok (.iload_n 2, 1) := by decide +kernel
theorem dX2_take_83 : decode cX2_take 83 = .ok (.aload_n 1, 1) := by decide +kernel
theorem dX2_take_84 : decode cX2_take 84 = .ok (.iload_n 3, 1) := by decide +kernel
theorem dX2_take_85 : decode cX2_take 85 = .ok (.iconst 4, 1) := by decide +kernel
theorem dX2_take_86 : decode cX2_take 86 = .ok (.iadd, 1) := by decide +kernel
theorem dX2_take_87 : decode cX2_take 87 = .ok (.invokevirtual 45, 3) := by decide +kernel
theorem dX2_take_90 : decode cX2_take 90 = .ok (.iastore, 1) := by decide +kernel
theorem dX2_take_91 : decode cX2_take 91 = .ok (.aload_n 0, 1) := by decide +kernel
theorem dX2_take_92 : decode cX2_take 92 = .ok (.getfield 24, 3) := by decide +kernel
theorem dX2_take_95 : decode cX2_take 95 = .ok (.iload_n 2, 1) := by decide +kernel
theorem dX2_take_96 : decode cX2_take 96 = .ok (.aload_n 1, 1) := by decide +kernel
theorem dX2_take_97 : decode cX2_take 97 = .ok (.iload_n 3, 1) := by decide +kernel
theorem dX2_take_98 : decode cX2_take 98 = .ok (.iconst 5, 1) := by decide +kernel
theorem dX2_take_99 : decode cX2_take 99 = .ok (.iadd, 1) := by decide +kernel
theorem dX2_take_100 : decode cX2_take 100 = .ok (.invokevirtual 45, 3) := by decide +kernel
theorem dX2_take_103 : decode cX2_take 103 = .ok (.iastore, 1) := by decide +kernel
theorem dX2_take_104 : decode cX2_take 104 = .ok (.iinc 2 1, 3) := by decide +kernel
theorem dX2_take_107 : decode cX2_take 107 = .ok (.goto (-83), 3) := by decide +kernel
theorem dX2_take_110 : decode cX2_take 110 = .ok (.return_, 1) := by decide +kernel
theorem dX2_carries_0 : decode cX2_carries 0 = .ok (.aload_n 0, 1) := by decide +kernel
theorem dX2_carries_1 : decode cX2_carries 1 = .ok (.iload_n 1, 1) := by decide +kernel
theorem dX2_carries_2 : decode cX2_carries 2 = .ok (.invokevirtual 49, 3) := by decide +kernel
theorem dX2_carries_5 : decode cX2_carries 5 = .ok (.ifCond .eq 56, 3) := by decide +kernel
theorem dX2_carries_8 : decode cX2_carries 8 = .ok (.iload_n 3, 1) := by decide +kernel
theorem dX2_carries_9 : decode cX2_carries 9 = .ok (.aload_n 0, 1) := by decide +kernel
theorem dX2_carries_10 : decode cX2_carries 10 = .ok (.getfield 18, 3) := by decide +kernel
theorem dX2_carries_13 : decode cX2_carries 13 = .ok (.iload_n 1, 1) := by decide +kernel
theorem dX2_carries_14 : decode cX2_carries 14 = .ok (.iaload, 1) := by decide +kernel
theorem dX2_carries_15 : decode cX2_carries 15 = .ok (.if_icmp .lt 46, 3) := by decide +kernel
theorem dX2_carries_18 : decode cX2_carries 18 = .ok (.iload_n 3, 1) := by decide +kernel
theorem dX2_carries_19 : decode cX2_carries 19 = .ok (.aload_n 0, 1) := by decide +kernel
theorem dX2_carries_20 : decode cX2_carries 20 = .ok (.getfield 21, 3) := by decide +kernel
theorem dX2_carries_23 : decode cX2_carries 23 = .ok (.iload_n 1, 1) := by decide +kernel
theorem dX2_carries_24 : decode cX2_carries 24 = .ok (.iaload, 1) := by decide +kernel
theorem dX2_carries_25 : decode cX2_carries 25 = .ok (.if_icmp .gt 36, 3) := by decide +kernel
theorem dX2_carries_28 : decode cX2_carries 28 = .ok (.aload_n 0, 1) := by decide +kernel
theorem dX2_carries_29 : decode cX2_carries 29 = .ok (.getfield 24, 3) := by decide +kernel
theorem dX2_carries_32 : decode cX2_carries 32 = .ok (.iload_n 1, 1) := by decide +kernel
theorem dX2_carries_33 : decode cX2_carries 33 = .ok (.iaload, 1) := by decide +kernel
theorem dX2_carries_34 : decode cX2_carries 34 = .ok (.aload_n 0, 1) := by decide +kernel
theorem dX2_carries_35 : decode cX2_carries 35 = .ok (.getfield 15, 3) := by decide +kernel
theorem dX2_carries_38 : decode cX2_carries 38 = .ok (.iload_n 1, 1) := by decide +kernel
theorem dX2_carries_39 : decode cX2_carries 39 = .ok (.iaload, 1) := by decide +kernel
theorem dX2_carries_40 : decode cX2_carries 40 = .ok (.aload_n 0, 1) := by decide +kernel
theorem dX2_carries_41 : decode cX2_carries 41 = .ok (.getfield 9, 3) := by decide +kernel
theorem dX2_carries_44 : decode cX2_carries 44 = .ok (.iload_n 1, 1) := by decide +kernel
theorem dX2_carries_45 : decode cX2_carries 45 = .ok (.iaload, 1) := by decide +kernel
theorem dX2_carries_46 : decode cX2_carries 46 = .ok (.iload_n 2, 1) := by decide +kernel
theorem dX2_carries_47 : decode cX2_carries 47 = .ok (.iload 4, 2) := by decide +kernel
theorem dX2_carries_49 : decode cX2_carries 49 = .ok (.iload 5, 2) := by decide +kernel
theorem dX2_carries_51 : decode cX2_carries 51 = .ok (.invokestatic 53, 3) := by decide +kernel
theorem dX2_carries_54 : decode cX2_carries 54 = .ok (.ifCond .eq 7, 3) := by decide +kernel
theorem dX2_carries_57 : decode cX2_carries 57 = .ok (.iconst 1, 1) := by decide +kernel
theorem dX2_carries_58 : decode cX2_carries 58 = .ok (.goto 4, 3) := by decide +kernel
theorem dX2_carries_61 : decode cX2_carries 61 = .ok (.iconst 0, 1) := by decide +kernel
theorem dX2_carries_62 : decode cX2_carries 62 = .ok (.ireturn, 1) := by decide +kernel
theorem dX3_init_0 : decode cX3_init 0 = .ok (.aload_n 0, 1) := by decide +kernel
theorem dX3_init_1 : decode cX3_init 1 = .ok (.invokespecial 3, 3) := by decide +kernel
theorem dX3_init_4 : decode cX3_init 4 = .ok (.aload_n 0, 1) := by decide +kernel
theorem dX3_init_5 : decode cX3_init 5 = .ok (.bipush 40, 2) := by decide +kernel
theorem dX3_init_7 : decode cX3_init 7 = .ok (.newarray .int, 2) := by decide +kernel
theorem dX3_init_9 : decode cX3_init 9 = .ok (.putfield 9, 3) := by decide +kernel
theorem dX3_init_12 : decode cX3_init 12 = .ok (.aload_n 0, 1) := by decide +kernel
theorem dX3_init_13 : decode cX3_init 13 = .ok (.iconst 0, 1) := by decide +kernel
theorem dX3_init_14 : decode cX3_init 14 = .ok (.putfield 15, 3) := by decide +kernel
theorem dX3_init_17 : decode cX3_init 17 = .ok (.return_, 1) := by decide +kernel
theorem dX3_add_0 : decode cX3_add 0 = .ok (.aload_n 0, 1) := by decide +kernel
theorem dX3_add_1 : decode cX3_add 1 = .ok (.getfield 15, 3) := by decide +kernel
theorem dX3_add_4 : decode cX3_add 4 = .ok (.bipush 40, 2) := by decide +kernel
theorem dX3_add_6 : decode cX3_add 6 = .ok (.if_icmp .ge 23, 3) := by decide +kernel
theorem dX3_add_9 : decode cX3_add 9 = .ok (.aload_n 0, 1) := by decide +kernel
theorem dX3_add_10 : decode cX3_add 10 = .ok (.getfield 9, 3) := by decide +kernel
theorem dX3_add_13 : decode cX3_add 13 = .ok (.aload_n 0, 1) := by decide +kernel
theorem dX3_add_14 : decode cX3_add 14 = .ok (.getfield 15, 3) := by decide +kernel
theorem dX3_add_17 : decode cX3_add 17 = .ok (.iload_n 1, 1) := by decide +kernel
theorem dX3_add_18 : decode cX3_add 18 = .ok (.iastore, 1) := by decide +kernel
theorem dX3_add_19 : decode cX3_add 19 = .ok (.aload_n 0, 1) := by decide +kernel
theorem dX3_add_20 : decode cX3_add 20 = .ok (.dup, 1) := by decide +kernel
theorem dX3_add_21 : decode cX3_add 21 = .ok (.getfield 15, 3) := by decide +kernel
theorem dX3_add_24 : decode cX3_add 24 = .ok (.iconst 1, 1) := by decide +kernel
theorem dX3_add_25 : decode cX3_add 25 = .ok (.iadd, 1) := by decide +kernel
theorem dX3_add_26 : decode cX3_add 26 = .ok (.putfield 15, 3) := by decide +kernel
theorem dX3_add_29 : decode cX3_add 29 = .ok (.return_, 1) := by decide +kernel
theorem dX3_digit_0 : decode cX3_digit 0 = .ok (.iload_n 1, 1) := by decide +kernel
theorem dX3_digit_1 : decode cX3_digit 1 = .ok (.ifCond .lt 23, 3) := by decide +kernel
theorem dX3_digit_4 : decode cX3_digit 4 = .ok (.iload_n 1, 1) := by decide +kernel
theorem dX3_digit_5 : decode cX3_digit 5 = .ok (.aload_n 0, 1) := by decide +kernel
theorem dX3_digit_6 : decode cX3_digit 6 = .ok (.getfield 15, 3) := by decide +kernel
theorem dX3_digit_9 : decode cX3_digit 9 = .ok (.if_icmp .ge 15, 3) := by decide +kernel
theorem dX3_digit_12 : decode cX3_digit 12 = .ok (.aload_n 0, 1) := by decide +kernel
theorem dX3_digit_13 : decode cX3_digit 13 = .ok (.getfield 9, 3) := by decide +kernel
theorem dX3_digit_16 : decode cX3_digit 16 = .ok (.iload_n 1, 1) := by decide +kernel
theorem dX3_digit_17 : decode cX3_digit 17 = .ok (.iaload, 1) := by decide +kernel
theorem dX3_digit_18 : decode cX3_digit 18 = .ok (.bipush 48, 2) := by decide +kernel
theorem dX3_digit_20 : decode cX3_digit 20 = .ok (.isub, 1) := by decide +kernel
theorem dX3_digit_21 : decode cX3_digit 21 = .ok (.goto 4, 3) := by decide +kernel
theorem dX3_digit_24 : decode cX3_digit 24 = .ok (.iconst 0, 1) := by decide +kernel
theorem dX3_digit_25 : decode cX3_digit 25 = .ok (.ireturn, 1) := by decide +kernel
theorem dX3_firstFault_0 : decode cX3_firstFault 0 = .ok (.iconst 0, 1) := by decide +kernel
theorem dX3_firstFault_1 : decode cX3_firstFault 1 = .ok (.istore_n 1, 1) := by decide +kernel
theorem dX3_firstFault_2 : decode cX3_firstFault 2 = .ok (.iload_n 1, 1) := by decide +kernel
theorem dX3_firstFault_3 : decode cX3_firstFault 3 = .ok (.aload_n 0, 1) := by decide +kernel
theorem dX3_firstFault_4 : decode cX3_firstFault 4 = .ok (.getfield 15, 3) := by decide +kernel
theorem dX3_firstFault_7 : decode cX3_firstFault 7 = .ok (.if_icmp .ge 19, 3) := by decide +kernel
theorem dX3_firstFault_10 : decode cX3_firstFault 10 = .ok (.aload_n 0, 1) := by decide +kernel
theorem dX3_firstFault_11 : decode cX3_firstFault 11 = .ok (.iload_n 1, 1) := by decide +kernel
theorem dX3_firstFault_12 : decode cX3_firstFault 12 = .ok (.invokevirtual 19, 3) := by decide +kernel
theorem dX3_firstFault_15 : decode cX3_firstFault 15 = .ok (.ifCond .ne 5, 3) := by decide +kernel
theorem dX3_firstFault_18 : decode cX3_firstFault 18 = .ok (.iload_n 1, 1) := by decide +kernel
theorem dX3_firstFault_19 : decode cX3_firstFault 19 = .ok (.ireturn, 1) := by decide +kernel
theorem dX3_firstFault_20 : decode cX3_firstFault 20 = .ok (.iinc 1 1, 3) := by decide +kernel
theorem dX3_firstFault_23 : decode cX3_firstFault 23 = .ok (.goto (-21), 3) := by decide +kernel
theorem dX3_firstFault_26 : decode cX3_firstFault 26 = .ok (.aload_n 0, 1) := by decide +kernel
theorem dX3_firstFault_27 : decode cX3_firstFault 27 = .ok (.getfield 15, 3) := by decide +kernel
theorem dX3_firstFault_30 : decode cX3_firstFault 30 = .ok (.iconst 4, 1) := by decide +kernel
theorem dX3_firstFault_31 : decode cX3_firstFault 31 = .ok (.if_icmp .lt 19, 3) := by decide +kernel
theorem dX3_firstFault_34 : decode cX3_firstFault 34 = .ok (.aload_n 0, 1) := by decide +kernel
theorem dX3_firstFault_35 : decode cX3_firstFault 35 = .ok (.getfield 15, 3) := by decide +kernel
theorem dX3_firstFault_38 : decode cX3_firstFault 38 = .ok (.iconst 4, 1) := by decide +kernel
theorem dX3_firstFault_39 : decode cX3_firstFault 39 = .ok (.isub, 1) := by decide +kernel
theorem dX3_firstFault_40 : decode cX3_firstFault 40 = .ok (.bipush 6, 2) := by decide +kernel
theorem dX3_firstFault_42 : decode cX3_firstFault 42 = .ok (.irem, 1) := by decide +kernel
theorem dX3_firstFault_43 : decode cX3_firstFault 43 = .ok (.ifCond .ne 7, 3) := by decide +kernel
theorem dX3_firstFault_46 : decode cX3_firstFault 46 = .ok (.iconst 1, 1) := by decide +kernel
theorem dX3_firstFault_47 : decode cX3_firstFault 47 = .ok (.goto 4, 3) := by decide +kernel
theorem dX3_firstFault_50 : decode cX3_firstFault 50 = .ok (.iconst 0, 1) := by decide +kernel
theorem dX3_firstFault_51 : decode cX3_firstFault 51 = .ok (.istore_n 1, 1) := by decide +kernel
theorem dX3_firstFault_52 : decode cX3_firstFault 52 = .ok (.iload_n 1, 1) := by decide +kernel
theorem dX3_firstFault_53 : decode cX3_firstFault 53 = .ok (.ifCond .eq 8, 3) := by decide +kernel
theorem dX3_firstFault_56 : decode cX3_firstFault 56 = .ok (.bipush (-9), 2) := by decide +kernel
theorem dX3_firstFault_58 : decode cX3_firstFault 58 = .ok (.goto 7, 3) := by decide +kernel
theorem dX3_firstFault_61 : decode cX3_firstFault 61 = .ok (.aload_n 0, 1) := by decide +kernel
theorem dX3_firstFault_62 : decode cX3_firstFault 62 = .ok (.getfield 15, 3) := by decide +kernel
theorem dX3_firstFault_65 : decode cX3_firstFault 65 = .ok (.ireturn, 1) := by decide +kernel
theorem dX3_fits_0 : decode cX3_fits 0 = .ok (.iload_n 1, 1) := by decide +kernel
theorem dX3_fits_1 : decode cX3_fits 1 = .ok (.iconst 4, 1) := by decide +kernel
theorem dX3_fits_2 : decode cX3_fits 2 = .ok (.if_icmp .ge 11, 3) := by decide +kernel
theorem dX3_fits_5 : decode cX3_fits 5 = .ok (.aload_n 0, 1) := by decide +kernel
theorem dX3_fits_6 : decode cX3_fits 6 = .ok (.iload_n 1, 1) := by decide +kernel
theorem dX3_fits_7 : decode cX3_fits 7 = .ok (.invokevirtual 23, 3) := by decide +kernel
theorem dX3_fits_10 : decode cX3_fits 10 = .ok (.goto 8, 3) := by decide +kernel
theorem dX3_fits_13 : decode cX3_fits 13 = .ok (.aload_n 0, 1) := by decide +kernel
theorem dX3_fits_14 : decode cX3_fits 14 = .ok (.iload_n 1, 1) := by decide +kernel
theorem dX3_fits_15 : decode cX3_fits 15 = .ok (.invokevirtual 26, 3) := by decide +kernel
theorem dX3_fits_18 : decode cX3_fits 18 = .ok (.ireturn, 1) := by decide +kernel
theorem dX3_fitsHead_0 : decode cX3_fitsHead 0 = .ok (.iload_n 1, 1) := by decide +kernel
theorem dX3_fitsHead_1 : decode cX3_fitsHead 1 = .ok (.tableswitch 61 0 2 #[27, 44, 53], 27) := by decide +kernel
theorem dX3_fitsHead_28 : decode cX3_fitsHead 28 = .ok (.aload_n 0, 1) := by decide +kernel
theorem dX3_fitsHead_29 : decode cX3_fitsHead 29 = .ok (.getfield 9, 3) := by decide +kernel
theorem dX3_fitsHead_32 : decode cX3_fitsHead 32 = .ok (.iconst 0, 1) := by decide +kernel
theorem dX3_fitsHead_33 : decode cX3_fitsHead 33 = .ok (.iaload, 1) := by decide +kernel
theorem dX3_fitsHead_34 : decode cX3_fitsHead 34 = .ok (.bipush 82, 2) := by decide +kernel
theorem dX3_fitsHead_36 : decode cX3_fitsHead 36 = .ok (.if_icmp .ne 7, 3) := by decide +kernel
theorem dX3_fitsHead_39 : decode cX3_fitsHead 39 = .ok (.iconst 1, 1) := by decide +kernel
theorem dX3_fitsHead_40 : decode cX3_fitsHead 40 = .ok (.goto 4, 3) := by decide +kernel
theorem dX3_fitsHead_43 : decode cX3_fitsHead 43 = .ok (.iconst 0, 1) := by decide +kernel
theorem dX3_fitsHead_44 : decode cX3_fitsHead 44 = .ok (.ireturn, 1) := by decide +kernel
theorem dX3_fitsHead_45 : decode cX3_fitsHead 45 = .ok (.aload_n 0, 1) := by decide +kernel
theorem dX3_fitsHead_46 : decode cX3_fitsHead 46 = .ok (.iload_n 1, 1) := by decide +kernel
theorem dX3_fitsHead_47 : decode cX3_fitsHead 47 = .ok (.iconst 0, 1) := by decide +kernel
theorem dX3_fitsHead_48 : decode cX3_fitsHead 48 = .ok (.bipush 9, 2) := by decide +kernel
theorem dX3_fitsHead_50 : decode cX3_fitsHead 50 = .ok (.invokevirtual 29, 3) := by decide +kernel
theorem dX3_fitsHead_53 : decode cX3_fitsHead 53 = .ok (.ireturn, 1) := by decide +kernel
theorem dX3_fitsHead_54 : decode cX3_fitsHead 54 = .ok (.aload_n 0, 1) := by decide +kernel
theorem dX3_fitsHead_55 : decode cX3_fitsHead 55 = .ok (.iload_n 1, 1) := by decide +kernel
theorem dX3_fitsHead_56 : decode cX3_fitsHead 56 = .ok (.iconst 0, 1) := by decide +kernel
theorem dX3_fitsHead_57 : decode cX3_fitsHead 57 = .ok (.iconst 4, 1) := by decide +kernel
theorem dX3_fitsHead_58 : decode cX3_fitsHead 58 = .ok (.invokevirtual 29, 3) := by decide +kernel
theorem dX3_fitsHead_61 : decode cX3_fitsHead 61 = .ok (.ireturn, 1) := by decide +kernel
theorem dX3_fitsHead_62 : decode cX3_fitsHead 62 = .ok (.aload_n 0, 1) := by decide +kernel
theorem dX3_fitsHead_63 : decode cX3_fitsHead 63 = .ok (.iload_n 1, 1) := by decide +kernel
theorem dX3_fitsHead_64 : decode cX3_fitsHead 64 = .ok (.iconst 0, 1) := by decide +kernel
theorem dX3_fitsHead_65 : decode cX3_fitsHead 65 = .ok (.iconst 2, 1) := by decide +kernel
theorem dX3_fitsHead_66 : decode cX3_fitsHead 66 = .ok (.invokevirtual 29, 3) := by decide +kernel
theorem dX3_fitsHead_69 : decode cX3_fitsHead 69 = .ok (.ireturn, 1) := by decide +kernel
theorem dX3_fitsPart_0 : decode cX3_fitsPart 0 = .ok (.iload_n 1, 1) := by decide +kernel
theorem dX3_fitsPart_1 : decode cX3_fitsPart 1 = .ok (.iconst 4, 1) := by decide +kernel
theorem dX3_fitsPart_2 : decode cX3_fitsPart 2 = .ok (.isub, 1) := by decide +kernel
theorem dX3_fitsPart_3 : decode cX3_fitsPart 3 = .ok (.bipush 6, 2) := by decide +kernel
theorem dX3_fitsPart_5 : decode cX3_fitsPart 5 = .ok (.irem, 1) := by decide +kernel
theorem dX3_fitsPart_6 : decode cX3_fitsPart 6 = .ok (.tableswitch 93 0 4 #[34, 51, 60, 69, 78], 34) := by decide +kernel
theorem dX3_fitsPart_40 : decode cX3_fitsPart 40 = .ok (.aload_n 0, 1) := by decide +kernel
theorem dX3_fitsPart_41 : decode cX3_fitsPart 41 = .ok (.getfield 9, 3) := by decide +kernel
theorem dX3_fitsPart_44 : decode cX3_fitsPart 44 = .ok (.iload_n 1, 1) := by decide +kernel
theorem dX3_fitsPart_45 : decode cX3_fitsPart 45 = .ok (.iaload, 1) := by decide +kernel
theorem dX3_fitsPart_46 : decode cX3_fitsPart 46 = .ok (.bipush 83, 2) := by decide +kernel
theorem dX3_fitsPart_48 : decode cX3_fitsPart 48 = .ok (.if_icmp .ne 7, 3) := by decide +kernel
theorem dX3_fitsPart_51 : decode cX3_fitsPart 51 = .ok (.iconst 1, 1) := by decide +kernel
theorem dX3_fitsPart_52 : decode cX3_fitsPart 52 = .ok (.goto 4, 3) := by decide +kernel
theorem dX3_fitsPart_55 : decode cX3_fitsPart 55 = .ok (.iconst 0, 1) := by decide +kernel
theorem dX3_fitsPart_56 : decode cX3_fitsPart 56 = .ok (.ireturn, 1) := by decide +kernel
theorem dX3_fitsPart_57 : decode cX3_fitsPart 57 = .ok (.aload_n 0, 1) := by decide +kernel
theorem dX3_fitsPart_58 : decode cX3_fitsPart 58 = .ok (.iload_n 1, 1) := by decide +kernel
theorem dX3_fitsPart_59 : decode cX3_fitsPart 59 = .ok (.iconst 0, 1) := by decide +kernel
theorem dX3_fitsPart_60 : decode cX3_fitsPart 60 = .ok (.bipush 9, 2) := by decide +kernel
theorem dX3_fitsPart_62 : decode cX3_fitsPart 62 = .ok (.invokevirtual 29, 3) := by decide +kernel
theorem dX3_fitsPart_65 : decode cX3_fitsPart 65 = .ok (.ireturn, 1) := by decide +kernel
theorem dX3_fitsPart_66 : decode cX3_fitsPart 66 = .ok (.aload_n 0, 1) := by decide +kernel
theorem dX3_fitsPart_67 : decode cX3_fitsPart 67 = .ok (.iload_n 1, 1) := by decide +kernel
theorem dX3_fitsPart_68 : decode cX3_fitsPart 68 = .ok (.iconst 1, 1) := by decide +kernel
theorem dX3_fitsPart_69 : decode cX3_fitsPart 69 = .ok (.bipush 9, 2) := by decide +kernel
theorem dX3_fitsPart_71 : decode cX3_fitsPart 71 = .ok (.invokevirtual 29, 3) := by decide +kernel
theorem dX3_fitsPart_74 : decode cX3_fitsPart 74 = .ok (.ireturn, 1) := by decide +kernel
theorem dX3_fitsPart_75 : decode cX3_fitsPart 75 = .ok (.aload_n 0, 1) := by decide +kernel
theorem dX3_fitsPart_76 : decode cX3_fitsPart 76 = .ok (.iload_n 1, 1) := by decide +kernel
theorem dX3_fitsPart_77 : decode cX3_fitsPart 77 = .ok (.iconst 0, 1) := by decide +kernel
theorem dX3_fitsPart_78 : decode cX3_fitsPart 78 = .ok (.bipush 9, 2) := by decide +kernel
theorem dX3_fitsPart_80 : decode cX3_fitsPart 80 = .ok (.invokevirtual 29, 3) := by decide +kernel
theorem dX3_fitsPart_83 : decode cX3_fitsPart 83 = .ok (.ireturn, 1) := by decide +kernel
theorem dX3_fitsPart_84 : decode cX3_fitsPart 84 = .ok (.aload_n 0, 1) := by decide +kernel
theorem dX3_fitsPart_85 : decode cX3_fitsPart 85 = .ok (.iload_n 1, 1) := by decide +kernel
theorem dX3_fitsPart_86 : decode cX3_fitsPart 86 = .ok (.aload_n 0, 1) := by decide +kernel
theorem dX3_fitsPart_87 : decode cX3_fitsPart 87 = .ok (.iload_n 1, 1) := by decide +kernel
theorem dX3_fitsPart_88 : decode cX3_fitsPart 88 = .ok (.iconst 1, 1) := by decide +kernel
theorem dX3_fitsPart_89 : decode cX3_fitsPart 89 = .ok (.isub, 1) := by decide +kernel
theorem dX3_fitsPart_90 : decode cX3_fitsPart 90 = .ok (.invokevirtual 33, 3) := by decide +kernel
theorem dX3_fitsPart_93 : decode cX3_fitsPart 93 = .ok (.bipush 9, 2) := by decide +kernel
theorem dX3_fitsPart_95 : decode cX3_fitsPart 95 = .ok (.invokevirtual 29, 3) := by decide +kernel
theorem dX3_fitsPart_98 : decode cX3_fitsPart 98 = .ok (.ireturn, 1) := by decide +kernel
theorem dX3_fitsPart_99 : decode cX3_fitsPart 99 = .ok (.aload_n 0, 1) := by decide +kernel
theorem dX3_fitsPart_100 : decode cX3_fitsPart 100 = .ok (.iload_n 1, 1) := by decide +kernel
theorem dX3_fitsPart_101 : decode cX3_fitsPart 101 = .ok (.iconst 0, 1) := by decide +kernel
theorem dX3_fitsPart_102 : decode cX3_fitsPart 102 = .ok (.iconst 3, 1) := by decide +kernel
theorem dX3_fitsPart_103 : decode cX3_fitsPart 103 = .ok (.invokevirtual 29, 3) := by decide +kernel
theorem dX3_fitsPart_106 : decode cX3_fitsPart 106 = .ok (.ireturn, 1) := by decide +kernel
theorem dX3_isDigit_0 : decode cX3_isDigit 0 = .ok (.aload_n 0, 1) := by decide +kernel
theorem dX3_isDigit_1 : decode cX3_isDigit 1 = .ok (.iload_n 1, 1) := by decide +kernel
theorem dX3_isDigit_2 : decode cX3_isDigit 2 = .ok (.invokevirtual 33, 3) := by decide +kernel
theorem dX3_isDigit_5 : decode cX3_isDigit 5 = .ok (.istore 4, 2) := by decide +kernel
theorem dX3_isDigit_7 : decode cX3_isDigit 7 = .ok (.iload 4, 2) := by decide +kernel
theorem dX3_isDigit_9 : decode cX3_isDigit 9 = .ok (.iload_n 2, 1) := by decide +kernel
theorem dX3_isDigit_10 : decode cX3_isDigit 10 = .ok (.if_icmp .lt 13, 3) := by decide +kernel
theorem dX3_isDigit_13 : decode cX3_isDigit 13 = .ok (.iload 4, 2) := by decide +kernel
theorem dX3_isDigit_15 : decode cX3_isDigit 15 = .ok (.iload_n 3, 1) := by decide +kernel
theorem dX3_isDigit_16 : decode cX3_isDigit 16 = .ok (.if_icmp .gt 7, 3) := by decide +kernel
theorem dX3_isDigit_19 : decode cX3_isDigit 19 = .ok (.iconst 1, 1) := by decide +kernel
theorem dX3_isDigit_20 : decode cX3_isDigit 20 = .ok (.goto 4, 3) := by decide +kernel
theorem dX3_isDigit_23 : decode cX3_isDigit 23 = .ok (.iconst 0, 1) := by decide +kernel
theorem dX3_isDigit_24 : decode cX3_isDigit 24 = .ok (.ireturn, 1) := by decide +kernel
theorem dX4_init_0 : decode cX4_init 0 = .ok (.aload_n 0, 1) := by decide +kernel
theorem dX4_init_1 : decode cX4_init 1 = .ok (.invokespecial 1, 3) := by decide +kernel
theorem dX4_init_4 : decode cX4_init 4 = .ok (.aload_n 0, 1) := by decide +kernel
theorem dX4_init_5 : decode cX4_init 5 = .ok (.new 7, 3) := by decide +kernel
theorem dX4_init_8 : decode cX4_init 8 = .ok (.dup, 1) := by decide +kernel
theorem dX4_init_9 : decode cX4_init 9 = .ok (.invokespecial 9, 3) := by decide +kernel
theorem dX4_init_12 : decode cX4_init 12 = .ok (.putfield 10, 3) := by decide +kernel
theorem dX4_init_15 : decode cX4_init 15 = .ok (.aload_n 0, 1) := by decide +kernel
theorem dX4_init_16 : decode cX4_init 16 = .ok (.new 16, 3) := by decide +kernel
theorem dX4_init_19 : decode cX4_init 19 = .ok (.dup, 1) := by decide +kernel
theorem dX4_init_20 : decode cX4_init 20 = .ok (.invokespecial 18, 3) := by decide +kernel
theorem dX4_init_23 : decode cX4_init 23 = .ok (.putfield 19, 3) := by decide +kernel
theorem dX4_init_26 : decode cX4_init 26 = .ok (.aload_n 0, 1) := by decide +kernel
theorem dX4_init_27 : decode cX4_init 27 = .ok (.new 23, 3) := by decide +kernel
theorem dX4_init_30 : decode cX4_init 30 = .ok (.dup, 1) := by decide +kernel
theorem dX4_init_31 : decode cX4_init 31 = .ok (.invokespecial 25, 3) := by decide +kernel
theorem dX4_init_34 : decode cX4_init 34 = .ok (.putfield 26, 3) := by decide +kernel
theorem dX4_init_37 : decode cX4_init 37 = .ok (.aload_n 0, 1) := by decide +kernel
theorem dX4_init_38 : decode cX4_init 38 = .ok (.new 30, 3) := by decide +kernel
theorem dX4_init_41 : decode cX4_init 41 = .ok (.dup, 1) := by decide +kernel
theorem dX4_init_42 : decode cX4_init 42 = .ok (.invokespecial 32, 3) := by decide +kernel
theorem dX4_init_45 : decode cX4_init 45 = .ok (.putfield 33, 3) := by decide +kernel
theorem dX4_init_48 : decode cX4_init 48 = .ok (.aload_n 0, 1) := by decide +kernel
theorem dX4_init_49 : decode cX4_init 49 = .ok (.bipush 14, 2) := by decide +kernel
theorem dX4_init_51 : decode cX4_init 51 = .ok (.newarray .int, 2) := by decide +kernel
theorem dX4_init_53 : decode cX4_init 53 = .ok (.putfield 37, 3) := by decide +kernel
theorem dX4_init_56 : decode cX4_init 56 = .ok (.aload_n 0, 1) := by decide +kernel
theorem dX4_init_57 : decode cX4_init 57 = .ok (.iconst 0, 1) := by decide +kernel
theorem dX4_init_58 : decode cX4_init 58 = .ok (.putfield 41, 3) := by decide +kernel
theorem dX4_init_61 : decode cX4_init 61 = .ok (.aload_n 0, 1) := by decide +kernel
theorem dX4_init_62 : decode cX4_init 62 = .ok (.iconst 2, 1) := by decide +kernel
theorem dX4_init_63 : decode cX4_init 63 = .ok (.newarray .int, 2) := by decide +kernel
theorem dX4_init_65 : decode cX4_init 65 = .ok (.putfield 45, 3) := by decide +kernel
theorem dX4_init_68 : decode cX4_init 68 = .ok (.aload_n 0, 1) := by decide +kernel
theorem dX4_init_69 : decode cX4_init 69 = .ok (.lconst 0, 1) := by decide +kernel
theorem dX4_init_70 : decode cX4_init 70 = .ok (.putfield 48, 3) := by decide +kernel
theorem dX4_init_73 : decode cX4_init 73 = .ok (.aload_n 0, 1) := by decide +kernel
theorem dX4_init_74 : decode cX4_init 74 = .ok (.bipush 10, 2) := by decide +kernel
theorem dX4_init_76 : decode cX4_init 76 = .ok (.newarray .int, 2) := by decide +kernel
theorem dX4_init_78 : decode cX4_init 78 = .ok (.putfield 52, 3) := by decide +kernel
theorem dX4_init_81 : decode cX4_init 81 = .ok (.aload_n 0, 1) := by decide +kernel
theorem dX4_init_82 : decode cX4_init 82 = .ok (.bipush 10, 2) := by decide +kernel
theorem dX4_init_84 : decode cX4_init 84 = .ok (.newarray .int, 2) := by decide +kernel
theorem dX4_init_86 : decode cX4_init 86 = .ok (.putfield 55, 3) := by decide +kernel
theorem dX4_init_89 : decode cX4_init 89 = .ok (.aload_n 0, 1) := by decide +kernel
theorem dX4_init_90 : decode cX4_init 90 = .ok (.bipush 10, 2) := by decide +kernel
theorem dX4_init_92 : decode cX4_init 92 = .ok (.newarray .int, 2) := by decide +kernel
theorem dX4_init_94 : decode cX4_init 94 = .ok (.putfield 58, 3) := by decide +kernel
theorem dX4_init_97 : decode cX4_init 97 = .ok (.aload_n 0, 1) := by decide +kernel
theorem dX4_init_98 : decode cX4_init 98 = .ok (.bipush 121, 2) := by decide +kernel
theorem dX4_init_100 : decode cX4_init 100 = .ok (.newarray .int, 2) := by decide +kernel
theorem dX4_init_102 : decode cX4_init 102 = .ok (.putfield 61, 3) := by decide +kernel
theorem dX4_init_105 : decode cX4_init 105 = .ok (.aload_n 0, 1) := by decide +kernel
theorem dX4_init_106 : decode cX4_init 106 = .ok (.getfield 45, 3) := by decide +kernel
theorem dX4_init_109 : decode cX4_init 109 = .ok (.iconst 0, 1) := by decide +kernel
theorem dX4_init_110 : decode cX4_init 110 = .ok (.iconst (-1), 1) := by decide +kernel
theorem dX4_init_111 : decode cX4_init 111 = .ok (.iastore, 1) := by decide +kernel
theorem dX4_init_112 : decode cX4_init 112 = .ok (.aload_n 0, 1) := by decide +kernel
theorem dX4_init_113 : decode cX4_init 113 = .ok (.getfield 45, 3) := by decide +kernel
theorem dX4_init_116 : decode cX4_init 116 = .ok (.iconst 1, 1) := by decide +kernel
theorem dX4_init_117 : decode cX4_init 117 = .ok (.iconst (-1), 1) := by decide +kernel
theorem dX4_init_118 : decode cX4_init 118 = .ok (.iastore, 1) := by decide +kernel
theorem dX4_init_119 : decode cX4_init 119 = .ok (.return_, 1) := by decide +kernel
theorem dX4_write_0 : decode cX4_write 0 = .ok (.iload_n 1, 1) := by decide +kernel
theorem dX4_write_1 : decode cX4_write 1 = .ok (.ifCond .lt 10, 3) := by decide +kernel
theorem dX4_write_4 : decode cX4_write 4 = .ok (.iload_n 1, 1) := by decide +kernel
theorem dX4_write_5 : decode cX4_write 5 = .ok (.sipush 255, 3) := by decide +kernel
theorem dX4_write_8 : decode cX4_write 8 = .ok (.if_icmp .le 6, 3) := by decide +kernel
theorem dX4_write_11 : decode cX4_write 11 = .ok (.bipush (-2), 2) := by decide +kernel
theorem dX4_write_13 : decode cX4_write 13 = .ok (.ireturn, 1) := by decide +kernel
theorem dX4_write_14 : decode cX4_write 14 = .ok (.aload_n 0, 1) := by decide +kernel
theorem dX4_write_15 : decode cX4_write 15 = .ok (.getfield 10, 3) := by decide +kernel
theorem dX4_write_18 : decode cX4_write 18 = .ok (.getfield 64, 3) := by decide +kernel
theorem dX4_write_21 : decode cX4_write 21 = .ok (.bipush 40, 2) := by decide +kernel
theorem dX4_write_23 : decode cX4_write 23 = .ok (.if_icmp .lt 6, 3) := by decide +kernel
theorem dX4_write_26 : decode cX4_write 26 = .ok (.bipush (-4), 2) := by decide +kernel
theorem dX4_write_28 : decode cX4_write 28 = .ok (.ireturn, 1) := by decide +kernel
theorem dX4_write_29 : decode cX4_write 29 = .ok (.aload_n 0, 1) := by decide +kernel
theorem dX4_write_30 : decode cX4_write 30 = .ok (.getfield 10, 3) := by decide +kernel
theorem dX4_write_33 : decode cX4_write 33 = .ok (.iload_n 1, 1) := by decide +kernel
theorem dX4_write_34 : decode cX4_write 34 = .ok (.invokevirtual 67, 3) := by decide +kernel
theorem dX4_write_37 : decode cX4_write 37 = .ok (.aload_n 0, 1) := by decide +kernel
theorem dX4_write_38 : decode cX4_write 38 = .ok (.getfield 10, 3) := by decide +kernel
theorem dX4_write_41 : decode cX4_write 41 = .ok (.getfield 64, 3) := by decide +kernel
theorem dX4_write_44 : decode cX4_write 44 = .ok (.ireturn, 1) := by decide +kernel
theorem dX4_wipe_0 : decode cX4_wipe 0 = .ok (.aload_n 0, 1) := by decide +kernel
theorem dX4_wipe_1 : decode cX4_wipe 1 = .ok (.getfield 10, 3) := by decide +kernel
theorem dX4_wipe_4 : decode cX4_wipe 4 = .ok (.getfield 64, 3) := by decide +kernel
theorem dX4_wipe_7 : decode cX4_wipe 7 = .ok (.istore_n 1, 1) := by decide +kernel
theorem dX4_wipe_8 : decode cX4_wipe 8 = .ok (.aload_n 0, 1) := by decide +kernel
theorem dX4_wipe_9 : decode cX4_wipe 9 = .ok (.getfield 10, 3) := by decide +kernel
theorem dX4_wipe_12 : decode cX4_wipe 12 = .ok (.iconst 0, 1) := by decide +kernel
theorem dX4_wipe_13 : decode cX4_wipe 13 = .ok (.putfield 64, 3) := by decide +kernel
theorem dX4_wipe_16 : decode cX4_wipe 16 = .ok (.iload_n 1, 1) := by decide +kernel
theorem dX4_wipe_17 : decode cX4_wipe 17 = .ok (.ireturn, 1) := by decide +kernel
theorem dX4_fault_0 : decode cX4_fault 0 = .ok (.aload_n 0, 1) := by decide +kernel
theorem dX4_fault_1 : decode cX4_fault 1 = .ok (.getfield 10, 3) := by decide +kernel
theorem dX4_fault_4 : decode cX4_fault 4 = .ok (.invokevirtual 71, 3) := by decide +kernel
theorem dX4_fault_7 : decode cX4_fault 7 = .ok (.ireturn, 1) := by decide +kernel
theorem dX4_river_0 : decode cX4_river 0 = .ok (.aload_n 0, 1) := by decide +kernel
theorem dX4_river_1 : decode cX4_river 1 = .ok (.getfield 10, 3) := by decide +kernel
theorem dX4_river_4 : decode cX4_river 4 = .ok (.invokevirtual 71, 3) := by decide +kernel
theorem dX4_river_7 : decode cX4_river 7 = .ok (.bipush (-9), 2) := by decide +kernel
theorem dX4_river_9 : decode cX4_river 9 = .ok (.if_icmp .eq 6, 3) := by decide +kernel
theorem dX4_river_12 : decode cX4_river 12 = .ok (.bipush (-3), 2) := by decide +kernel
theorem dX4_river_14 : decode cX4_river 14 = .ok (.ireturn, 1) := by decide +kernel
theorem dX4_river_15 : decode cX4_river 15 = .ok (.aload_n 0, 1) := by decide +kernel
theorem dX4_river_16 : decode cX4_river 16 = .ok (.getfield 19, 3) := by decide +kernel
theorem dX4_river_19 : decode cX4_river 19 = .ok (.aload_n 0, 1) := by decide +kernel
theorem dX4_river_20 : decode cX4_river 20 = .ok (.getfield 10, 3) := by decide +kernel
theorem dX4_river_23 : decode cX4_river 23 = .ok (.invokevirtual 75, 3) := by decide +kernel
theorem dX4_river_26 : decode cX4_river 26 = .ok (.aload_n 0, 1) := by decide +kernel
theorem dX4_river_27 : decode cX4_river 27 = .ok (.getfield 26, 3) := by decide +kernel
theorem dX4_river_30 : decode cX4_river 30 = .ok (.aload_n 0, 1) := by decide +kernel
theorem dX4_river_31 : decode cX4_river 31 = .ok (.getfield 10, 3) := by decide +kernel
theorem dX4_river_34 : decode cX4_river 34 = .ok (.iconst 1, 1) := by decide +kernel
theorem dX4_river_35 : decode cX4_river 35 = .ok (.invokevirtual 79, 3) := by decide +kernel
theorem dX4_river_38 : decode cX4_river 38 = .ok (.aload_n 0, 1) := by decide +kernel
theorem dX4_river_39 : decode cX4_river 39 = .ok (.getfield 10, 3) := by decide +kernel
theorem dX4_river_42 : decode cX4_river 42 = .ok (.iconst 2, 1) := by decide +kernel
theorem dX4_river_43 : decode cX4_river 43 = .ok (.invokevirtual 79, 3) := by decide +kernel
theorem dX4_river_46 : decode cX4_river 46 = .ok (.aload_n 0, 1) := by decide +kernel
theorem dX4_river_47 : decode cX4_river 47 = .ok (.getfield 10, 3) := by decide +kernel
theorem dX4_river_50 : decode cX4_river 50 = .ok (.iconst 3, 1) := by decide +kernel
theorem dX4_river_51 : decode cX4_river 51 = .ok (.invokevirtual 79, 3) := by decide +kernel
theorem dX4_river_54 : decode cX4_river 54 = .ok (.invokevirtual 83, 3) := by decide +kernel
theorem dX4_river_57 : decode cX4_river 57 = .ok (.aload_n 0, 1) := by decide +kernel
theorem dX4_river_58 : decode cX4_river 58 = .ok (.iconst 0, 1) := by decide +kernel
theorem dX4_river_59 : decode cX4_river 59 = .ok (.putfield 41, 3) := by decide +kernel
theorem dX4_river_62 : decode cX4_river 62 = .ok (.aload_n 0, 1) := by decide +kernel
theorem dX4_river_63 : decode cX4_river 63 = .ok (.getfield 45, 3) := by decide +kernel
theorem dX4_river_66 : decode cX4_river 66 = .ok (.iconst 0, 1) := by decide +kernel
theorem dX4_river_67 : decode cX4_river 67 = .ok (.iconst (-1), 1) := by decide +kernel
theorem dX4_river_68 : decode cX4_river 68 = .ok (.iastore, 1) := by decide +kernel
theorem dX4_river_69 : decode cX4_river 69 = .ok (.aload_n 0, 1) := by decide +kernel
theorem dX4_river_70 : decode cX4_river 70 = .ok (.getfield 45, 3) := by decide +kernel
theorem dX4_river_73 : decode cX4_river 73 = .ok (.iconst 1, 1) := by decide +kernel
theorem dX4_river_74 : decode cX4_river 74 = .ok (.iconst (-1), 1) := by decide +kernel
theorem dX4_river_75 : decode cX4_river 75 = .ok (.iastore, 1) := by decide +kernel
theorem dX4_river_76 : decode cX4_river 76 = .ok (.aload_n 0, 1) := by decide +kernel
theorem dX4_river_77 : decode cX4_river 77 = .ok (.getfield 19, 3) := by decide +kernel
theorem dX4_river_80 : decode cX4_river 80 = .ok (.getfield 87, 3) := by decide +kernel
theorem dX4_river_83 : decode cX4_river 83 = .ok (.ireturn, 1) := by decide +kernel
theorem dX4_about_0 : decode cX4_about 0 = .ok (.iload_n 1, 1) := by decide +kernel
theorem dX4_about_1 : decode cX4_about 1 = .ok (.tableswitch 162 0 11 #[63, 71, 79, 87, 95, 103, 111, 119, 130, 141, 146, 154], 63) := by decide +kernel
theorem dX4_about_64 : decode cX4_about 64 = .ok (.aload_n 0, 1) := by decide +kernel
theorem dX4_about_65 : decode cX4_about 65 = .ok (.getfield 19, 3) := by decide +kernel
theorem dX4_about_68 : decode cX4_about 68 = .ok (.getfield 87, 3) := by decide +kernel
theorem dX4_about_71 : decode cX4_about 71 = .ok (.ireturn, 1) := by decide +kernel
theorem dX4_about_72 : decode cX4_about 72 = .ok (.aload_n 0, 1) := by decide +kernel
theorem dX4_about_73 : decode cX4_about 73 = .ok (.getfield 26, 3) := by decide +kernel
theorem dX4_about_76 : decode cX4_about 76 = .ok (.getfield 90, 3) := by decide +kernel
theorem dX4_about_79 : decode cX4_about 79 = .ok (.ireturn, 1) := by decide +kernel
theorem dX4_about_80 : decode cX4_about 80 = .ok (.aload_n 0, 1) := by decide +kernel
theorem dX4_about_81 : decode cX4_about 81 = .ok (.getfield 26, 3) := by decide +kernel
theorem dX4_about_84 : decode cX4_about 84 = .ok (.getfield 93, 3) := by decide +kernel
theorem dX4_about_87 : decode cX4_about 87 = .ok (.ireturn, 1) := by decide +kernel
theorem dX4_about_88 : decode cX4_about 88 = .ok (.aload_n 0, 1) := by decide +kernel
theorem dX4_about_89 : decode cX4_about 89 = .ok (.getfield 26, 3) := by decide +kernel
theorem dX4_about_92 : decode cX4_about 92 = .ok (.getfield 96, 3) := by decide +kernel
theorem dX4_about_95 : decode cX4_about 95 = .ok (.ireturn, 1) := by decide +kernel
theorem dX4_about_96 : decode cX4_about 96 = .ok (.aload_n 0, 1) := by decide +kernel
theorem dX4_about_97 : decode cX4_about 97 = .ok (.getfield 26, 3) := by decide +kernel
theorem dX4_about_100 : decode cX4_about 100 = .ok (.getfield 99, 3) := by decide +kernel
theorem dX4_about_103 : decode cX4_about 103 = .ok (.ireturn, 1) := by decide +kernel
theorem dX4_about_104 : decode cX4_about 104 = .ok (.aload_n 0, 1) := by decide +kernel
theorem dX4_about_105 : decode cX4_about 105 = .ok (.getfield 26, 3) := by decide +kernel
theorem dX4_about_108 : decode cX4_about 108 = .ok (.getfield 102, 3) := by decide +kernel
theorem dX4_about_111 : decode cX4_about 111 = .ok (.ireturn, 1) := by decide +kernel
theorem dX4_about_112 : decode cX4_about 112 = .ok (.aload_n 0, 1) := by decide +kernel
theorem dX4_about_113 : decode cX4_about 113 = .ok (.getfield 26, 3) := by decide +kernel
theorem dX4_about_116 : decode cX4_about 116 = .ok (.invokevirtual 105, 3) := by decide +kernel
theorem dX4_about_119 : decode cX4_about 119 = .ok (.ireturn, 1) := by decide +kernel
theorem dX4_about_120 : decode cX4_about 120 = .ok (.aload_n 0, 1) := by decide +kernel
theorem dX4_about_121 : decode cX4_about 121 = .ok (.getfield 26, 3) := by decide +kernel
theorem dX4_about_124 : decode cX4_about 124 = .ok (.getfield 108, 3) := by decide +kernel
theorem dX4_about_127 : decode cX4_about 127 = .ok (.invokestatic 111, 3) := by decide +kernel
theorem dX4_about_130 : decode cX4_about 130 = .ok (.ireturn, 1) := by decide +kernel
theorem dX4_about_131 : decode cX4_about 131 = .ok (.aload_n 0, 1) := by decide +kernel
theorem dX4_about_132 : decode cX4_about 132 = .ok (.getfield 26, 3) := by decide +kernel
theorem dX4_about_135 : decode cX4_about 135 = .ok (.getfield 114, 3) := by decide +kernel
theorem dX4_about_138 : decode cX4_about 138 = .ok (.invokestatic 111, 3) := by decide +kernel
theorem dX4_about_141 : decode cX4_about 141 = .ok (.ireturn, 1) := by decide +kernel
theorem dX4_about_142 : decode cX4_about 142 = .ok (.aload_n 0, 1) := by decide +kernel
theorem dX4_about_143 : decode cX4_about 143 = .ok (.getfield 41, 3) := by decide +kernel
theorem dX4_about_146 : decode cX4_about 146 = .ok (.ireturn, 1) := by decide +kernel
theorem dX4_about_147 : decode cX4_about 147 = .ok (.aload_n 0, 1) := by decide +kernel
theorem dX4_about_148 : decode cX4_about 148 = .ok (.getfield 33, 3) := by decide +kernel
theorem dX4_about_151 : decode cX4_about 151 = .ok (.getfield 117, 3) := by decide +kernel
theorem dX4_about_154 : decode cX4_about 154 = .ok (.ireturn, 1) := by decide +kernel
theorem dX4_about_155 : decode cX4_about 155 = .ok (.aload_n 0, 1) := by decide +kernel
theorem dX4_about_156 : decode cX4_about 156 = .ok (.getfield 10, 3) := by decide +kernel
theorem dX4_about_159 : decode cX4_about 159 = .ok (.getfield 64, 3) := by decide +kernel
theorem dX4_about_162 : decode cX4_about 162 = .ok (.ireturn, 1) := by decide +kernel
theorem dX4_about_163 : decode cX4_about 163 = .ok (.bipush (-2), 2) := by decide +kernel
theorem dX4_about_165 : decode cX4_about 165 = .ok (.ireturn, 1) := by decide +kernel
theorem dX4_sound_0 : decode cX4_sound 0 = .ok (.aload_n 0, 1) := by decide +kernel
theorem dX4_sound_1 : decode cX4_sound 1 = .ok (.getfield 19, 3) := by decide +kernel
theorem dX4_sound_4 : decode cX4_sound 4 = .ok (.iload_n 1, 1) := by decide +kernel
theorem dX4_sound_5 : decode cX4_sound 5 = .ok (.invokevirtual 118, 3) := by decide +kernel
theorem dX4_sound_8 : decode cX4_sound 8 = .ok (.ifCond .ne 5, 3) := by decide +kernel
theorem dX4_sound_11 : decode cX4_sound 11 = .ok (.iconst (-1), 1) := by decide +kernel
theorem dX4_sound_12 : decode cX4_sound 12 = .ok (.ireturn, 1) := by decide +kernel
theorem dX4_sound_13 : decode cX4_sound 13 = .ok (.iload_n 2, 1) := by decide +kernel
theorem dX4_sound_14 : decode cX4_sound 14 = .ok (.tableswitch 94 0 5 #[38, 48, 58, 68, 78, 88], 38) := by decide +kernel
theorem dX4_sound_52 : decode cX4_sound 52 = .ok (.aload_n 0, 1) := by decide +kernel
theorem dX4_sound_53 : decode cX4_sound 53 = .ok (.getfield 19, 3) := by decide +kernel
theorem dX4_sound_56 : decode cX4_sound 56 = .ok (.getfield 122, 3) := by decide +kernel
theorem dX4_sound_59 : decode cX4_sound 59 = .ok (.iload_n 1, 1) := by decide +kernel
theorem dX4_sound_60 : decode cX4_sound 60 = .ok (.iaload, 1) := by decide +kernel
theorem dX4_sound_61 : decode cX4_sound 61 = .ok (.ireturn, 1) := by decide +kernel
theorem dX4_sound_62 : decode cX4_sound 62 = .ok (.aload_n 0, 1) := by decide +kernel
theorem dX4_sound_63 : decode cX4_sound 63 = .ok (.getfield 19, 3) := by decide +kernel
theorem dX4_sound_66 : decode cX4_sound 66 = .ok (.getfield 125, 3) := by decide +kernel
theorem dX4_sound_69 : decode cX4_sound 69 = .ok (.iload_n 1, 1) := by decide +kernel
theorem dX4_sound_70 : decode cX4_sound 70 = .ok (.iaload, 1) := by decide +kernel
theorem dX4_sound_71 : decode cX4_sound 71 = .ok (.ireturn, 1) := by decide +kernel
theorem dX4_sound_72 : decode cX4_sound 72 = .ok (.aload_n 0, 1) := by decide +kernel
theorem dX4_sound_73 : decode cX4_sound 73 = .ok (.getfield 19, 3) := by decide +kernel
theorem dX4_sound_76 : decode cX4_sound 76 = .ok (.getfield 128, 3) := by decide +kernel
theorem dX4_sound_79 : decode cX4_sound 79 = .ok (.iload_n 1, 1) := by decide +kernel
theorem dX4_sound_80 : decode cX4_sound 80 = .ok (.iaload, 1) := by decide +kernel
theorem dX4_sound_81 : decode cX4_sound 81 = .ok (.ireturn, 1) := by decide +kernel
theorem dX4_sound_82 : decode cX4_sound 82 = .ok (.aload_n 0, 1) := by decide +kernel
theorem dX4_sound_83 : decode cX4_sound 83 = .ok (.getfield 19, 3) := by decide +kernel
theorem dX4_sound_86 : decode cX4_sound 86 = .ok (.getfield 131, 3) := by decide +kernel
theorem dX4_sound_89 : decode cX4_sound 89 = .ok (.iload_n 1, 1) := by decide +kernel
theorem dX4_sound_90 : decode cX4_sound 90 = .ok (.iaload, 1) := by decide +kernel
theorem dX4_sound_91 : decode cX4_sound 91 = .ok (.ireturn, 1) := by decide +kernel
theorem dX4_sound_92 : decode cX4_sound 92 = .ok (.aload_n 0, 1) := by decide +kernel
theorem dX4_sound_93 : decode cX4_sound 93 = .ok (.getfield 19, 3) := by decide +kernel
theorem dX4_sound_96 : decode cX4_sound 96 = .ok (.getfield 134, 3) := by decide +kernel
theorem dX4_sound_99 : decode cX4_sound 99 = .ok (.iload_n 1, 1) := by decide +kernel
theorem dX4_sound_100 : decode cX4_sound 100 = .ok (.iaload, 1) := by decide +kernel
theorem dX4_sound_101 : decode cX4_sound 101 = .ok (.ireturn, 1) := by decide +kernel
theorem dX4_sound_102 : decode cX4_sound 102 = .ok (.aload_n 0, 1) := by decide +kernel
theorem dX4_sound_103 : decode cX4_sound 103 = .ok (.iload_n 1, 1) := by decide +kernel
theorem dX4_sound_104 : decode cX4_sound 104 = .ok (.invokevirtual 137, 3) := by decide +kernel
theorem dX4_sound_107 : decode cX4_sound 107 = .ok (.ireturn, 1) := by decide +kernel
theorem dX4_sound_108 : decode cX4_sound 108 = .ok (.bipush (-2), 2) := by decide +kernel
theorem dX4_sound_110 : decode cX4_sound 110 = .ok (.ireturn, 1) := by decide +kernel
theorem dX4_row_0 : decode cX4_row 0 = .ok (.iload_n 1, 1) := by decide +kernel
theorem dX4_row_1 : decode cX4_row 1 = .ok (.iconst 1, 1) := by decide +kernel
theorem dX4_row_2 : decode cX4_row 2 = .ok (.if_icmp .eq 11, 3) := by decide +kernel
theorem dX4_row_5 : decode cX4_row 5 = .ok (.iload_n 1, 1) := by decide +kernel
theorem dX4_row_6 : decode cX4_row 6 = .ok (.iconst 2, 1) := by decide +kernel
theorem dX4_row_7 : decode cX4_row 7 = .ok (.if_icmp .eq 6, 3) := by decide +kernel
theorem dX4_row_10 : decode cX4_row 10 = .ok (.bipush (-2), 2) := by decide +kernel
theorem dX4_row_12 : decode cX4_row 12 = .ok (.ireturn, 1) := by decide +kernel
theorem dX4_row_13 : decode cX4_row 13 = .ok (.iload_n 1, 1) := by decide +kernel
theorem dX4_row_14 : decode cX4_row 14 = .ok (.iconst 1, 1) := by decide +kernel
theorem dX4_row_15 : decode cX4_row 15 = .ok (.if_icmp .ne 15, 3) := by decide +kernel
theorem dX4_row_18 : decode cX4_row 18 = .ok (.aload_n 0, 1) := by decide +kernel
theorem dX4_row_19 : decode cX4_row 19 = .ok (.getfield 26, 3) := by decide +kernel
theorem dX4_row_22 : decode cX4_row 22 = .ok (.getfield 90, 3) := by decide +kernel
theorem dX4_row_25 : decode cX4_row 25 = .ok (.iconst 1, 1) := by decide +kernel
theorem dX4_row_26 : decode cX4_row 26 = .ok (.iadd, 1) := by decide +kernel
theorem dX4_row_27 : decode cX4_row 27 = .ok (.goto 12, 3) := by decide +kernel
theorem dX4_row_30 : decode cX4_row 30 = .ok (.aload_n 0, 1) := by decide +kernel
theorem dX4_row_31 : decode cX4_row 31 = .ok (.getfield 26, 3) := by decide +kernel
theorem dX4_row_34 : decode cX4_row 34 = .ok (.getfield 90, 3) := by decide +kernel
theorem dX4_row_37 : decode cX4_row 37 = .ok (.iconst 1, 1) := by decide +kernel
theorem dX4_row_38 : decode cX4_row 38 = .ok (.isub, 1) := by decide +kernel
theorem dX4_row_39 : decode cX4_row 39 = .ok (.istore_n 2, 1) := by decide +kernel
theorem dX4_row_40 : decode cX4_row 40 = .ok (.iload_n 2, 1) := by decide +kernel
theorem dX4_row_41 : decode cX4_row 41 = .ok (.invokestatic 140, 3) := by decide +kernel
theorem dX4_row_44 : decode cX4_row 44 = .ok (.ifCond .ne 6, 3) := by decide +kernel
theorem dX4_row_47 : decode cX4_row 47 = .ok (.bipush (-3), 2) := by decide +kernel
theorem dX4_row_49 : decode cX4_row 49 = .ok (.ireturn, 1) := by decide +kernel
theorem dX4_row_50 : decode cX4_row 50 = .ok (.aload_n 0, 1) := by decide +kernel
theorem dX4_row_51 : decode cX4_row 51 = .ok (.invokevirtual 143, 3) := by decide +kernel
theorem dX4_row_54 : decode cX4_row 54 = .ok (.aload_n 0, 1) := by decide +kernel
theorem dX4_row_55 : decode cX4_row 55 = .ok (.getfield 26, 3) := by decide +kernel
theorem dX4_row_58 : decode cX4_row 58 = .ok (.iload_n 2, 1) := by decide +kernel
theorem dX4_row_59 : decode cX4_row 59 = .ok (.putfield 90, 3) := by decide +kernel
theorem dX4_row_62 : decode cX4_row 62 = .ok (.aload_n 0, 1) := by decide +kernel
theorem dX4_row_63 : decode cX4_row 63 = .ok (.iload_n 2, 1) := by decide +kernel
theorem dX4_row_64 : decode cX4_row 64 = .ok (.aload_n 0, 1) := by decide +kernel
theorem dX4_row_65 : decode cX4_row 65 = .ok (.getfield 26, 3) := by decide +kernel
theorem dX4_row_68 : decode cX4_row 68 = .ok (.getfield 93, 3) := by decide +kernel
theorem dX4_row_71 : decode cX4_row 71 = .ok (.invokevirtual 146, 3) := by decide +kernel
theorem dX4_row_74 : decode cX4_row 74 = .ok (.ireturn, 1) := by decide +kernel
theorem dX4_hush_0 : decode cX4_hush 0 = .ok (.aload_n 0, 1) := by decide +kernel
theorem dX4_hush_1 : decode cX4_hush 1 = .ok (.getfield 19, 3) := by decide +kernel
theorem dX4_hush_4 : decode cX4_hush 4 = .ok (.iload_n 1, 1) := by decide +kernel
theorem dX4_hush_5 : decode cX4_hush 5 = .ok (.invokevirtual 118, 3) := by decide +kernel
theorem dX4_hush_8 : decode cX4_hush 8 = .ok (.ifCond .ne 5, 3) := by decide +kernel
theorem dX4_hush_11 : decode cX4_hush 11 = .ok (.iconst (-1), 1) := by decide +kernel
theorem dX4_hush_12 : decode cX4_hush 12 = .ok (.ireturn, 1) := by decide +kernel
theorem dX4_hush_13 : decode cX4_hush 13 = .ok (.aload_n 0, 1) := by decide +kernel
theorem dX4_hush_14 : decode cX4_hush 14 = .ok (.invokevirtual 143, 3) := by decide +kernel
theorem dX4_hush_17 : decode cX4_hush 17 = .ok (.aload_n 0, 1) := by decide +kernel
theorem dX4_hush_18 : decode cX4_hush 18 = .ok (.getfield 26, 3) := by decide +kernel
theorem dX4_hush_21 : decode cX4_hush 21 = .ok (.aload_n 0, 1) := by decide +kernel
theorem dX4_hush_22 : decode cX4_hush 22 = .ok (.getfield 26, 3) := by decide +kernel
theorem dX4_hush_25 : decode cX4_hush 25 = .ok (.getfield 102, 3) := by decide +kernel
theorem dX4_hush_28 : decode cX4_hush 28 = .ok (.iconst 1, 1) := by decide +kernel
theorem dX4_hush_29 : decode cX4_hush 29 = .ok (.iload_n 1, 1) := by decide +kernel
theorem dX4_hush_30 : decode cX4_hush 30 = .ok (.ishl, 1) := by decide +kernel
theorem dX4_hush_31 : decode cX4_hush 31 = .ok (.ixor, 1) := by decide +kernel
theorem dX4_hush_32 : decode cX4_hush 32 = .ok (.putfield 102, 3) := by decide +kernel
theorem dX4_hush_35 : decode cX4_hush 35 = .ok (.aload_n 0, 1) := by decide +kernel
theorem dX4_hush_36 : decode cX4_hush 36 = .ok (.getfield 26, 3) := by decide +kernel
theorem dX4_hush_39 : decode cX4_hush 39 = .ok (.getfield 102, 3) := by decide +kernel
theorem dX4_hush_42 : decode cX4_hush 42 = .ok (.iload_n 1, 1) := by decide +kernel
theorem dX4_hush_43 : decode cX4_hush 43 = .ok (.ishr, 1) := by decide +kernel
theorem dX4_hush_44 : decode cX4_hush 44 = .ok (.iconst 1, 1) := by decide +kernel
theorem dX4_hush_45 : decode cX4_hush 45 = .ok (.iand, 1) := by decide +kernel
theorem dX4_hush_46 : decode cX4_hush 46 = .ok (.ireturn, 1) := by decide +kernel
theorem dX4_hammer_0 : decode cX4_hammer 0 = .ok (.iload_n 1, 1) := by decide +kernel
theorem dX4_hammer_1 : decode cX4_hammer 1 = .ok (.invokestatic 140, 3) := by decide +kernel
theorem dX4_hammer_4 : decode cX4_hammer 4 = .ok (.ifCond .ne 6, 3) := by decide +kernel
theorem dX4_hammer_7 : decode cX4_hammer 7 = .ok (.bipush (-2), 2) := by decide +kernel
theorem dX4_hammer_9 : decode cX4_hammer 9 = .ok (.ireturn, 1) := by decide +kernel
theorem dX4_hammer_10 : decode cX4_hammer 10 = .ok (.aload_n 0, 1) := by decide +kernel
theorem dX4_hammer_11 : decode cX4_hammer 11 = .ok (.getfield 26, 3) := by decide +kernel
theorem dX4_hammer_14 : decode cX4_hammer 14 = .ok (.getfield 108, 3) := by decide +kernel
theorem dX4_hammer_17 : decode cX4_hammer 17 = .ok (.iload_n 1, 1) := by decide +kernel
theorem dX4_hammer_18 : decode cX4_hammer 18 = .ok (.if_icmp .eq 14, 3) := by decide +kernel
theorem dX4_hammer_21 : decode cX4_hammer 21 = .ok (.aload_n 0, 1) := by decide +kernel
theorem dX4_hammer_22 : decode cX4_hammer 22 = .ok (.getfield 26, 3) := by decide +kernel
theorem dX4_hammer_25 : decode cX4_hammer 25 = .ok (.getfield 114, 3) := by decide +kernel
theorem dX4_hammer_28 : decode cX4_hammer 28 = .ok (.iload_n 1, 1) := by decide +kernel
theorem dX4_hammer_29 : decode cX4_hammer 29 = .ok (.if_icmp .ne 7, 3) := by decide +kernel
theorem dX4_hammer_32 : decode cX4_hammer 32 = .ok (.iconst 1, 1) := by decide +kernel
theorem dX4_hammer_33 : decode cX4_hammer 33 = .ok (.goto 4, 3) := by decide +kernel
theorem dX4_hammer_36 : decode cX4_hammer 36 = .ok (.iconst 0, 1) := by decide +kernel
theorem dX4_hammer_37 : decode cX4_hammer 37 = .ok (.istore_n 2, 1) := by decide +kernel
theorem dX4_hammer_38 : decode cX4_hammer 38 = .ok (.iload_n 2, 1) := by decide +kernel
theorem dX4_hammer_39 : decode cX4_hammer 39 = .ok (.ifCond .ne 17, 3) := by decide +kernel
theorem dX4_hammer_42 : decode cX4_hammer 42 = .ok (.aload_n 0, 1) := by decide +kernel
theorem dX4_hammer_43 : decode cX4_hammer 43 = .ok (.getfield 26, 3) := by decide +kernel
theorem dX4_hammer_46 : decode cX4_hammer 46 = .ok (.invokevirtual 105, 3) := by decide +kernel
theorem dX4_hammer_49 : decode cX4_hammer 49 = .ok (.iconst 2, 1) := by decide +kernel
theorem dX4_hammer_50 : decode cX4_hammer 50 = .ok (.if_icmp .ne 6, 3) := by decide +kernel
theorem dX4_hammer_53 : decode cX4_hammer 53 = .ok (.bipush (-4), 2) := by decide +kernel
theorem dX4_hammer_55 : decode cX4_hammer 55 = .ok (.ireturn, 1) := by decide +kernel
theorem dX4_hammer_56 : decode cX4_hammer 56 = .ok (.aload_n 0, 1) := by decide +kernel
theorem dX4_hammer_57 : decode cX4_hammer 57 = .ok (.invokevirtual 143, 3) := by decide +kernel
theorem dX4_hammer_60 : decode cX4_hammer 60 = .ok (.iload_n 2, 1) := by decide +kernel
theorem dX4_hammer_61 : decode cX4_hammer 61 = .ok (.ifCond .eq 14, 3) := by decide +kernel
theorem dX4_hammer_64 : decode cX4_hammer 64 = .ok (.aload_n 0, 1) := by decide +kernel
theorem dX4_hammer_65 : decode cX4_hammer 65 = .ok (.getfield 26, 3) := by decide +kernel
theorem dX4_hammer_68 : decode cX4_hammer 68 = .ok (.iload_n 1, 1) := by decide +kernel
theorem dX4_hammer_69 : decode cX4_hammer 69 = .ok (.invokevirtual 150, 3) := by decide +kernel
theorem dX4_hammer_72 : decode cX4_hammer 72 = .ok (.goto 11, 3) := by decide +kernel
theorem dX4_hammer_75 : decode cX4_hammer 75 = .ok (.aload_n 0, 1) := by decide +kernel
theorem dX4_hammer_76 : decode cX4_hammer 76 = .ok (.getfield 26, 3) := by decide +kernel
theorem dX4_hammer_79 : decode cX4_hammer 79 = .ok (.iload_n 1, 1) := by decide +kernel
theorem dX4_hammer_80 : decode cX4_hammer 80 = .ok (.invokevirtual 153, 3) := by decide +kernel
theorem dX4_hammer_83 : decode cX4_hammer 83 = .ok (.aload_n 0, 1) := by decide +kernel
theorem dX4_hammer_84 : decode cX4_hammer 84 = .ok (.getfield 26, 3) := by decide +kernel
theorem dX4_hammer_87 : decode cX4_hammer 87 = .ok (.invokevirtual 105, 3) := by decide +kernel
theorem dX4_hammer_90 : decode cX4_hammer 90 = .ok (.ireturn, 1) := by decide +kernel
theorem dX4_change_0 : decode cX4_change 0 = .ok (.iload_n 1, 1) := by decide +kernel
theorem dX4_change_1 : decode cX4_change 1 = .ok (.ifCond .lt 17, 3) := by decide +kernel
theorem dX4_change_4 : decode cX4_change 4 = .ok (.iload_n 1, 1) := by decide +kernel
theorem dX4_change_5 : decode cX4_change 5 = .ok (.iconst 4, 1) := by decide +kernel
theorem dX4_change_6 : decode cX4_change 6 = .ok (.if_icmp .gt 12, 3) := by decide +kernel
theorem dX4_change_9 : decode cX4_change 9 = .ok (.iload_n 2, 1) := by decide +kernel
theorem dX4_change_10 : decode cX4_change 10 = .ok (.ifCond .lt 8, 3) := by decide +kernel
theorem dX4_change_13 : decode cX4_change 13 = .ok (.iload_n 2, 1) := by decide +kernel
theorem dX4_change_14 : decode cX4_change 14 = .ok (.iconst 2, 1) := by decide +kernel
theorem dX4_change_15 : decode cX4_change 15 = .ok (.if_icmp .le 6, 3) := by decide +kernel
theorem dX4_change_18 : decode cX4_change 18 = .ok (.bipush (-2), 2) := by decide +kernel
theorem dX4_change_20 : decode cX4_change 20 = .ok (.ireturn, 1) := by decide +kernel
theorem dX4_change_21 : decode cX4_change 21 = .ok (.iload_n 1, 1) := by decide +kernel
theorem dX4_change_22 : decode cX4_change 22 = .ok (.aload_n 0, 1) := by decide +kernel
theorem dX4_change_23 : decode cX4_change 23 = .ok (.getfield 26, 3) := by decide +kernel
theorem dX4_change_26 : decode cX4_change 26 = .ok (.getfield 96, 3) := by decide +kernel
theorem dX4_change_29 : decode cX4_change 29 = .ok (.if_icmp .ne 17, 3) := by decide +kernel
theorem dX4_change_32 : decode cX4_change 32 = .ok (.iload_n 2, 1) := by decide +kernel
theorem dX4_change_33 : decode cX4_change 33 = .ok (.aload_n 0, 1) := by decide +kernel
theorem dX4_change_34 : decode cX4_change 34 = .ok (.getfield 26, 3) := by decide +kernel
theorem dX4_change_37 : decode cX4_change 37 = .ok (.getfield 99, 3) := by decide +kernel
theorem dX4_change_40 : decode cX4_change 40 = .ok (.if_icmp .ne 6, 3) := by decide +kernel
theorem dX4_change_43 : decode cX4_change 43 = .ok (.bipush (-3), 2) := by decide +kernel
theorem dX4_change_45 : decode cX4_change 45 = .ok (.ireturn, 1) := by decide +kernel
theorem dX4_change_46 : decode cX4_change 46 = .ok (.aload_n 0, 1) := by decide +kernel
theorem dX4_change_47 : decode cX4_change 47 = .ok (.invokevirtual 143, 3) := by decide +kernel
theorem dX4_change_50 : decode cX4_change 50 = .ok (.bipush 10, 2) := by decide +kernel
theorem dX4_change_52 : decode cX4_change 52 = .ok (.aload_n 0, 1) := by decide +kernel
theorem dX4_change_53 : decode cX4_change 53 = .ok (.getfield 26, 3) := by decide +kernel
theorem dX4_change_56 : decode cX4_change 56 = .ok (.getfield 96, 3) := by decide +kernel
theorem dX4_change_59 : decode cX4_change 59 = .ok (.imul, 1) := by decide +kernel
theorem dX4_change_60 : decode cX4_change 60 = .ok (.aload_n 0, 1) := by decide +kernel
theorem dX4_change_61 : decode cX4_change 61 = .ok (.getfield 26, 3) := by decide +kernel
theorem dX4_change_64 : decode cX4_change 64 = .ok (.getfield 99, 3) := by decide +kernel
theorem dX4_change_67 : decode cX4_change 67 = .ok (.iadd, 1) := by decide +kernel
theorem dX4_change_68 : decode cX4_change 68 = .ok (.istore_n 3, 1) := by decide +kernel
theorem dX4_change_69 : decode cX4_change 69 = .ok (.aload_n 0, 1) := by decide +kernel
theorem dX4_change_70 : decode cX4_change 70 = .ok (.getfield 26, 3) := by decide +kernel
theorem dX4_change_73 : decode cX4_change 73 = .ok (.iload_n 1, 1) := by decide +kernel
theorem dX4_change_74 : decode cX4_change 74 = .ok (.putfield 96, 3) := by decide +kernel
theorem dX4_change_77 : decode cX4_change 77 = .ok (.aload_n 0, 1) := by decide +kernel
theorem dX4_change_78 : decode cX4_change 78 = .ok (.getfield 26, 3) := by decide +kernel
theorem dX4_change_81 : decode cX4_change 81 = .ok (.iload_n 2, 1) := by decide +kernel
theorem dX4_change_82 : decode cX4_change 82 = .ok (.putfield 99, 3) := by decide +kernel
theorem dX4_change_85 : decode cX4_change 85 = .ok (.iload_n 3, 1) := by decide +kernel
theorem dX4_change_86 : decode cX4_change 86 = .ok (.ireturn, 1) := by decide +kernel
theorem dX4_hour_0 : decode cX4_hour 0 = .ok (.aload_n 0, 1) := by decide +kernel
theorem dX4_hour_1 : decode cX4_hour 1 = .ok (.invokevirtual 143, 3) := by decide +kernel
theorem dX4_hour_4 : decode cX4_hour 4 = .ok (.aload_n 0, 1) := by decide +kernel
theorem dX4_hour_5 : decode cX4_hour 5 = .ok (.getfield 26, 3) := by decide +kernel
theorem dX4_hour_8 : decode cX4_hour 8 = .ok (.aload_n 0, 1) := by decide +kernel
theorem dX4_hour_9 : decode cX4_hour 9 = .ok (.getfield 26, 3) := by decide +kernel
theorem dX4_hour_12 : decode cX4_hour 12 = .ok (.getfield 93, 3) := by decide +kernel
theorem dX4_hour_15 : decode cX4_hour 15 = .ok (.invokestatic 156, 3) := by decide +kernel
theorem dX4_hour_18 : decode cX4_hour 18 = .ok (.putfield 93, 3) := by decide +kernel
theorem dX4_hour_21 : decode cX4_hour 21 = .ok (.aload_n 0, 1) := by decide +kernel
theorem dX4_hour_22 : decode cX4_hour 22 = .ok (.getfield 26, 3) := by decide +kernel
theorem dX4_hour_25 : decode cX4_hour 25 = .ok (.getfield 93, 3) := by decide +kernel
theorem dX4_hour_28 : decode cX4_hour 28 = .ok (.ireturn, 1) := by decide +kernel
theorem dX4_undo_0 : decode cX4_undo 0 = .ok (.aload_n 0, 1) := by decide +kernel
theorem dX4_undo_1 : decode cX4_undo 1 = .ok (.getfield 41, 3) := by decide +kernel
theorem dX4_undo_4 : decode cX4_undo 4 = .ok (.iconst 1, 1) := by decide +kernel
theorem dX4_undo_5 : decode cX4_undo 5 = .ok (.if_icmp .ge 6, 3) := by decide +kernel
theorem dX4_undo_8 : decode cX4_undo 8 = .ok (.bipush (-3), 2) := by decide +kernel
theorem dX4_undo_10 : decode cX4_undo 10 = .ok (.ireturn, 1) := by decide +kernel
theorem dX4_undo_11 : decode cX4_undo 11 = .ok (.aload_n 0, 1) := by decide +kernel
theorem dX4_undo_12 : decode cX4_undo 12 = .ok (.dup, 1) := by decide +kernel
theorem dX4_undo_13 : decode cX4_undo 13 = .ok (.getfield 41, 3) := by decide +kernel
theorem dX4_undo_16 : decode cX4_undo 16 = .ok (.iconst 1, 1) := by decide +kernel
theorem dX4_undo_17 : decode cX4_undo 17 = .ok (.isub, 1) := by decide +kernel
theorem dX4_undo_18 : decode cX4_undo 18 = .ok (.putfield 41, 3) := by decide +kernel
theorem dX4_undo_21 : decode cX4_undo 21 = .ok (.aload_n 0, 1) := by decide +kernel
theorem dX4_undo_22 : decode cX4_undo 22 = .ok (.getfield 26, 3) := by decide +kernel
theorem dX4_undo_25 : decode cX4_undo 25 = .ok (.aload_n 0, 1) := by decide +kernel
theorem dX4_undo_26 : decode cX4_undo 26 = .ok (.getfield 37, 3) := by decide +kernel
theorem dX4_undo_29 : decode cX4_undo 29 = .ok (.aload_n 0, 1) := by decide +kernel
theorem dX4_undo_30 : decode cX4_undo 30 = .ok (.getfield 41, 3) := by decide +kernel
theorem dX4_undo_33 : decode cX4_undo 33 = .ok (.iaload, 1) := by decide +kernel
theorem dX4_undo_34 : decode cX4_undo 34 = .ok (.invokevirtual 159, 3) := by decide +kernel
theorem dX4_undo_37 : decode cX4_undo 37 = .ok (.aload_n 0, 1) := by decide +kernel
theorem dX4_undo_38 : decode cX4_undo 38 = .ok (.getfield 41, 3) := by decide +kernel
theorem dX4_undo_41 : decode cX4_undo 41 = .ok (.ireturn, 1) := by decide +kernel
theorem dX4_heard_0 : decode cX4_heard 0 = .ok (.iload_n 1, 1) := by decide +kernel
theorem dX4_heard_1 : decode cX4_heard 1 = .ok (.invokestatic 140, 3) := by decide +kernel
theorem dX4_heard_4 : decode cX4_heard 4 = .ok (.ifCond .eq 10, 3) := by decide +kernel
theorem dX4_heard_7 : decode cX4_heard 7 = .ok (.iload_n 2, 1) := by decide +kernel
theorem dX4_heard_8 : decode cX4_heard 8 = .ok (.invokestatic 162, 3) := by decide +kernel
theorem dX4_heard_11 : decode cX4_heard 11 = .ok (.ifCond .ne 6, 3) := by decide +kernel
theorem dX4_heard_14 : decode cX4_heard 14 = .ok (.bipush (-2), 2) := by decide +kernel
theorem dX4_heard_16 : decode cX4_heard 16 = .ok (.ireturn, 1) := by decide +kernel
theorem dX4_heard_17 : decode cX4_heard 17 = .ok (.aload_n 0, 1) := by decide +kernel
theorem dX4_heard_18 : decode cX4_heard 18 = .ok (.iload_n 1, 1) := by decide +kernel
theorem dX4_heard_19 : decode cX4_heard 19 = .ok (.iload_n 2, 1) := by decide +kernel
theorem dX4_heard_20 : decode cX4_heard 20 = .ok (.invokevirtual 146, 3) := by decide +kernel
theorem dX4_heard_23 : decode cX4_heard 23 = .ok (.ireturn, 1) := by decide +kernel
theorem dX4_sure_0 : decode cX4_sure 0 = .ok (.iload_n 1, 1) := by decide +kernel
theorem dX4_sure_1 : decode cX4_sure 1 = .ok (.invokestatic 162, 3) := by decide +kernel
theorem dX4_sure_4 : decode cX4_sure 4 = .ok (.ifCond .ne 6, 3) := by decide +kernel
theorem dX4_sure_7 : decode cX4_sure 7 = .ok (.bipush (-2), 2) := by decide +kernel
theorem dX4_sure_9 : decode cX4_sure 9 = .ok (.ireturn, 1) := by decide +kernel
theorem dX4_sure_10 : decode cX4_sure 10 = .ok (.aload_n 0, 1) := by decide +kernel
theorem dX4_sure_11 : decode cX4_sure 11 = .ok (.iload_n 1, 1) := by decide +kernel
theorem dX4_sure_12 : decode cX4_sure 12 = .ok (.invokevirtual 165, 3) := by decide +kernel
theorem dX4_sure_15 : decode cX4_sure 15 = .ok (.aload_n 0, 1) := by decide +kernel
theorem dX4_sure_16 : decode cX4_sure 16 = .ok (.sipush 255, 3) := by decide +kernel
theorem dX4_sure_19 : decode cX4_sure 19 = .ok (.invokevirtual 168, 3) := by decide +kernel
theorem dX4_sure_22 : decode cX4_sure 22 = .ok (.ireturn, 1) := by decide +kernel
theorem dX4_where_0 : decode cX4_where 0 = .ok (.iload_n 1, 1) := by decide +kernel
theorem dX4_where_1 : decode cX4_where 1 = .ok (.invokestatic 171, 3) := by decide +kernel
theorem dX4_where_4 : decode cX4_where 4 = .ok (.ifCond .eq 10, 3) := by decide +kernel
theorem dX4_where_7 : decode cX4_where 7 = .ok (.iload_n 2, 1) := by decide +kernel
theorem dX4_where_8 : decode cX4_where 8 = .ok (.invokestatic 162, 3) := by decide +kernel
theorem dX4_where_11 : decode cX4_where 11 = .ok (.ifCond .ne 6, 3) := by decide +kernel
theorem dX4_where_14 : decode cX4_where 14 = .ok (.bipush (-2), 2) := by decide +kernel
theorem dX4_where_16 : decode cX4_where 16 = .ok (.ireturn, 1) := by decide +kernel
theorem dX4_where_17 : decode cX4_where 17 = .ok (.iconst 0, 1) := by decide +kernel
theorem dX4_where_18 : decode cX4_where 18 = .ok (.istore_n 3, 1) := by decide +kernel
theorem dX4_where_19 : decode cX4_where 19 = .ok (.iconst 0, 1) := by decide +kernel
theorem dX4_where_20 : decode cX4_where 20 = .ok (.istore 4, 2) := by decide +kernel
theorem dX4_where_22 : decode cX4_where 22 = .ok (.iload 4, 2) := by decide +kernel
theorem dX4_where_24 : decode cX4_where 24 = .ok (.bipush 10, 2) := by decide +kernel
theorem dX4_where_26 : decode cX4_where 26 = .ok (.if_icmp .ge 27, 3) := by decide +kernel
theorem dX4_where_29 : decode cX4_where 29 = .ok (.aload_n 0, 1) := by decide +kernel
theorem dX4_where_30 : decode cX4_where 30 = .ok (.iload 4, 2) := by decide +kernel
theorem dX4_where_32 : decode cX4_where 32 = .ok (.iload_n 2, 1) := by decide +kernel
theorem dX4_where_33 : decode cX4_where 33 = .ok (.invokevirtual 146, 3) := by decide +kernel
theorem dX4_where_36 : decode cX4_where 36 = .ok (.iload_n 1, 1) := by decide +kernel
theorem dX4_where_37 : decode cX4_where 37 = .ok (.if_icmp .ne 10, 3) := by decide +kernel
theorem dX4_where_40 : decode cX4_where 40 = .ok (.iload_n 3, 1) := by decide +kernel
theorem dX4_where_41 : decode cX4_where 41 = .ok (.iconst 1, 1) := by decide +kernel
theorem dX4_where_42 : decode cX4_where 42 = .ok (.iload 4, 2) := by decide +kernel
theorem dX4_where_44 : decode cX4_where 44 = .ok (.ishl, 1) := by decide +kernel
theorem dX4_where_45 : decode cX4_where 45 = .ok (.ior, 1) := by decide +kernel
theorem dX4_where_46 : decode cX4_where 46 = .ok (.istore_n 3, 1) := by decide +kernel
theorem dX4_where_47 : decode cX4_where 47 = .ok (.iinc 4 1, 3) := by decide +kernel
theorem dX4_where_50 : decode cX4_where 50 = .ok (.goto (-28), 3) := by decide +kernel
theorem dX4_where_53 : decode cX4_where 53 = .ok (.iload_n 3, 1) := by decide +kernel
theorem dX4_where_54 : decode cX4_where 54 = .ok (.ireturn, 1) := by decide +kernel
theorem dX4_when_0 : decode cX4_when 0 = .ok (.iload_n 1, 1) := by decide +kernel
theorem dX4_when_1 : decode cX4_when 1 = .ok (.invokestatic 171, 3) := by decide +kernel
theorem dX4_when_4 : decode cX4_when 4 = .ok (.ifCond .eq 10, 3) := by decide +kernel
theorem dX4_when_7 : decode cX4_when 7 = .ok (.iload_n 2, 1) := by decide +kernel
theorem dX4_when_8 : decode cX4_when 8 = .ok (.invokestatic 140, 3) := by decide +kernel
theorem dX4_when_11 : decode cX4_when 11 = .ok (.ifCond .ne 6, 3) := by decide +kernel
theorem dX4_when_14 : decode cX4_when 14 = .ok (.bipush (-2), 2) := by decide +kernel
theorem dX4_when_16 : decode cX4_when 16 = .ok (.ireturn, 1) := by decide +kernel
theorem dX4_when_17 : decode cX4_when 17 = .ok (.iconst 0, 1) := by decide +kernel
theorem dX4_when_18 : decode cX4_when 18 = .ok (.istore_n 3, 1) := by decide +kernel
theorem dX4_when_19 : decode cX4_when 19 = .ok (.iconst 0, 1) := by decide +kernel
theorem dX4_when_20 : decode cX4_when 20 = .ok (.istore 4, 2) := by decide +kernel
theorem dX4_when_22 : decode cX4_when 22 = .ok (.iload 4, 2) := by decide +kernel
theorem dX4_when_24 : decode cX4_when 24 = .ok (.bipush 10, 2) := by decide +kernel
theorem dX4_when_26 : decode cX4_when 26 = .ok (.if_icmp .ge 27, 3) := by decide +kernel
theorem dX4_when_29 : decode cX4_when 29 = .ok (.aload_n 0, 1) := by decide +kernel
theorem dX4_when_30 : decode cX4_when 30 = .ok (.iload_n 2, 1) := by decide +kernel
theorem dX4_when_31 : decode cX4_when 31 = .ok (.iload 4, 2) := by decide +kernel
theorem dX4_when_33 : decode cX4_when 33 = .ok (.invokevirtual 146, 3) := by decide +kernel
theorem dX4_when_36 : decode cX4_when 36 = .ok (.iload_n 1, 1) := by decide +kernel
theorem dX4_when_37 : decode cX4_when 37 = .ok (.if_icmp .ne 10, 3) := by decide +kernel
theorem dX4_when_40 : decode cX4_when 40 = .ok (.iload_n 3, 1) := by decide +kernel
theorem dX4_when_41 : decode cX4_when 41 = .ok (.iconst 1, 1) := by decide +kernel
theorem dX4_when_42 : decode cX4_when 42 = .ok (.iload 4, 2) := by decide +kernel
theorem dX4_when_44 : decode cX4_when 44 = .ok (.ishl, 1) := by decide +kernel
theorem dX4_when_45 : decode cX4_when 45 = .ok (.ior, 1) := by decide +kernel
theorem dX4_when_46 : decode cX4_when 46 = .ok (.istore_n 3, 1) := by decide +kernel
theorem dX4_when_47 : decode cX4_when 47 = .ok (.iinc 4 1, 3) := by decide +kernel
theorem dX4_when_50 : decode cX4_when 50 = .ok (.goto (-28), 3) := by decide +kernel
theorem dX4_when_53 : decode cX4_when 53 = .ok (.iload_n 3, 1) := by decide +kernel
theorem dX4_when_54 : decode cX4_when 54 = .ok (.ireturn, 1) := by decide +kernel
theorem dX4_spared_0 : decode cX4_spared 0 = .ok (.iload_n 1, 1) := by decide +kernel
theorem dX4_spared_1 : decode cX4_spared 1 = .ok (.invokestatic 162, 3) := by decide +kernel
theorem dX4_spared_4 : decode cX4_spared 4 = .ok (.ifCond .ne 6, 3) := by decide +kernel
theorem dX4_spared_7 : decode cX4_spared 7 = .ok (.bipush (-2), 2) := by decide +kernel
theorem dX4_spared_9 : decode cX4_spared 9 = .ok (.ireturn, 1) := by decide +kernel
theorem dX4_spared_10 : decode cX4_spared 10 = .ok (.aload_n 0, 1) := by decide +kernel
theorem dX4_spared_11 : decode cX4_spared 11 = .ok (.iload_n 1, 1) := by decide +kernel
theorem dX4_spared_12 : decode cX4_spared 12 = .ok (.invokevirtual 165, 3) := by decide +kernel
theorem dX4_spared_15 : decode cX4_spared 15 = .ok (.aload_n 0, 1) := by decide +kernel
theorem dX4_spared_16 : decode cX4_spared 16 = .ok (.invokevirtual 174, 3) := by decide +kernel
theorem dX4_spared_19 : decode cX4_spared 19 = .ok (.istore_n 2, 1) := by decide +kernel
theorem dX4_spared_20 : decode cX4_spared 20 = .ok (.bipush (-9), 2) := by decide +kernel
theorem dX4_spared_22 : decode cX4_spared 22 = .ok (.istore_n 3, 1) := by decide +kernel
theorem dX4_spared_23 : decode cX4_spared 23 = .ok (.bipush 11, 2) := by decide +kernel
theorem dX4_spared_25 : decode cX4_spared 25 = .ok (.istore 4, 2) := by decide +kernel
theorem dX4_spared_27 : decode cX4_spared 27 = .ok (.iconst 0, 1) := by decide +kernel
theorem dX4_spared_28 : decode cX4_spared 28 = .ok (.istore 5, 2) := by decide +kernel
theorem dX4_spared_30 : decode cX4_spared 30 = .ok (.iload 5, 2) := by decide +kernel
theorem dX4_spared_32 : decode cX4_spared 32 = .ok (.aload_n 0, 1) := by decide +kernel
theorem dX4_spared_33 : decode cX4_spared 33 = .ok (.getfield 19, 3) := by decide +kernel
theorem dX4_spared_36 : decode cX4_spared 36 = .ok (.getfield 87, 3) := by decide +kernel
theorem dX4_spared_39 : decode cX4_spared 39 = .ok (.if_icmp .ge 48, 3) := by decide +kernel
theorem dX4_spared_42 : decode cX4_spared 42 = .ok (.iconst 1, 1) := by decide +kernel
theorem dX4_spared_43 : decode cX4_spared 43 = .ok (.iload 5, 2) := by decide +kernel
theorem dX4_spared_45 : decode cX4_spared 45 = .ok (.ishl, 1) := by decide +kernel
theorem dX4_spared_46 : decode cX4_spared 46 = .ok (.istore 6, 2) := by decide +kernel
theorem dX4_spared_48 : decode cX4_spared 48 = .ok (.iload_n 2, 1) := by decide +kernel
theorem dX4_spared_49 : decode cX4_spared 49 = .ok (.iload 6, 2) := by decide +kernel
theorem dX4_spared_51 : decode cX4_spared 51 = .ok (.iand, 1) := by decide +kernel
theorem dX4_spared_52 : decode cX4_spared 52 = .ok (.ifCond .eq 29, 3) := by decide +kernel
theorem dX4_spared_55 : decode cX4_spared 55 = .ok (.aload_n 0, 1) := by decide +kernel
theorem dX4_spared_56 : decode cX4_spared 56 = .ok (.iload_n 2, 1) := by decide +kernel
theorem dX4_spared_57 : decode cX4_spared 57 = .ok (.iload 6, 2) := by decide +kernel
theorem dX4_spared_59 : decode cX4_spared 59 = .ok (.iconst (-1), 1) := by decide +kernel
theorem dX4_spared_60 : decode cX4_spared 60 = .ok (.ixor, 1) := by decide +kernel
theorem dX4_spared_61 : decode cX4_spared 61 = .ok (.iand, 1) := by decide +kernel
theorem dX4_spared_62 : decode cX4_spared 62 = .ok (.invokevirtual 177, 3) := by decide +kernel
theorem dX4_spared_65 : decode cX4_spared 65 = .ok (.istore 7, 2) := by decide +kernel
theorem dX4_spared_67 : decode cX4_spared 67 = .ok (.iload 7, 2) := by decide +kernel
theorem dX4_spared_69 : decode cX4_spared 69 = .ok (.iload 4, 2) := by decide +kernel
theorem dX4_spared_71 : decode cX4_spared 71 = .ok (.if_icmp .ge 10, 3) := by decide +kernel
theorem dX4_spared_74 : decode cX4_spared 74 = .ok (.iload 7, 2) := by decide +kernel
theorem dX4_spared_76 : decode cX4_spared 76 = .ok (.istore 4, 2) := by decide +kernel
theorem dX4_spared_78 : decode cX4_spared 78 = .ok (.iload 5, 2) := by decide +kernel
theorem dX4_spared_80 : decode cX4_spared 80 = .ok (.istore_n 3, 1) := by decide +kernel
theorem dX4_spared_81 : decode cX4_spared 81 = .ok (.iinc 5 1, 3) := by decide +kernel
theorem dX4_spared_84 : decode cX4_spared 84 = .ok (.goto (-54), 3) := by decide +kernel
theorem dX4_spared_87 : decode cX4_spared 87 = .ok (.iload_n 3, 1) := by decide +kernel
theorem dX4_spared_88 : decode cX4_spared 88 = .ok (.ireturn, 1) := by decide +kernel
theorem dX4_worth_0 : decode cX4_worth 0 = .ok (.aload_n 0, 1) := by decide +kernel
theorem dX4_worth_1 : decode cX4_worth 1 = .ok (.getfield 19, 3) := by decide +kernel
theorem dX4_worth_4 : decode cX4_worth 4 = .ok (.iload_n 1, 1) := by decide +kernel
theorem dX4_worth_5 : decode cX4_worth 5 = .ok (.invokevirtual 118, 3) := by decide +kernel
theorem dX4_worth_8 : decode cX4_worth 8 = .ok (.ifCond .ne 5, 3) := by decide +kernel
theorem dX4_worth_11 : decode cX4_worth 11 = .ok (.iconst (-1), 1) := by decide +kernel
theorem dX4_worth_12 : decode cX4_worth 12 = .ok (.ireturn, 1) := by decide +kernel
theorem dX4_worth_13 : decode cX4_worth 13 = .ok (.iload_n 2, 1) := by decide +kernel
theorem dX4_worth_14 : decode cX4_worth 14 = .ok (.invokestatic 162, 3) := by decide +kernel
theorem dX4_worth_17 : decode cX4_worth 17 = .ok (.ifCond .ne 6, 3) := by decide +kernel
theorem dX4_worth_20 : decode cX4_worth 20 = .ok (.bipush (-2), 2) := by decide +kernel
theorem dX4_worth_22 : decode cX4_worth 22 = .ok (.ireturn, 1) := by decide +kernel
theorem dX4_worth_23 : decode cX4_worth 23 = .ok (.iconst 1, 1) := by decide +kernel
theorem dX4_worth_24 : decode cX4_worth 24 = .ok (.iload_n 1, 1) := by decide +kernel
theorem dX4_worth_25 : decode cX4_worth 25 = .ok (.ishl, 1) := by decide +kernel
theorem dX4_worth_26 : decode cX4_worth 26 = .ok (.istore 4, 2) := by decide +kernel
theorem dX4_worth_28 : decode cX4_worth 28 = .ok (.aload_n 0, 1) := by decide +kernel
theorem dX4_worth_29 : decode cX4_worth 29 = .ok (.getfield 26, 3) := by decide +kernel
theorem dX4_worth_32 : decode cX4_worth 32 = .ok (.getfield 102, 3) := by decide +kernel
theorem dX4_worth_35 : decode cX4_worth 35 = .ok (.iload 4, 2) := by decide +kernel
theorem dX4_worth_37 : decode cX4_worth 37 = .ok (.iand, 1) := by decide +kernel
theorem dX4_worth_38 : decode cX4_worth 38 = .ok (.ifCond .eq 10, 3) := by decide +kernel
theorem dX4_worth_41 : decode cX4_worth 41 = .ok (.iconst 0, 1) := by decide +kernel
theorem dX4_worth_42 : decode cX4_worth 42 = .ok (.iconst 1, 1) := by decide +kernel
theorem dX4_worth_43 : decode cX4_worth 43 = .ok (.iload_n 3, 1) := by decide +kernel
theorem dX4_worth_44 : decode cX4_worth 44 = .ok (.invokestatic 180, 3) := by decide +kernel
theorem dX4_worth_47 : decode cX4_worth 47 = .ok (.ireturn, 1) := by decide +kernel
theorem dX4_worth_48 : decode cX4_worth 48 = .ok (.aload_n 0, 1) := by decide +kernel
theorem dX4_worth_49 : decode cX4_worth 49 = .ok (.iload_n 2, 1) := by decide +kernel
theorem dX4_worth_50 : decode cX4_worth 50 = .ok (.invokevirtual 165, 3) := by decide +kernel
theorem dX4_worth_53 : decode cX4_worth 53 = .ok (.aload_n 0, 1) := by decide +kernel
theorem dX4_worth_54 : decode cX4_worth 54 = .ok (.invokevirtual 174, 3) := by decide +kernel
theorem dX4_worth_57 : decode cX4_worth 57 = .ok (.iload 4, 2) := by decide +kernel
theorem dX4_worth_59 : decode cX4_worth 59 = .ok (.iconst (-1), 1) := by decide +kernel
theorem dX4_worth_60 : decode cX4_worth 60 = .ok (.ixor, 1) := by decide +kernel
theorem dX4_worth_61 : decode cX4_worth 61 = .ok (.iand, 1) := by decide +kernel
theorem dX4_worth_62 : decode cX4_worth 62 = .ok (.istore 5, 2) := by decide +kernel
theorem dX4_worth_64 : decode cX4_worth 64 = .ok (.iload 5, 2) := by decide +kernel
theorem dX4_worth_66 : decode cX4_worth 66 = .ok (.invokestatic 184, 3) := by decide +kernel
theorem dX4_worth_69 : decode cX4_worth 69 = .ok (.istore 6, 2) := by decide +kernel
theorem dX4_worth_71 : decode cX4_worth 71 = .ok (.iconst 0, 1) := by decide +kernel
theorem dX4_worth_72 : decode cX4_worth 72 = .ok (.istore 7, 2) := by decide +kernel
theorem dX4_worth_74 : decode cX4_worth 74 = .ok (.iconst 0, 1) := by decide +kernel
theorem dX4_worth_75 : decode cX4_worth 75 = .ok (.istore 8, 2) := by decide +kernel
theorem dX4_worth_77 : decode cX4_worth 77 = .ok (.iload 8, 2) := by decide +kernel
theorem dX4_worth_79 : decode cX4_worth 79 = .ok (.bipush 64, 2) := by decide +kernel
theorem dX4_worth_81 : decode cX4_worth 81 = .ok (.if_icmp .ge 66, 3) := by decide +kernel
theorem dX4_worth_84 : decode cX4_worth 84 = .ok (.iload 8, 2) := by decide +kernel
theorem dX4_worth_86 : decode cX4_worth 86 = .ok (.iload 5, 2) := by decide +kernel
theorem dX4_worth_88 : decode cX4_worth 88 = .ok (.iconst (-1), 1) := by decide +kernel
theorem dX4_worth_89 : decode cX4_worth 89 = .ok (.ixor, 1) := by decide +kernel
theorem dX4_worth_90 : decode cX4_worth 90 = .ok (.iand, 1) := by decide +kernel
theorem dX4_worth_91 : decode cX4_worth 91 = .ok (.ifCond .ne 50, 3) := by decide +kernel
theorem dX4_worth_94 : decode cX4_worth 94 = .ok (.iload 8, 2) := by decide +kernel
theorem dX4_worth_96 : decode cX4_worth 96 = .ok (.invokestatic 184, 3) := by decide +kernel
theorem dX4_worth_99 : decode cX4_worth 99 = .ok (.istore 9, 2) := by decide +kernel
theorem dX4_worth_101 : decode cX4_worth 101 = .ok (.iload 9, 2) := by decide +kernel
theorem dX4_worth_103 : decode cX4_worth 103 = .ok (.invokestatic 189, 3) := by decide +kernel
theorem dX4_worth_106 : decode cX4_worth 106 = .ok (.iload 6, 2) := by decide +kernel
theorem dX4_worth_108 : decode cX4_worth 108 = .ok (.iload 9, 2) := by decide +kernel
theorem dX4_worth_110 : decode cX4_worth 110 = .ok (.isub, 1) := by decide +kernel
theorem dX4_worth_111 : decode cX4_worth 111 = .ok (.invokestatic 189, 3) := by decide +kernel
theorem dX4_worth_114 : decode cX4_worth 114 = .ok (.imul, 1) := by decide +kernel
theorem dX4_worth_115 : decode cX4_worth 115 = .ok (.istore 10, 2) := by decide +kernel
theorem dX4_worth_117 : decode cX4_worth 117 = .ok (.iload 7, 2) := by decide +kernel
theorem dX4_worth_119 : decode cX4_worth 119 = .ok (.iload 10, 2) := by decide +kernel
theorem dX4_worth_121 : decode cX4_worth 121 = .ok (.aload_n 0, 1) := by decide +kernel
theorem dX4_worth_122 : decode cX4_worth 122 = .ok (.iload 8, 2) := by decide +kernel
theorem dX4_worth_124 : decode cX4_worth 124 = .ok (.iload 4, 2) := by decide +kernel
theorem dX4_worth_126 : decode cX4_worth 126 = .ok (.ior, 1) := by decide +kernel
theorem dX4_worth_127 : decode cX4_worth 127 = .ok (.invokevirtual 177, 3) := by decide +kernel
theorem dX4_worth_130 : decode cX4_worth 130 = .ok (.aload_n 0, 1) := by decide +kernel
theorem dX4_worth_131 : decode cX4_worth 131 = .ok (.iload 8, 2) := by decide +kernel
theorem dX4_worth_133 : decode cX4_worth 133 = .ok (.invokevirtual 177, 3) := by decide +kernel
theorem dX4_worth_136 : decode cX4_worth 136 = .ok (.isub, 1) := by decide +kernel
theorem dX4_worth_137 : decode cX4_worth 137 = .ok (.imul, 1) := by decide +kernel
