theorem dX0_init_0 : decode cX0_init 0 = .ok (.aload_n 0, 1) := by decide +kernel
theorem dX0_init_1 : decode cX0_init 1 = .ok (.invokespecial 3, 3) := by decide +kernel
theorem dX0_init_4 : decode cX0_init 4 = .ok (.aload_n 0, 1) := by decide +kernel
theorem dX0_init_5 : decode cX0_init 5 = .ok (.iconst 0, 1) := by decide +kernel
theorem dX0_init_6 : decode cX0_init 6 = .ok (.putfield 9, 3) := by decide +kernel
theorem dX0_init_9 : decode cX0_init 9 = .ok (.aload_n 0, 1) := by decide +kernel
theorem dX0_init_10 : decode cX0_init 10 = .ok (.iconst 0, 1) := by decide +kernel
theorem dX0_init_11 : decode cX0_init 11 = .ok (.putfield 15, 3) := by decide +kernel
theorem dX0_init_14 : decode cX0_init 14 = .ok (.aload_n 0, 1) := by decide +kernel
theorem dX0_init_15 : decode cX0_init 15 = .ok (.iconst 1, 1) := by decide +kernel
theorem dX0_init_16 : decode cX0_init 16 = .ok (.putfield 18, 3) := by decide +kernel
theorem dX0_init_19 : decode cX0_init 19 = .ok (.aload_n 0, 1) := by decide +kernel
theorem dX0_init_20 : decode cX0_init 20 = .ok (.iconst 0, 1) := by decide +kernel
theorem dX0_init_21 : decode cX0_init 21 = .ok (.putfield 21, 3) := by decide +kernel
theorem dX0_init_24 : decode cX0_init 24 = .ok (.aload_n 0, 1) := by decide +kernel
theorem dX0_init_25 : decode cX0_init 25 = .ok (.iconst 0, 1) := by decide +kernel
theorem dX0_init_26 : decode cX0_init 26 = .ok (.putfield 24, 3) := by decide +kernel
theorem dX0_init_29 : decode cX0_init 29 = .ok (.return_, 1) := by decide +kernel
theorem dX0_become_0 : decode cX0_become 0 = .ok (.aload_n 0, 1) := by decide +kernel
theorem dX0_become_1 : decode cX0_become 1 = .ok (.aload_n 1, 1) := by decide +kernel
theorem dX0_become_2 : decode cX0_become 2 = .ok (.getfield 9, 3) := by decide +kernel
theorem dX0_become_5 : decode cX0_become 5 = .ok (.putfield 9, 3) := by decide +kernel
theorem dX0_become_8 : decode cX0_become 8 = .ok (.aload_n 0, 1) := by decide +kernel
theorem dX0_become_9 : decode cX0_become 9 = .ok (.aload_n 1, 1) := by decide +kernel
theorem dX0_become_10 : decode cX0_become 10 = .ok (.getfield 15, 3) := by decide +kernel
theorem dX0_become_13 : decode cX0_become 13 = .ok (.putfield 15, 3) := by decide +kernel
theorem dX0_become_16 : decode cX0_become 16 = .ok (.aload_n 0, 1) := by decide +kernel
theorem dX0_become_17 : decode cX0_become 17 = .ok (.aload_n 1, 1) := by decide +kernel
theorem dX0_become_18 : decode cX0_become 18 = .ok (.getfield 18, 3) := by decide +kernel
theorem dX0_become_21 : decode cX0_become 21 = .ok (.putfield 18, 3) := by decide +kernel
theorem dX0_become_24 : decode cX0_become 24 = .ok (.aload_n 0, 1) := by decide +kernel
theorem dX0_become_25 : decode cX0_become 25 = .ok (.aload_n 1, 1) := by decide +kernel
theorem dX0_become_26 : decode cX0_become 26 = .ok (.getfield 21, 3) := by decide +kernel
theorem dX0_become_29 : decode cX0_become 29 = .ok (.putfield 21, 3) := by decide +kernel
theorem dX0_become_32 : decode cX0_become 32 = .ok (.aload_n 0, 1) := by decide +kernel
theorem dX0_become_33 : decode cX0_become 33 = .ok (.aload_n 1, 1) := by decide +kernel
theorem dX0_become_34 : decode cX0_become 34 = .ok (.getfield 24, 3) := by decide +kernel
theorem dX0_become_37 : decode cX0_become 37 = .ok (.putfield 24, 3) := by decide +kernel
theorem dX0_become_40 : decode cX0_become 40 = .ok (.return_, 1) := by decide +kernel
theorem dX0_sees_0 : decode cX0_sees 0 = .ok (.aload_n 0, 1) := by decide +kernel
theorem dX0_sees_1 : decode cX0_sees 1 = .ok (.getfield 9, 3) := by decide +kernel
theorem dX0_sees_4 : decode cX0_sees 4 = .ok (.iconst 3, 1) := by decide +kernel
theorem dX0_sees_5 : decode cX0_sees 5 = .ok (.if_icmp .ne 15, 3) := by decide +kernel
theorem dX0_sees_8 : decode cX0_sees 8 = .ok (.iload_n 1, 1) := by decide +kernel
theorem dX0_sees_9 : decode cX0_sees 9 = .ok (.aload_n 0, 1) := by decide +kernel
theorem dX0_sees_10 : decode cX0_sees 10 = .ok (.getfield 15, 3) := by decide +kernel
theorem dX0_sees_13 : decode cX0_sees 13 = .ok (.iconst 3, 1) := by decide +kernel
theorem dX0_sees_14 : decode cX0_sees 14 = .ok (.idiv, 1) := by decide +kernel
theorem dX0_sees_15 : decode cX0_sees 15 = .ok (.if_icmp .ge 5, 3) := by decide +kernel
theorem dX0_sees_18 : decode cX0_sees 18 = .ok (.iconst 0, 1) := by decide +kernel
theorem dX0_sees_19 : decode cX0_sees 19 = .ok (.ireturn, 1) := by decide +kernel
theorem dX0_sees_20 : decode cX0_sees 20 = .ok (.aload_n 0, 1) := by decide +kernel
theorem dX0_sees_21 : decode cX0_sees 21 = .ok (.getfield 9, 3) := by decide +kernel
theorem dX0_sees_24 : decode cX0_sees 24 = .ok (.iconst 1, 1) := by decide +kernel
theorem dX0_sees_25 : decode cX0_sees 25 = .ok (.if_icmp .eq 11, 3) := by decide +kernel
theorem dX0_sees_28 : decode cX0_sees 28 = .ok (.aload_n 0, 1) := by decide +kernel
theorem dX0_sees_29 : decode cX0_sees 29 = .ok (.getfield 9, 3) := by decide +kernel
theorem dX0_sees_32 : decode cX0_sees 32 = .ok (.iconst 3, 1) := by decide +kernel
theorem dX0_sees_33 : decode cX0_sees 33 = .ok (.if_icmp .ne 20, 3) := by decide +kernel
theorem dX0_sees_36 : decode cX0_sees 36 = .ok (.iload_n 1, 1) := by decide +kernel
theorem dX0_sees_37 : decode cX0_sees 37 = .ok (.aload_n 0, 1) := by decide +kernel
theorem dX0_sees_38 : decode cX0_sees 38 = .ok (.getfield 15, 3) := by decide +kernel
theorem dX0_sees_41 : decode cX0_sees 41 = .ok (.iconst 2, 1) := by decide +kernel
theorem dX0_sees_42 : decode cX0_sees 42 = .ok (.iadd, 1) := by decide +kernel
theorem dX0_sees_43 : decode cX0_sees 43 = .ok (.irem, 1) := by decide +kernel
theorem dX0_sees_44 : decode cX0_sees 44 = .ok (.aload_n 0, 1) := by decide +kernel
theorem dX0_sees_45 : decode cX0_sees 45 = .ok (.getfield 15, 3) := by decide +kernel
theorem dX0_sees_48 : decode cX0_sees 48 = .ok (.iconst 1, 1) := by decide +kernel
theorem dX0_sees_49 : decode cX0_sees 49 = .ok (.iadd, 1) := by decide +kernel
theorem dX0_sees_50 : decode cX0_sees 50 = .ok (.if_icmp .eq 7, 3) := by decide +kernel
theorem dX0_sees_53 : decode cX0_sees 53 = .ok (.iconst 1, 1) := by decide +kernel
theorem dX0_sees_54 : decode cX0_sees 54 = .ok (.goto 4, 3) := by decide +kernel
theorem dX0_sees_57 : decode cX0_sees 57 = .ok (.iconst 0, 1) := by decide +kernel
theorem dX0_sees_58 : decode cX0_sees 58 = .ok (.ireturn, 1) := by decide +kernel
theorem dX0_keepsFirst_0 : decode cX0_keepsFirst 0 = .ok (.aload_n 0, 1) := by decide +kernel
theorem dX0_keepsFirst_1 : decode cX0_keepsFirst 1 = .ok (.getfield 9, 3) := by decide +kernel
theorem dX0_keepsFirst_4 : decode cX0_keepsFirst 4 = .ok (.iconst 2, 1) := by decide +kernel
theorem dX0_keepsFirst_5 : decode cX0_keepsFirst 5 = .ok (.if_icmp .eq 13, 3) := by decide +kernel
theorem dX0_keepsFirst_8 : decode cX0_keepsFirst 8 = .ok (.aload_n 0, 1) := by decide +kernel
theorem dX0_keepsFirst_9 : decode cX0_keepsFirst 9 = .ok (.getfield 9, 3) := by decide +kernel
theorem dX0_keepsFirst_12 : decode cX0_keepsFirst 12 = .ok (.iconst 4, 1) := by decide +kernel
theorem dX0_keepsFirst_13 : decode cX0_keepsFirst 13 = .ok (.if_icmp .eq 5, 3) := by decide +kernel
theorem dX0_keepsFirst_16 : decode cX0_keepsFirst 16 = .ok (.iload_n 1, 1) := by decide +kernel
theorem dX0_keepsFirst_17 : decode cX0_keepsFirst 17 = .ok (.ireturn, 1) := by decide +kernel
theorem dX0_keepsFirst_18 : decode cX0_keepsFirst 18 = .ok (.iload_n 2, 1) := by decide +kernel
theorem dX0_keepsFirst_19 : decode cX0_keepsFirst 19 = .ok (.aload_n 0, 1) := by decide +kernel
theorem dX0_keepsFirst_20 : decode cX0_keepsFirst 20 = .ok (.getfield 15, 3) := by decide +kernel
theorem dX0_keepsFirst_23 : decode cX0_keepsFirst 23 = .ok (.iconst 3, 1) := by decide +kernel
theorem dX0_keepsFirst_24 : decode cX0_keepsFirst 24 = .ok (.iadd, 1) := by decide +kernel
theorem dX0_keepsFirst_25 : decode cX0_keepsFirst 25 = .ok (.irem, 1) := by decide +kernel
theorem dX0_keepsFirst_26 : decode cX0_keepsFirst 26 = .ok (.aload_n 0, 1) := by decide +kernel
theorem dX0_keepsFirst_27 : decode cX0_keepsFirst 27 = .ok (.getfield 15, 3) := by decide +kernel
theorem dX0_keepsFirst_30 : decode cX0_keepsFirst 30 = .ok (.iconst 2, 1) := by decide +kernel
theorem dX0_keepsFirst_31 : decode cX0_keepsFirst 31 = .ok (.iadd, 1) := by decide +kernel
theorem dX0_keepsFirst_32 : decode cX0_keepsFirst 32 = .ok (.if_icmp .ne 9, 3) := by decide +kernel
theorem dX0_keepsFirst_35 : decode cX0_keepsFirst 35 = .ok (.iload_n 1, 1) := by decide +kernel
theorem dX0_keepsFirst_36 : decode cX0_keepsFirst 36 = .ok (.iconst 1, 1) := by decide +kernel
theorem dX0_keepsFirst_37 : decode cX0_keepsFirst 37 = .ok (.iadd, 1) := by decide +kernel
theorem dX0_keepsFirst_38 : decode cX0_keepsFirst 38 = .ok (.goto 4, 3) := by decide +kernel
theorem dX0_keepsFirst_41 : decode cX0_keepsFirst 41 = .ok (.iload_n 1, 1) := by decide +kernel
theorem dX0_keepsFirst_42 : decode cX0_keepsFirst 42 = .ok (.istore_n 3, 1) := by decide +kernel
theorem dX0_keepsFirst_43 : decode cX0_keepsFirst 43 = .ok (.aload_n 0, 1) := by decide +kernel
theorem dX0_keepsFirst_44 : decode cX0_keepsFirst 44 = .ok (.getfield 9, 3) := by decide +kernel
theorem dX0_keepsFirst_47 : decode cX0_keepsFirst 47 = .ok (.iconst 4, 1) := by decide +kernel
theorem dX0_keepsFirst_48 : decode cX0_keepsFirst 48 = .ok (.if_icmp .ne 16, 3) := by decide +kernel
theorem dX0_keepsFirst_51 : decode cX0_keepsFirst 51 = .ok (.iload_n 3, 1) := by decide +kernel
theorem dX0_keepsFirst_52 : decode cX0_keepsFirst 52 = .ok (.iconst 1, 1) := by decide +kernel
theorem dX0_keepsFirst_53 : decode cX0_keepsFirst 53 = .ok (.iand, 1) := by decide +kernel
theorem dX0_keepsFirst_54 : decode cX0_keepsFirst 54 = .ok (.iconst 1, 1) := by decide +kernel
theorem dX0_keepsFirst_55 : decode cX0_keepsFirst 55 = .ok (.if_icmp .ne 9, 3) := by decide +kernel
theorem dX0_keepsFirst_58 : decode cX0_keepsFirst 58 = .ok (.iload_n 3, 1) := by decide +kernel
theorem dX0_keepsFirst_59 : decode cX0_keepsFirst 59 = .ok (.iconst 1, 1) := by decide +kernel
theorem dX0_keepsFirst_60 : decode cX0_keepsFirst 60 = .ok (.isub, 1) := by decide +kernel
theorem dX0_keepsFirst_61 : decode cX0_keepsFirst 61 = .ok (.goto 4, 3) := by decide +kernel
theorem dX0_keepsFirst_64 : decode cX0_keepsFirst 64 = .ok (.iload_n 3, 1) := by decide +kernel
theorem dX0_keepsFirst_65 : decode cX0_keepsFirst 65 = .ok (.ireturn, 1) := by decide +kernel
theorem dX0_goings_0 : decode cX0_goings 0 = .ok (.aload_n 0, 1) := by decide +kernel
theorem dX0_goings_1 : decode cX0_goings 1 = .ok (.getfield 9, 3) := by decide +kernel
theorem dX0_goings_4 : decode cX0_goings 4 = .ok (.iconst 5, 1) := by decide +kernel
theorem dX0_goings_5 : decode cX0_goings 5 = .ok (.if_icmp .ne 14, 3) := by decide +kernel
theorem dX0_goings_8 : decode cX0_goings 8 = .ok (.iconst 2, 1) := by decide +kernel
theorem dX0_goings_9 : decode cX0_goings 9 = .ok (.aload_n 0, 1) := by decide +kernel
theorem dX0_goings_10 : decode cX0_goings 10 = .ok (.getfield 15, 3) := by decide +kernel
theorem dX0_goings_13 : decode cX0_goings 13 = .ok (.iconst 5, 1) := by decide +kernel
theorem dX0_goings_14 : decode cX0_goings 14 = .ok (.idiv, 1) := by decide +kernel
theorem dX0_goings_15 : decode cX0_goings 15 = .ok (.iadd, 1) := by decide +kernel
theorem dX0_goings_16 : decode cX0_goings 16 = .ok (.goto 4, 3) := by decide +kernel
theorem dX0_goings_19 : decode cX0_goings 19 = .ok (.iconst 1, 1) := by decide +kernel
theorem dX0_goings_20 : decode cX0_goings 20 = .ok (.ireturn, 1) := by decide +kernel
theorem dX0_lowest_0 : decode cX0_lowest 0 = .ok (.iload_n 1, 1) := by decide +kernel
theorem dX0_lowest_1 : decode cX0_lowest 1 = .ok (.iconst 1, 1) := by decide +kernel
theorem dX0_lowest_2 : decode cX0_lowest 2 = .ok (.aload_n 0, 1) := by decide +kernel
theorem dX0_lowest_3 : decode cX0_lowest 3 = .ok (.getfield 18, 3) := by decide +kernel
theorem dX0_lowest_6 : decode cX0_lowest 6 = .ok (.ishl, 1) := by decide +kernel
theorem dX0_lowest_7 : decode cX0_lowest 7 = .ok (.iconst 1, 1) := by decide +kernel
theorem dX0_lowest_8 : decode cX0_lowest 8 = .ok (.isub, 1) := by decide +kernel
theorem dX0_lowest_9 : decode cX0_lowest 9 = .ok (.iand, 1) := by decide +kernel
theorem dX0_lowest_10 : decode cX0_lowest 10 = .ok (.ireturn, 1) := by decide +kernel
set_option maxRecDepth 20000 in
theorem ggX1_init_X4_init : GoodIn wsX1_init wsX4_init := goodIn_r _ [17, 18, 2, 3, 19, 20, 21, 30, 31] rfl (by decide +kernel)
set_option maxRecDepth 20000 in
theorem gX1_init_X4_init_n11 : GoodIn wsX1_init (wsX4_init) := ggX1_init_X4_init
set_option maxRecDepth 20000 in
theorem ggX1_init_X0_init : GoodIn wsX1_init wsX0_init := goodIn_r _ [23, 24, 2, 3, 25, 26, 27, 28, 29, 38, 39, 40, 41, 42] rfl (by decide +kernel)
set_option maxRecDepth 20000 in
theorem gX1_init_X0_init_n38 : GoodIn wsX1_init (wsX0_init) := ggX1_init_X0_init
theorem dX1_init_0 : decode cX1_init 0 = .ok (.aload_n 0, 1) := by decide +kernel
theorem dX1_init_1 : decode cX1_init 1 = .ok (.invokespecial 3, 3) := by decide +kernel
theorem dX1_init_4 : decode cX1_init 4 = .ok (.aload_n 0, 1) := by decide +kernel
theorem dX1_init_5 : decode cX1_init 5 = .ok (.new 9, 3) := by decide +kernel
theorem dX1_init_8 : decode cX1_init 8 = .ok (.dup, 1) := by decide +kernel
theorem dX1_init_9 : decode cX1_init 9 = .ok (.invokespecial 11, 3) := by decide +kernel
theorem dX1_init_12 : decode cX1_init 12 = .ok (.putfield 12, 3) := by decide +kernel
theorem dX1_init_15 : decode cX1_init 15 = .ok (.aload_n 0, 1) := by decide +kernel
theorem dX1_init_16 : decode cX1_init 16 = .ok (.iconst 5, 1) := by decide +kernel
theorem dX1_init_17 : decode cX1_init 17 = .ok (.anewarray 18, 3) := by decide +kernel
theorem dX1_init_20 : decode cX1_init 20 = .ok (.putfield 20, 3) := by decide +kernel
theorem dX1_init_23 : decode cX1_init 23 = .ok (.aload_n 0, 1) := by decide +kernel
theorem dX1_init_24 : decode cX1_init 24 = .ok (.iconst 0, 1) := by decide +kernel
theorem dX1_init_25 : decode cX1_init 25 = .ok (.putfield 24, 3) := by decide +kernel
theorem dX1_init_28 : decode cX1_init 28 = .ok (.aload_n 0, 1) := by decide +kernel
theorem dX1_init_29 : decode cX1_init 29 = .ok (.iconst 0, 1) := by decide +kernel
theorem dX1_init_30 : decode cX1_init 30 = .ok (.putfield 28, 3) := by decide +kernel
theorem dX1_init_33 : decode cX1_init 33 = .ok (.aload_n 0, 1) := by decide +kernel
theorem dX1_init_34 : decode cX1_init 34 = .ok (.iconst 0, 1) := by decide +kernel
theorem dX1_init_35 : decode cX1_init 35 = .ok (.putfield 32, 3) := by decide +kernel
theorem dX1_init_38 : decode cX1_init 38 = .ok (.aload_n 0, 1) := by decide +kernel
theorem dX1_init_39 : decode cX1_init 39 = .ok (.iconst 0, 1) := by decide +kernel
theorem dX1_init_40 : decode cX1_init 40 = .ok (.putfield 35, 3) := by decide +kernel
theorem dX1_init_43 : decode cX1_init 43 = .ok (.iconst 0, 1) := by decide +kernel
theorem dX1_init_44 : decode cX1_init 44 = .ok (.istore_n 1, 1) := by decide +kernel
theorem dX1_init_45 : decode cX1_init 45 = .ok (.iload_n 1, 1) := by decide +kernel
theorem dX1_init_46 : decode cX1_init 46 = .ok (.iconst 5, 1) := by decide +kernel
theorem dX1_init_47 : decode cX1_init 47 = .ok (.if_icmp .ge 22, 3) := by decide +kernel
theorem dX1_init_50 : decode cX1_init 50 = .ok (.aload_n 0, 1) := by decide +kernel
theorem dX1_init_51 : decode cX1_init 51 = .ok (.getfield 20, 3) := by decide +kernel
theorem dX1_init_54 : decode cX1_init 54 = .ok (.iload_n 1, 1) := by decide +kernel
theorem dX1_init_55 : decode cX1_init 55 = .ok (.new 18, 3) := by decide +kernel
theorem dX1_init_58 : decode cX1_init 58 = .ok (.dup, 1) := by decide +kernel
theorem dX1_init_59 : decode cX1_init 59 = .ok (.invokespecial 38, 3) := by decide +kernel
theorem dX1_init_62 : decode cX1_init 62 = .ok (.aastore, 1) := by decide +kernel
theorem dX1_init_63 : decode cX1_init 63 = .ok (.iinc 1 1, 3) := by decide +kernel
theorem dX1_init_66 : decode cX1_init 66 = .ok (.goto (-21), 3) := by decide +kernel
theorem dX1_init_69 : decode cX1_init 69 = .ok (.return_, 1) := by decide +kernel
theorem dX2_init_0 : decode cX2_init 0 = .ok (.aload_n 0, 1) := by decide +kernel
theorem dX2_init_1 : decode cX2_init 1 = .ok (.invokespecial 1, 3) := by decide +kernel
theorem dX2_init_4 : decode cX2_init 4 = .ok (.aload_n 0, 1) := by decide +kernel
theorem dX2_init_5 : decode cX2_init 5 = .ok (.lconst 1, 1) := by decide +kernel
theorem dX2_init_6 : decode cX2_init 6 = .ok (.putfield 7, 3) := by decide +kernel
theorem dX2_init_9 : decode cX2_init 9 = .ok (.return_, 1) := by decide +kernel
theorem dX2_start_0 : decode cX2_start 0 = .ok (.aload_n 0, 1) := by decide +kernel
theorem dX2_start_1 : decode cX2_start 1 = .ok (.iload_n 1, 1) := by decide +kernel
theorem dX2_start_2 : decode cX2_start 2 = .ok (.i2l, 1) := by decide +kernel
theorem dX2_start_3 : decode cX2_start 3 = .ok (.lconst 1, 1) := by decide +kernel
theorem dX2_start_4 : decode cX2_start 4 = .ok (.ladd, 1) := by decide +kernel
theorem dX2_start_5 : decode cX2_start 5 = .ok (.putfield 7, 3) := by decide +kernel
theorem dX2_start_8 : decode cX2_start 8 = .ok (.return_, 1) := by decide +kernel
theorem dX2_below_0 : decode cX2_below 0 = .ok (.aload_n 0, 1) := by decide +kernel
theorem dX2_below_1 : decode cX2_below 1 = .ok (.aload_n 0, 1) := by decide +kernel
theorem dX2_below_2 : decode cX2_below 2 = .ok (.getfield 7, 3) := by decide +kernel
theorem dX2_below_5 : decode cX2_below 5 = .ok (.ldc2_w 13, 3) := by decide +kernel
theorem dX2_below_8 : decode cX2_below 8 = .ok (.lmul, 1) := by decide +kernel
theorem dX2_below_9 : decode cX2_below 9 = .ok (.ldc2_w 15, 3) := by decide +kernel
theorem dX2_below_12 : decode cX2_below 12 = .ok (.lrem, 1) := by decide +kernel
theorem dX2_below_13 : decode cX2_below 13 = .ok (.putfield 7, 3) := by decide +kernel
theorem dX2_below_16 : decode cX2_below 16 = .ok (.iload_n 1, 1) := by decide +kernel
theorem dX2_below_17 : decode cX2_below 17 = .ok (.ifCond .le 14, 3) := by decide +kernel
theorem dX2_below_20 : decode cX2_below 20 = .ok (.aload_n 0, 1) := by decide +kernel
theorem dX2_below_21 : decode cX2_below 21 = .ok (.getfield 7, 3) := by decide +kernel
theorem dX2_below_24 : decode cX2_below 24 = .ok (.iload_n 1, 1) := by decide +kernel
theorem dX2_below_25 : decode cX2_below 25 = .ok (.i2l, 1) := by decide +kernel
theorem dX2_below_26 : decode cX2_below 26 = .ok (.lrem, 1) := by decide +kernel
theorem dX2_below_27 : decode cX2_below 27 = .ok (.l2i, 1) := by decide +kernel
theorem dX2_below_28 : decode cX2_below 28 = .ok (.goto 4, 3) := by decide +kernel
theorem dX2_below_31 : decode cX2_below 31 = .ok (.iconst 0, 1) := by decide +kernel
theorem dX2_below_32 : decode cX2_below 32 = .ok (.ireturn, 1) := by decide +kernel
theorem dX3_init_0 : decode cX3_init 0 = .ok (.aload_n 0, 1) := by decide +kernel
theorem dX3_init_1 : decode cX3_init 1 = .ok (.invokespecial 3, 3) := by decide +kernel
theorem dX3_init_4 : decode cX3_init 4 = .ok (.aload_n 0, 1) := by decide +kernel
theorem dX3_init_5 : decode cX3_init 5 = .ok (.sipush 160, 3) := by decide +kernel
theorem dX3_init_8 : decode cX3_init 8 = .ok (.newarray .int, 2) := by decide +kernel
theorem dX3_init_10 : decode cX3_init 10 = .ok (.putfield 9, 3) := by decide +kernel
theorem dX3_init_13 : decode cX3_init 13 = .ok (.aload_n 0, 1) := by decide +kernel
theorem dX3_init_14 : decode cX3_init 14 = .ok (.iconst 0, 1) := by decide +kernel
theorem dX3_init_15 : decode cX3_init 15 = .ok (.putfield 15, 3) := by decide +kernel
theorem dX3_init_18 : decode cX3_init 18 = .ok (.aload_n 0, 1) := by decide +kernel
theorem dX3_init_19 : decode cX3_init 19 = .ok (.iconst 0, 1) := by decide +kernel
theorem dX3_init_20 : decode cX3_init 20 = .ok (.putfield 19, 3) := by decide +kernel
theorem dX3_init_23 : decode cX3_init 23 = .ok (.aload_n 0, 1) := by decide +kernel
theorem dX3_init_24 : decode cX3_init 24 = .ok (.bipush 21, 2) := by decide +kernel
theorem dX3_init_26 : decode cX3_init 26 = .ok (.putfield 22, 3) := by decide +kernel
theorem dX3_init_29 : decode cX3_init 29 = .ok (.aload_n 0, 1) := by decide +kernel
theorem dX3_init_30 : decode cX3_init 30 = .ok (.iconst 0, 1) := by decide +kernel
theorem dX3_init_31 : decode cX3_init 31 = .ok (.putfield 25, 3) := by decide +kernel
theorem dX3_init_34 : decode cX3_init 34 = .ok (.aload_n 0, 1) := by decide +kernel
theorem dX3_init_35 : decode cX3_init 35 = .ok (.iconst (-1), 1) := by decide +kernel
theorem dX3_init_36 : decode cX3_init 36 = .ok (.putfield 28, 3) := by decide +kernel
theorem dX3_init_39 : decode cX3_init 39 = .ok (.aload_n 0, 1) := by decide +kernel
theorem dX3_init_40 : decode cX3_init 40 = .ok (.aconst_null, 1) := by decide +kernel
theorem dX3_init_41 : decode cX3_init 41 = .ok (.putfield 31, 3) := by decide +kernel
theorem dX3_init_44 : decode cX3_init 44 = .ok (.return_, 1) := by decide +kernel
theorem dX3_take_0 : decode cX3_take 0 = .ok (.aload_n 0, 1) := by decide +kernel
theorem dX3_take_1 : decode cX3_take 1 = .ok (.getfield 15, 3) := by decide +kernel
theorem dX3_take_4 : decode cX3_take 4 = .ok (.sipush 160, 3) := by decide +kernel
theorem dX3_take_7 : decode cX3_take 7 = .ok (.if_icmp .ge 23, 3) := by decide +kernel
theorem dX3_take_10 : decode cX3_take 10 = .ok (.aload_n 0, 1) := by decide +kernel
theorem dX3_take_11 : decode cX3_take 11 = .ok (.getfield 9, 3) := by decide +kernel
theorem dX3_take_14 : decode cX3_take 14 = .ok (.aload_n 0, 1) := by decide +kernel
theorem dX3_take_15 : decode cX3_take 15 = .ok (.getfield 15, 3) := by decide +kernel
theorem dX3_take_18 : decode cX3_take 18 = .ok (.iload_n 1, 1) := by decide +kernel
theorem dX3_take_19 : decode cX3_take 19 = .ok (.iastore, 1) := by decide +kernel
theorem dX3_take_20 : decode cX3_take 20 = .ok (.aload_n 0, 1) := by decide +kernel
theorem dX3_take_21 : decode cX3_take 21 = .ok (.dup, 1) := by decide +kernel
theorem dX3_take_22 : decode cX3_take 22 = .ok (.getfield 15, 3) := by decide +kernel
theorem dX3_take_25 : decode cX3_take 25 = .ok (.iconst 1, 1) := by decide +kernel
theorem dX3_take_26 : decode cX3_take 26 = .ok (.iadd, 1) := by decide +kernel
theorem dX3_take_27 : decode cX3_take 27 = .ok (.putfield 15, 3) := by decide +kernel
theorem dX3_take_30 : decode cX3_take 30 = .ok (.return_, 1) := by decide +kernel
set_option maxRecDepth 20000 in
theorem ggX3_readInto_X6_clear : GoodIn wsX3_readInto wsX6_clear := goodIn_r _ [8, 9, 10, 155, 156, 157, 158] rfl (by decide +kernel)
set_option maxRecDepth 20000 in
theorem gX3_readInto_X6_clear_n35 : GoodIn wsX3_readInto (wsX6_clear) := ggX3_readInto_X6_clear
set_option maxRecDepth 20000 in
theorem ggX3_readInto_X3_advance : GoodIn wsX3_readInto wsX3_advance := goodIn_r _ [15, 2, 4, 16, 17, 18, 19, 20, 14, 21, 22, 23, 24, 25, 26, 27, 28, 29, 30, 31, 32, 33, 34, 35, 36, 37, 38, 39, 40, 41, 42, 43, 44, 45, 46, 47, 48, 49, 50, 51, 52, 53, 54, 55, 56, 57, 58, 59, 60, 61, 62, 63, 64, 65, 66, 67, 68, 69, 70, 71, 72, 73, 74, 75, 76, 77, 78, 79, 80, 81, 82, 83, 84, 85, 86, 87, 88, 89, 90, 91, 92, 93, 94, 95, 148, 149, 150, 151, 152, 153, 154] rfl (by decide +kernel)
set_option maxRecDepth 20000 in
theorem gX3_readInto_X3_advance : GoodIn wsX3_readInto (wsV RX3 40 RX3 yX3_advance wsX3_advance) := goodIn_app (goodIn_of _ (by decide +kernel)) ggX3_readInto_X3_advance
set_option maxRecDepth 20000 in
theorem ggX3_readInto_X3_readPart : GoodIn wsX3_readInto wsX3_readPart := goodIn_r _ [99, 1, 100, 101, 102, 14, 103, 18, 11, 12, 13, 15, 2, 4, 16, 17, 19, 20, 21, 22, 23, 24, 25, 26, 27, 28, 29, 30, 31, 32, 33, 34, 35, 36, 37, 38, 39, 40, 41, 42, 43, 44, 45, 46, 47, 48, 49, 50, 51, 52, 53, 54, 55, 56, 57, 58, 59, 60, 61, 62, 63, 64, 65, 66, 67, 68, 69, 70, 71, 72, 73, 74, 75, 76, 77, 78, 79, 80, 81, 82, 83, 84, 85, 86, 87, 88, 89, 90, 91, 92, 93, 94, 95, 104, 105, 106, 107, 3, 108, 109, 110, 111, 112, 113, 114, 115, 116, 117, 118, 119, 6, 120, 121, 9, 122, 123, 124, 125, 126, 127, 128, 129, 130, 131, 132, 133, 134, 135, 136, 137, 138, 139, 140, 141, 142, 10, 143, 148, 149, 150, 151, 152, 153, 154, 155, 156, 157, 158] rfl (by decide +kernel)
set_option maxRecDepth 20000 in
theorem gX3_readInto_X3_readPart : GoodIn wsX3_readInto (wsV RX3 43 RX3 yX3_readPart wsX3_readPart) := goodIn_app (goodIn_of _ (by decide +kernel)) ggX3_readInto_X3_readPart
set_option maxRecDepth 20000 in
theorem ggX3_readInto_X3_expectAtEnd : GoodIn wsX3_readInto wsX3_expectAtEnd := goodIn_r _ [147, 18, 104, 105, 106, 14, 107, 3, 17, 148, 149, 150, 151, 152, 153, 154] rfl (by decide +kernel)
set_option maxRecDepth 20000 in
theorem gX3_readInto_X3_expectAtEnd : GoodIn wsX3_readInto (wsV RX3 47 RX3 yX3_expectAtEnd wsX3_expectAtEnd) := goodIn_app (goodIn_of _ (by decide +kernel)) ggX3_readInto_X3_expectAtEnd
theorem dX3_readInto_0 : decode cX3_readInto 0 = .ok (.aload_n 1, 1) := by decide +kernel
theorem dX3_readInto_1 : decode cX3_readInto 1 = .ok (.invokevirtual 35, 3) := by decide +kernel
theorem dX3_readInto_4 : decode cX3_readInto 4 = .ok (.aload_n 0, 1) := by decide +kernel
theorem dX3_readInto_5 : decode cX3_readInto 5 = .ok (.aload_n 1, 1) := by decide +kernel
theorem dX3_readInto_6 : decode cX3_readInto 6 = .ok (.putfield 31, 3) := by decide +kernel
theorem dX3_readInto_9 : decode cX3_readInto 9 = .ok (.aload_n 0, 1) := by decide +kernel
theorem dX3_readInto_10 : decode cX3_readInto 10 = .ok (.iconst 0, 1) := by decide +kernel
theorem dX3_readInto_11 : decode cX3_readInto 11 = .ok (.putfield 19, 3) := by decide +kernel
theorem dX3_readInto_14 : decode cX3_readInto 14 = .ok (.aload_n 0, 1) := by decide +kernel
theorem dX3_readInto_15 : decode cX3_readInto 15 = .ok (.iconst (-1), 1) := by decide +kernel
theorem dX3_readInto_16 : decode cX3_readInto 16 = .ok (.putfield 28, 3) := by decide +kernel
theorem dX3_readInto_19 : decode cX3_readInto 19 = .ok (.aload_n 0, 1) := by decide +kernel
theorem dX3_readInto_20 : decode cX3_readInto 20 = .ok (.invokevirtual 40, 3) := by decide +kernel
theorem dX3_readInto_23 : decode cX3_readInto 23 = .ok (.aload_n 0, 1) := by decide +kernel
theorem dX3_readInto_24 : decode cX3_readInto 24 = .ok (.bipush 18, 2) := by decide +kernel
theorem dX3_readInto_26 : decode cX3_readInto 26 = .ok (.invokevirtual 43, 3) := by decide +kernel
theorem dX3_readInto_29 : decode cX3_readInto 29 = .ok (.aload_n 0, 1) := by decide +kernel
theorem dX3_readInto_30 : decode cX3_readInto 30 = .ok (.bipush 19, 2) := by decide +kernel
theorem dX3_readInto_32 : decode cX3_readInto 32 = .ok (.invokevirtual 43, 3) := by decide +kernel
theorem dX3_readInto_35 : decode cX3_readInto 35 = .ok (.aload_n 0, 1) := by decide +kernel
theorem dX3_readInto_36 : decode cX3_readInto 36 = .ok (.bipush 20, 2) := by decide +kernel
theorem dX3_readInto_38 : decode cX3_readInto 38 = .ok (.invokevirtual 43, 3) := by decide +kernel
theorem dX3_readInto_41 : decode cX3_readInto 41 = .ok (.aload_n 0, 1) := by decide +kernel
theorem dX3_readInto_42 : decode cX3_readInto 42 = .ok (.invokevirtual 47, 3) := by decide +kernel
theorem dX3_readInto_45 : decode cX3_readInto 45 = .ok (.aload_n 0, 1) := by decide +kernel
theorem dX3_readInto_46 : decode cX3_readInto 46 = .ok (.iconst 0, 1) := by decide +kernel
theorem dX3_readInto_47 : decode cX3_readInto 47 = .ok (.putfield 15, 3) := by decide +kernel
theorem dX3_readInto_50 : decode cX3_readInto 50 = .ok (.aload_n 0, 1) := by decide +kernel
theorem dX3_readInto_51 : decode cX3_readInto 51 = .ok (.getfield 28, 3) := by decide +kernel
theorem dX3_readInto_54 : decode cX3_readInto 54 = .ok (.ireturn, 1) := by decide +kernel
theorem dX3_refuse_0 : decode cX3_refuse 0 = .ok (.aload_n 0, 1) := by decide +kernel
theorem dX3_refuse_1 : decode cX3_refuse 1 = .ok (.getfield 28, 3) := by decide +kernel
theorem dX3_refuse_4 : decode cX3_refuse 4 = .ok (.iconst (-1), 1) := by decide +kernel
theorem dX3_refuse_5 : decode cX3_refuse 5 = .ok (.if_icmp .ne 11, 3) := by decide +kernel
theorem dX3_refuse_8 : decode cX3_refuse 8 = .ok (.aload_n 0, 1) := by decide +kernel
theorem dX3_refuse_9 : decode cX3_refuse 9 = .ok (.aload_n 0, 1) := by decide +kernel
theorem dX3_refuse_10 : decode cX3_refuse 10 = .ok (.getfield 25, 3) := by decide +kernel
theorem dX3_refuse_13 : decode cX3_refuse 13 = .ok (.putfield 28, 3) := by decide +kernel
theorem dX3_refuse_16 : decode cX3_refuse 16 = .ok (.aload_n 0, 1) := by decide +kernel
theorem dX3_refuse_17 : decode cX3_refuse 17 = .ok (.bipush 22, 2) := by decide +kernel
theorem dX3_refuse_19 : decode cX3_refuse 19 = .ok (.putfield 22, 3) := by decide +kernel
theorem dX3_refuse_22 : decode cX3_refuse 22 = .ok (.return_, 1) := by decide +kernel
set_option maxRecDepth 20000 in
theorem ggX3_expectAtEnd_X3_refuse : GoodIn wsX3_expectAtEnd wsX3_refuse := goodIn_r _ [6, 7, 8, 1, 9, 10, 11, 12, 13, 14, 15] rfl (by decide +kernel)
set_option maxRecDepth 20000 in
theorem gX3_expectAtEnd_X3_refuse : GoodIn wsX3_expectAtEnd (wsV RX3 50 RX3 yX3_refuse wsX3_refuse) := goodIn_app (goodIn_of _ (by decide +kernel)) ggX3_expectAtEnd_X3_refuse
theorem dX3_expectAtEnd_0 : decode cX3_expectAtEnd 0 = .ok (.aload_n 0, 1) := by decide +kernel
theorem dX3_expectAtEnd_1 : decode cX3_expectAtEnd 1 = .ok (.getfield 22, 3) := by decide +kernel
theorem dX3_expectAtEnd_4 : decode cX3_expectAtEnd 4 = .ok (.bipush 21, 2) := by decide +kernel
theorem dX3_expectAtEnd_6 : decode cX3_expectAtEnd 6 = .ok (.if_icmp .eq 7, 3) := by decide +kernel
theorem dX3_expectAtEnd_9 : decode cX3_expectAtEnd 9 = .ok (.aload_n 0, 1) := by decide +kernel
theorem dX3_expectAtEnd_10 : decode cX3_expectAtEnd 10 = .ok (.invokevirtual 50, 3) := by decide +kernel
theorem dX3_expectAtEnd_13 : decode cX3_expectAtEnd 13 = .ok (.return_, 1) := by decide +kernel
set_option maxRecDepth 20000 in
theorem ggX3_expect_X3_advance : GoodIn wsX3_expect wsX3_advance := goodIn_r _ [6, 7, 8, 9, 10, 1, 11, 12, 5, 13, 14, 15, 16, 17, 18, 19, 20, 21, 22, 23, 24, 25, 26, 27, 28, 29, 30, 31, 32, 33, 34, 35, 36, 37, 38, 39, 40, 41, 42, 43, 44, 45, 46, 47, 48, 49, 50, 51, 52, 53, 54, 55, 56, 57, 58, 59, 60, 61, 62, 63, 64, 65, 66, 67, 68, 69, 70, 71, 72, 73, 74, 75, 76, 77, 78, 79, 80, 81, 82, 83, 84, 85, 86, 87, 93, 94, 95, 96, 97, 98, 99] rfl (by decide +kernel)
set_option maxRecDepth 20000 in
theorem gX3_expect_X3_advance : GoodIn wsX3_expect (wsV RX3 40 RX3 yX3_advance wsX3_advance) := goodIn_app (goodIn_of _ (by decide +kernel)) ggX3_expect_X3_advance
set_option maxRecDepth 20000 in
theorem ggX3_expect_X3_refuse : GoodIn wsX3_expect wsX3_refuse := goodIn_r _ [91, 92, 10, 1, 93, 94, 95, 96, 97, 98, 99] rfl (by decide +kernel)
set_option maxRecDepth 20000 in
theorem gX3_expect_X3_refuse : GoodIn wsX3_expect (wsV RX3 50 RX3 yX3_refuse wsX3_refuse) := goodIn_app (goodIn_of _ (by decide +kernel)) ggX3_expect_X3_refuse
theorem dX3_expect_0 : decode cX3_expect 0 = .ok (.aload_n 0, 1) := by decide +kernel
theorem dX3_expect_1 : decode cX3_expect 1 = .ok (.getfield 22, 3) := by decide +kernel
theorem dX3_expect_4 : decode cX3_expect 4 = .ok (.iload_n 1, 1) := by decide +kernel
theorem dX3_expect_5 : decode cX3_expect 5 = .ok (.if_icmp .ne 10, 3) := by decide +kernel
theorem dX3_expect_8 : decode cX3_expect 8 = .ok (.aload_n 0, 1) := by decide +kernel
theorem dX3_expect_9 : decode cX3_expect 9 = .ok (.invokevirtual 40, 3) := by decide +kernel
theorem dX3_expect_12 : decode cX3_expect 12 = .ok (.goto 7, 3) := by decide +kernel
theorem dX3_expect_15 : decode cX3_expect 15 = .ok (.aload_n 0, 1) := by decide +kernel
theorem dX3_expect_16 : decode cX3_expect 16 = .ok (.invokevirtual 50, 3) := by decide +kernel
theorem dX3_expect_19 : decode cX3_expect 19 = .ok (.return_, 1) := by decide +kernel
set_option maxRecDepth 20000 in
theorem ggX3_put_X6_add : GoodIn wsX3_put wsX6_add := goodIn_r _ [5, 6, 7, 15, 16, 17, 18] rfl (by decide +kernel)
set_option maxRecDepth 20000 in
theorem gX3_put_X6_add_n53 : GoodIn wsX3_put (wsX6_add) := ggX3_put_X6_add
theorem dX3_put_0 : decode cX3_put 0 = .ok (.aload_n 0, 1) := by decide +kernel
theorem dX3_put_1 : decode cX3_put 1 = .ok (.getfield 31, 3) := by decide +kernel
theorem dX3_put_4 : decode cX3_put 4 = .ok (.ifnull 11, 3) := by decide +kernel
theorem dX3_put_7 : decode cX3_put 7 = .ok (.aload_n 0, 1) := by decide +kernel
theorem dX3_put_8 : decode cX3_put 8 = .ok (.getfield 31, 3) := by decide +kernel
theorem dX3_put_11 : decode cX3_put 11 = .ok (.iload_n 1, 1) := by decide +kernel
theorem dX3_put_12 : decode cX3_put 12 = .ok (.invokevirtual 53, 3) := by decide +kernel
theorem dX3_put_15 : decode cX3_put 15 = .ok (.return_, 1) := by decide +kernel
set_option maxRecDepth 20000 in
theorem ggX3_readPart_X3_expect : GoodIn wsX3_readPart wsX3_expect := goodIn_r _ [6, 7, 8, 9, 10, 5, 11, 12, 13, 14, 15, 16, 17, 18, 19, 20, 21, 22, 23, 24, 25, 26, 27, 28, 29, 30, 31, 32, 33, 34, 35, 36, 37, 38, 39, 40, 41, 42, 43, 44, 45, 46, 47, 48, 49, 50, 51, 52, 53, 54, 55, 56, 57, 58, 59, 60, 61, 62, 63, 64, 65, 66, 67, 68, 69, 70, 71, 72, 73, 74, 75, 76, 77, 78, 79, 80, 81, 82, 83, 84, 85, 86, 87, 88, 89, 90, 91, 92, 93, 94, 95, 96, 97, 137, 138, 139, 140, 141, 142, 143] rfl (by decide +kernel)
set_option maxRecDepth 20000 in
theorem gX3_readPart_X3_expect : GoodIn wsX3_readPart (wsV RX3 56 RX3 yX3_expect wsX3_expect) := goodIn_app (goodIn_of _ (by decide +kernel)) ggX3_readPart_X3_expect
set_option maxRecDepth 20000 in
theorem ggX3_readPart_X3_readEither : GoodIn wsX3_readPart wsX3_readEither := goodIn_r _ [101, 7, 102, 103, 104, 5, 8, 9, 10, 11, 12, 13, 14, 15, 16, 17, 18, 19, 20, 21, 22, 23, 24, 25, 26, 27, 28, 29, 30, 31, 32, 33, 34, 35, 36, 37, 38, 39, 40, 41, 42, 43, 44, 45, 46, 47, 48, 49, 50, 51, 52, 53, 54, 55, 56, 57, 58, 59, 60, 61, 62, 63, 64, 65, 66, 67, 68, 69, 70, 71, 72, 73, 74, 75, 76, 77, 78, 79, 80, 81, 82, 83, 84, 85, 86, 87, 88, 89, 90, 91, 92, 105, 106, 107, 108, 1, 109, 110, 111, 112, 113, 114, 115, 116, 117, 118, 119, 120, 121, 122, 123, 124, 125, 126, 98, 99, 100, 2, 3, 4, 6, 93, 94, 95, 96, 97, 127, 128, 129, 130, 131, 137, 138, 139, 140, 141, 142, 143, 144, 145, 146, 147] rfl (by decide +kernel)
set_option maxRecDepth 20000 in
theorem gX3_readPart_X3_readEither : GoodIn wsX3_readPart (wsV RX3 59 RX3 yX3_readEither wsX3_readEither) := goodIn_app (goodIn_of _ (by decide +kernel)) ggX3_readPart_X3_readEither
set_option maxRecDepth 20000 in
theorem ggX3_readPart_X6_endPart : GoodIn wsX3_readPart wsX6_endPart := goodIn_r _ [134, 135, 136, 113, 144, 145, 146, 147] rfl (by decide +kernel)
set_option maxRecDepth 20000 in
theorem gX3_readPart_X6_endPart_n62 : GoodIn wsX3_readPart (wsX6_endPart) := ggX3_readPart_X6_endPart
theorem dX3_readPart_0 : decode cX3_readPart 0 = .ok (.aload_n 0, 1) := by decide +kernel
theorem dX3_readPart_1 : decode cX3_readPart 1 = .ok (.iload_n 1, 1) := by decide +kernel
theorem dX3_readPart_2 : decode cX3_readPart 2 = .ok (.invokevirtual 56, 3) := by decide +kernel
theorem dX3_readPart_5 : decode cX3_readPart 5 = .ok (.aload_n 0, 1) := by decide +kernel
theorem dX3_readPart_6 : decode cX3_readPart 6 = .ok (.iconst 0, 1) := by decide +kernel
theorem dX3_readPart_7 : decode cX3_readPart 7 = .ok (.invokevirtual 59, 3) := by decide +kernel
theorem dX3_readPart_10 : decode cX3_readPart 10 = .ok (.aload_n 0, 1) := by decide +kernel
theorem dX3_readPart_11 : decode cX3_readPart 11 = .ok (.bipush 17, 2) := by decide +kernel
theorem dX3_readPart_13 : decode cX3_readPart 13 = .ok (.invokevirtual 56, 3) := by decide +kernel
theorem dX3_readPart_16 : decode cX3_readPart 16 = .ok (.aload_n 0, 1) := by decide +kernel
theorem dX3_readPart_17 : decode cX3_readPart 17 = .ok (.getfield 31, 3) := by decide +kernel
theorem dX3_readPart_20 : decode cX3_readPart 20 = .ok (.ifnull 10, 3) := by decide +kernel
theorem dX3_readPart_23 : decode cX3_readPart 23 = .ok (.aload_n 0, 1) := by decide +kernel
theorem dX3_readPart_24 : decode cX3_readPart 24 = .ok (.getfield 31, 3) := by decide +kernel
theorem dX3_readPart_27 : decode cX3_readPart 27 = .ok (.invokevirtual 62, 3) := by decide +kernel
theorem dX3_readPart_30 : decode cX3_readPart 30 = .ok (.return_, 1) := by decide +kernel
set_option maxRecDepth 20000 in
theorem ggX3_readEither_X3_readBoth : GoodIn wsX3_readEither wsX3_readBoth := goodIn_r _ [102, 1, 103, 104, 105, 5, 6, 7, 8, 9, 10, 11, 12, 13, 14, 15, 16, 17, 18, 19, 20, 21, 22, 23, 24, 25, 26, 27, 28, 29, 30, 31, 32, 33, 34, 35, 36, 37, 38, 39, 40, 41, 42, 43, 44, 45, 46, 47, 48, 49, 50, 51, 52, 53, 54, 55, 56, 57, 58, 59, 60, 61, 62, 63, 64, 65, 66, 67, 68, 69, 70, 71, 72, 73, 74, 75, 76, 77, 78, 79, 80, 81, 82, 83, 84, 85, 86, 87, 88, 89, 90, 91, 92, 93, 94, 95, 96, 97, 98, 99, 100, 101, 0, 2, 3, 4, 106, 107, 108, 109, 110, 111, 112, 113, 114, 115, 116, 117, 118, 119, 120, 121, 122, 123, 124, 125, 126, 127, 128, 129, 130, 131, 132, 133, 134, 135, 136, 137, 138, 139, 140, 141] rfl (by decide +kernel)
set_option maxRecDepth 20000 in
theorem gX3_readEither_X3_readBoth : GoodIn wsX3_readEither (wsV RX3 65 RX3 yX3_readBoth wsX3_readBoth) := goodIn_app (goodIn_of _ (by decide +kernel)) ggX3_readEither_X3_readBoth
set_option maxRecDepth 20000 in
theorem ggX3_readEither_X3_advance : GoodIn wsX3_readEither wsX3_advance := goodIn_r _ [9, 10, 11, 12, 13, 1, 14, 15, 5, 16, 17, 18, 19, 20, 21, 22, 23, 24, 25, 26, 27, 28, 29, 30, 31, 32, 33, 34, 35, 36, 37, 38, 39, 40, 41, 42, 43, 44, 45, 46, 47, 48, 49, 50, 51, 52, 53, 54, 55, 56, 57, 58, 59, 60, 61, 62, 63, 64, 65, 66, 67, 68, 69, 70, 71, 72, 73, 74, 75, 76, 77, 78, 79, 80, 81, 82, 83, 84, 85, 86, 87, 88, 89, 90, 131, 132, 133, 134, 135, 136, 137] rfl (by decide +kernel)
set_option maxRecDepth 20000 in
theorem gX3_readEither_X3_advance : GoodIn wsX3_readEither (wsV RX3 40 RX3 yX3_advance wsX3_advance) := goodIn_app (goodIn_of _ (by decide +kernel)) ggX3_readEither_X3_advance
set_option maxRecDepth 20000 in
theorem ggX3_readEither_X3_put : GoodIn wsX3_readEither wsX3_put := goodIn_r _ [94, 95, 96, 97, 98, 99, 100, 101, 131, 132, 133, 134, 135, 136, 137, 138, 139, 140, 141] rfl (by decide +kernel)
set_option maxRecDepth 20000 in
theorem gX3_readEither_X3_put : GoodIn wsX3_readEither (wsV RX3 68 RX3 yX3_put wsX3_put) := goodIn_app (goodIn_of _ (by decide +kernel)) ggX3_readEither_X3_put
theorem dX3_readEither_0 : decode cX3_readEither 0 = .ok (.aload_n 0, 1) := by decide +kernel
theorem dX3_readEither_1 : decode cX3_readEither 1 = .ok (.iload_n 1, 1) := by decide +kernel
theorem dX3_readEither_2 : decode cX3_readEither 2 = .ok (.invokevirtual 65, 3) := by decide +kernel
theorem dX3_readEither_5 : decode cX3_readEither 5 = .ok (.iconst 0, 1) := by decide +kernel
theorem dX3_readEither_6 : decode cX3_readEither 6 = .ok (.istore_n 2, 1) := by decide +kernel
theorem dX3_readEither_7 : decode cX3_readEither 7 = .ok (.iload_n 2, 1) := by decide +kernel
theorem dX3_readEither_8 : decode cX3_readEither 8 = .ok (.sipush 160, 3) := by decide +kernel
theorem dX3_readEither_11 : decode cX3_readEither 11 = .ok (.if_icmp .ge 33, 3) := by decide +kernel
theorem dX3_readEither_14 : decode cX3_readEither 14 = .ok (.aload_n 0, 1) := by decide +kernel
theorem dX3_readEither_15 : decode cX3_readEither 15 = .ok (.getfield 22, 3) := by decide +kernel
theorem dX3_readEither_18 : decode cX3_readEither 18 = .ok (.bipush 6, 2) := by decide +kernel
theorem dX3_readEither_20 : decode cX3_readEither 20 = .ok (.if_icmp .ne 24, 3) := by decide +kernel
theorem dX3_readEither_23 : decode cX3_readEither 23 = .ok (.aload_n 0, 1) := by decide +kernel
theorem dX3_readEither_24 : decode cX3_readEither 24 = .ok (.invokevirtual 40, 3) := by decide +kernel
theorem dX3_readEither_27 : decode cX3_readEither 27 = .ok (.aload_n 0, 1) := by decide +kernel
theorem dX3_readEither_28 : decode cX3_readEither 28 = .ok (.iload_n 1, 1) := by decide +kernel
theorem dX3_readEither_29 : decode cX3_readEither 29 = .ok (.invokevirtual 65, 3) := by decide +kernel
theorem dX3_readEither_32 : decode cX3_readEither 32 = .ok (.aload_n 0, 1) := by decide +kernel
theorem dX3_readEither_33 : decode cX3_readEither 33 = .ok (.bipush 6, 2) := by decide +kernel
theorem dX3_readEither_35 : decode cX3_readEither 35 = .ok (.invokevirtual 68, 3) := by decide +kernel
theorem dX3_readEither_38 : decode cX3_readEither 38 = .ok (.iinc 2 1, 3) := by decide +kernel
theorem dX3_readEither_41 : decode cX3_readEither 41 = .ok (.goto (-34), 3) := by decide +kernel
theorem dX3_readEither_44 : decode cX3_readEither 44 = .ok (.return_, 1) := by decide +kernel
set_option maxRecDepth 20000 in
theorem ggX3_readBoth_X3_readNot : GoodIn wsX3_readBoth wsX3_readNot := goodIn_r _ [106, 1, 6, 7, 8, 5, 9, 10, 11, 12, 13, 14, 15, 16, 17, 18, 19, 20, 21, 22, 23, 24, 25, 26, 27, 28, 29, 30, 31, 32, 33, 34, 35, 36, 37, 38, 39, 40, 41, 42, 43, 44, 45, 46, 47, 48, 49, 50, 51, 52, 53, 54, 55, 56, 57, 58, 59, 60, 61, 62, 63, 64, 65, 66, 67, 68, 69, 70, 71, 72, 73, 74, 75, 76, 77, 78, 79, 80, 81, 82, 83, 84, 85, 86, 87, 88, 89, 90, 2, 3, 4, 91, 92, 93, 94, 95, 96, 97, 98, 99, 100, 101, 107, 108, 109, 0, 102, 103, 104, 105, 110, 111, 112, 113, 114, 115, 116, 117, 118, 119, 120, 121, 122, 123, 124, 125, 126, 127, 128, 129, 130, 131, 132, 133, 134, 135, 136, 137, 138, 139, 140, 141] rfl (by decide +kernel)
set_option maxRecDepth 20000 in
theorem gX3_readBoth_X3_readNot : GoodIn wsX3_readBoth (wsV RX3 71 RX3 yX3_readNot wsX3_readNot) := goodIn_app (goodIn_of _ (by decide +kernel)) ggX3_readBoth_X3_readNot
set_option maxRecDepth 20000 in
theorem ggX3_readBoth_X3_advance : GoodIn wsX3_readBoth wsX3_advance := goodIn_r _ [9, 10, 11, 12, 13, 1, 14, 15, 5, 16, 17, 18, 19, 20, 21, 22, 23, 24, 25, 26, 27, 28, 29, 30, 31, 32, 33, 34, 35, 36, 37, 38, 39, 40, 41, 42, 43, 44, 45, 46, 47, 48, 49, 50, 51, 52, 53, 54, 55, 56, 57, 58, 59, 60, 61, 62, 63, 64, 65, 66, 67, 68, 69, 70, 71, 72, 73, 74, 75, 76, 77, 78, 79, 80, 81, 82, 83, 84, 85, 86, 87, 88, 89, 90, 131, 132, 133, 134, 135, 136, 137] rfl (by decide +kernel)
set_option maxRecDepth 20000 in
theorem gX3_readBoth_X3_advance : GoodIn wsX3_readBoth (wsV RX3 40 RX3 yX3_advance wsX3_advance) := goodIn_app (goodIn_of _ (by decide +kernel)) ggX3_readBoth_X3_advance
set_option maxRecDepth 20000 in
theorem ggX3_readBoth_X3_put : GoodIn wsX3_readBoth wsX3_put := goodIn_r _ [94, 95, 96, 97, 98, 99, 100, 101, 131, 132, 133, 134, 135, 136, 137, 138, 139, 140, 141] rfl (by decide +kernel)
set_option maxRecDepth 20000 in
theorem gX3_readBoth_X3_put : GoodIn wsX3_readBoth (wsV RX3 68 RX3 yX3_put wsX3_put) := goodIn_app (goodIn_of _ (by decide +kernel)) ggX3_readBoth_X3_put
theorem dX3_readBoth_0 : decode cX3_readBoth 0 = .ok (.aload_n 0, 1) := by decide +kernel
theorem dX3_readBoth_1 : decode cX3_readBoth 1 = .ok (.iload_n 1, 1) := by decide +kernel
theorem dX3_readBoth_2 : decode cX3_readBoth 2 = .ok (.invokevirtual 71, 3) := by decide +kernel
theorem dX3_readBoth_5 : decode cX3_readBoth 5 = .ok (.iconst 0, 1) := by decide +kernel
theorem dX3_readBoth_6 : decode cX3_readBoth 6 = .ok (.istore_n 2, 1) := by decide +kernel
theorem dX3_readBoth_7 : decode cX3_readBoth 7 = .ok (.iload_n 2, 1) := by decide +kernel
theorem dX3_readBoth_8 : decode cX3_readBoth 8 = .ok (.sipush 160, 3) := by decide +kernel
theorem dX3_readBoth_11 : decode cX3_readBoth 11 = .ok (.if_icmp .ge 33, 3) := by decide +kernel
theorem dX3_readBoth_14 : decode cX3_readBoth 14 = .ok (.aload_n 0, 1) := by decide +kernel
theorem dX3_readBoth_15 : decode cX3_readBoth 15 = .ok (.getfield 22, 3) := by decide +kernel
theorem dX3_readBoth_18 : decode cX3_readBoth 18 = .ok (.bipush 7, 2) := by decide +kernel
theorem dX3_readBoth_20 : decode cX3_readBoth 20 = .ok (.if_icmp .ne 24, 3) := by decide +kernel
theorem dX3_readBoth_23 : decode cX3_readBoth 23 = .ok (.aload_n 0, 1) := by decide +kernel
theorem dX3_readBoth_24 : decode cX3_readBoth 24 = .ok (.invokevirtual 40, 3) := by decide +kernel
theorem dX3_readBoth_27 : decode cX3_readBoth 27 = .ok (.aload_n 0, 1) := by decide +kernel
theorem dX3_readBoth_28 : decode cX3_readBoth 28 = .ok (.iload_n 1, 1) := by decide +kernel
theorem dX3_readBoth_29 : decode cX3_readBoth 29 = .ok (.invokevirtual 71, 3) := by decide +kernel
theorem dX3_readBoth_32 : decode cX3_readBoth 32 = .ok (.aload_n 0, 1) := by decide +kernel
theorem dX3_readBoth_33 : decode cX3_readBoth 33 = .ok (.bipush 7, 2) := by decide +kernel
theorem dX3_readBoth_35 : decode cX3_readBoth 35 = .ok (.invokevirtual 68, 3) := by decide +kernel
theorem dX3_readBoth_38 : decode cX3_readBoth 38 = .ok (.iinc 2 1, 3) := by decide +kernel
theorem dX3_readBoth_41 : decode cX3_readBoth 41 = .ok (.goto (-34), 3) := by decide +kernel
theorem dX3_readBoth_44 : decode cX3_readBoth 44 = .ok (.return_, 1) := by decide +kernel
set_option maxRecDepth 20000 in
theorem ggX3_readNot_X3_advance : GoodIn wsX3_readNot wsX3_advance := goodIn_r _ [6, 7, 8, 9, 10, 1, 11, 12, 5, 13, 14, 15, 16, 17, 18, 19, 20, 21, 22, 23, 24, 25, 26, 27, 28, 29, 30, 31, 32, 33, 34, 35, 36, 37, 38, 39, 40, 41, 42, 43, 44, 45, 46, 47, 48, 49, 50, 51, 52, 53, 54, 55, 56, 57, 58, 59, 60, 61, 62, 63, 64, 65, 66, 67, 68, 69, 70, 71, 72, 73, 74, 75, 76, 77, 78, 79, 80, 81, 82, 83, 84, 85, 86, 87, 131, 132, 133, 134, 135, 136, 137] rfl (by decide +kernel)
set_option maxRecDepth 20000 in
theorem gX3_readNot_X3_advance : GoodIn wsX3_readNot (wsV RX3 40 RX3 yX3_advance wsX3_advance) := goodIn_app (goodIn_of _ (by decide +kernel)) ggX3_readNot_X3_advance
set_option maxRecDepth 20000 in
theorem ggX3_readNot_X3_readNot : GoodIn wsX3_readNot wsX3_readNot := goodIn_r _ [0, 1, 2, 3, 4, 5, 6, 7, 8, 9, 10, 11, 12, 13, 14, 15, 16, 17, 18, 19, 20, 21, 22, 23, 24, 25, 26, 27, 28, 29, 30, 31, 32, 33, 34, 35, 36, 37, 38, 39, 40, 41, 42, 43, 44, 45, 46, 47, 48, 49, 50, 51, 52, 53, 54, 55, 56, 57, 58, 59, 60, 61, 62, 63, 64, 65, 66, 67, 68, 69, 70, 71, 72, 73, 74, 75, 76, 77, 78, 79, 80, 81, 82, 83, 84, 85, 86, 87, 88, 89, 90, 91, 92, 93, 94, 95, 96, 97, 98, 99, 100, 101, 102, 103, 104, 105, 106, 107, 108, 109, 110, 111, 112, 113, 114, 115, 116, 117, 118, 119, 120, 121, 122, 123, 124, 125, 126, 127, 128, 129, 130, 131, 132, 133, 134, 135, 136, 137, 138, 139, 140, 141] rfl (by decide +kernel)
set_option maxRecDepth 20000 in
theorem gX3_readNot_X3_readNot : GoodIn wsX3_readNot (wsV RX3 71 RX3 yX3_readNot wsX3_readNot) := goodIn_app (goodIn_of _ (by decide +kernel)) ggX3_readNot_X3_readNot
set_option maxRecDepth 20000 in
theorem ggX3_readNot_X3_put : GoodIn wsX3_readNot wsX3_put := goodIn_r _ [94, 95, 96, 97, 98, 99, 100, 101, 131, 132, 133, 134, 135, 136, 137, 138, 139, 140, 141] rfl (by decide +kernel)
set_option maxRecDepth 20000 in
theorem gX3_readNot_X3_put : GoodIn wsX3_readNot (wsV RX3 68 RX3 yX3_put wsX3_put) := goodIn_app (goodIn_of _ (by decide +kernel)) ggX3_readNot_X3_put
set_option maxRecDepth 20000 in
theorem ggX3_readNot_X3_readSum : GoodIn wsX3_readNot wsX3_readSum := goodIn_r _ [126, 1, 127, 128, 129, 5, 2, 3, 4, 6, 7, 8, 9, 10, 11, 12, 13, 14, 15, 16, 17, 18, 19, 20, 21, 22, 23, 24, 25, 26, 27, 28, 29, 30, 31, 32, 33, 34, 35, 36, 37, 38, 39, 40, 41, 42, 43, 44, 45, 46, 47, 48, 49, 50, 51, 52, 53, 54, 55, 56, 57, 58, 59, 60, 61, 62, 63, 64, 65, 66, 67, 68, 69, 70, 71, 72, 73, 74, 75, 76, 77, 78, 79, 80, 81, 82, 83, 84, 85, 86, 87, 91, 92, 93, 94, 95, 96, 97, 98, 99, 100, 101, 105, 88, 89, 90, 106, 107, 108, 109, 0, 102, 103, 104, 110, 111, 112, 113, 114, 115, 116, 117, 118, 119, 120, 121, 122, 123, 124, 125, 130, 131, 132, 133, 134, 135, 136, 137, 138, 139, 140, 141] rfl (by decide +kernel)
set_option maxRecDepth 20000 in
theorem gX3_readNot_X3_readSum : GoodIn wsX3_readNot (wsV RX3 74 RX3 yX3_readSum wsX3_readSum) := goodIn_app (goodIn_of _ (by decide +kernel)) ggX3_readNot_X3_readSum
theorem dX3_readNot_0 : decode cX3_readNot 0 = .ok (.aload_n 0, 1) := by decide +kernel
theorem dX3_readNot_1 : decode cX3_readNot 1 = .ok (.getfield 22, 3) := by decide +kernel
theorem dX3_readNot_4 : decode cX3_readNot 4 = .ok (.bipush 8, 2) := by decide +kernel
theorem dX3_readNot_6 : decode cX3_readNot 6 = .ok (.if_icmp .ne 26, 3) := by decide +kernel
theorem dX3_readNot_9 : decode cX3_readNot 9 = .ok (.iload_n 1, 1) := by decide +kernel
theorem dX3_readNot_10 : decode cX3_readNot 10 = .ok (.iconst 5, 1) := by decide +kernel
theorem dX3_readNot_11 : decode cX3_readNot 11 = .ok (.if_icmp .ge 21, 3) := by decide +kernel
theorem dX3_readNot_14 : decode cX3_readNot 14 = .ok (.aload_n 0, 1) := by decide +kernel
theorem dX3_readNot_15 : decode cX3_readNot 15 = .ok (.invokevirtual 40, 3) := by decide +kernel
theorem dX3_readNot_18 : decode cX3_readNot 18 = .ok (.aload_n 0, 1) := by decide +kernel
theorem dX3_readNot_19 : decode cX3_readNot 19 = .ok (.iload_n 1, 1) := by decide +kernel
theorem dX3_readNot_20 : decode cX3_readNot 20 = .ok (.iconst 1, 1) := by decide +kernel
theorem dX3_readNot_21 : decode cX3_readNot 21 = .ok (.iadd, 1) := by decide +kernel
theorem dX3_readNot_22 : decode cX3_readNot 22 = .ok (.invokevirtual 71, 3) := by decide +kernel
theorem dX3_readNot_25 : decode cX3_readNot 25 = .ok (.aload_n 0, 1) := by decide +kernel
theorem dX3_readNot_26 : decode cX3_readNot 26 = .ok (.bipush 8, 2) := by decide +kernel
theorem dX3_readNot_28 : decode cX3_readNot 28 = .ok (.invokevirtual 68, 3) := by decide +kernel
theorem dX3_readNot_31 : decode cX3_readNot 31 = .ok (.return_, 1) := by decide +kernel
theorem dX3_readNot_32 : decode cX3_readNot 32 = .ok (.aload_n 0, 1) := by decide +kernel
theorem dX3_readNot_33 : decode cX3_readNot 33 = .ok (.iload_n 1, 1) := by decide +kernel
theorem dX3_readNot_34 : decode cX3_readNot 34 = .ok (.invokevirtual 74, 3) := by decide +kernel
theorem dX3_readNot_37 : decode cX3_readNot 37 = .ok (.aload_n 0, 1) := by decide +kernel
theorem dX3_readNot_38 : decode cX3_readNot 38 = .ok (.getfield 22, 3) := by decide +kernel
theorem dX3_readNot_41 : decode cX3_readNot 41 = .ok (.bipush 9, 2) := by decide +kernel
theorem dX3_readNot_43 : decode cX3_readNot 43 = .ok (.if_icmp .eq 12, 3) := by decide +kernel
theorem dX3_readNot_46 : decode cX3_readNot 46 = .ok (.aload_n 0, 1) := by decide +kernel
theorem dX3_readNot_47 : decode cX3_readNot 47 = .ok (.getfield 22, 3) := by decide +kernel
theorem dX3_readNot_50 : decode cX3_readNot 50 = .ok (.bipush 10, 2) := by decide +kernel
theorem dX3_readNot_52 : decode cX3_readNot 52 = .ok (.if_icmp .ne 22, 3) := by decide +kernel
theorem dX3_readNot_55 : decode cX3_readNot 55 = .ok (.aload_n 0, 1) := by decide +kernel
theorem dX3_readNot_56 : decode cX3_readNot 56 = .ok (.getfield 22, 3) := by decide +kernel
theorem dX3_readNot_59 : decode cX3_readNot 59 = .ok (.istore_n 2, 1) := by decide +kernel
theorem dX3_readNot_60 : decode cX3_readNot 60 = .ok (.aload_n 0, 1) := by decide +kernel
theorem dX3_readNot_61 : decode cX3_readNot 61 = .ok (.invokevirtual 40, 3) := by decide +kernel
theorem dX3_readNot_64 : decode cX3_readNot 64 = .ok (.aload_n 0, 1) := by decide +kernel
theorem dX3_readNot_65 : decode cX3_readNot 65 = .ok (.iload_n 1, 1) := by decide +kernel
theorem dX3_readNot_66 : decode cX3_readNot 66 = .ok (.invokevirtual 74, 3) := by decide +kernel
theorem dX3_readNot_69 : decode cX3_readNot 69 = .ok (.aload_n 0, 1) := by decide +kernel
theorem dX3_readNot_70 : decode cX3_readNot 70 = .ok (.iload_n 2, 1) := by decide +kernel
theorem dX3_readNot_71 : decode cX3_readNot 71 = .ok (.invokevirtual 68, 3) := by decide +kernel
theorem dX3_readNot_74 : decode cX3_readNot 74 = .ok (.return_, 1) := by decide +kernel
set_option maxRecDepth 20000 in
theorem ggX3_readSum_X3_readTerm : GoodIn wsX3_readSum wsX3_readTerm := goodIn_r _ [130, 1, 115, 116, 117, 5, 6, 7, 8, 9, 10, 11, 12, 13, 14, 15, 16, 17, 18, 19, 20, 21, 22, 23, 24, 25, 26, 27, 28, 29, 30, 31, 32, 33, 34, 35, 36, 37, 38, 39, 40, 41, 42, 43, 44, 45, 46, 47, 48, 49, 50, 51, 52, 53, 54, 55, 56, 57, 58, 59, 60, 61, 62, 63, 64, 65, 66, 67, 68, 69, 70, 71, 72, 73, 74, 75, 76, 77, 78, 79, 80, 81, 82, 83, 84, 85, 86, 87, 88, 89, 90, 91, 92, 93, 94, 95, 96, 97, 98, 99, 100, 101, 102, 103, 104, 105, 106, 107, 108, 109, 110, 111, 112, 113, 114, 118, 119, 120, 121, 122, 123, 124, 125, 126, 127, 128, 129, 0, 2, 3, 4, 131, 132, 133, 134, 135, 136, 137, 138, 139, 140, 141] rfl (by decide +kernel)
set_option maxRecDepth 20000 in
theorem gX3_readSum_X3_readTerm : GoodIn wsX3_readSum (wsV RX3 77 RX3 yX3_readTerm wsX3_readTerm) := goodIn_app (goodIn_of _ (by decide +kernel)) ggX3_readSum_X3_readTerm
set_option maxRecDepth 20000 in
theorem ggX3_readSum_X3_advance : GoodIn wsX3_readSum wsX3_advance := goodIn_r _ [9, 10, 11, 12, 13, 1, 14, 15, 5, 16, 17, 18, 19, 20, 21, 22, 23, 24, 25, 26, 27, 28, 29, 30, 31, 32, 33, 34, 35, 36, 37, 38, 39, 40, 41, 42, 43, 44, 45, 46, 47, 48, 49, 50, 51, 52, 53, 54, 55, 56, 57, 58, 59, 60, 61, 62, 63, 64, 65, 66, 67, 68, 69, 70, 71, 72, 73, 74, 75, 76, 77, 78, 79, 80, 81, 82, 83, 84, 85, 86, 87, 88, 89, 90, 131, 132, 133, 134, 135, 136, 137] rfl (by decide +kernel)
set_option maxRecDepth 20000 in
theorem gX3_readSum_X3_advance : GoodIn wsX3_readSum (wsV RX3 40 RX3 yX3_advance wsX3_advance) := goodIn_app (goodIn_of _ (by decide +kernel)) ggX3_readSum_X3_advance
set_option maxRecDepth 20000 in
theorem ggX3_readSum_X3_put : GoodIn wsX3_readSum wsX3_put := goodIn_r _ [94, 95, 96, 97, 98, 99, 100, 101, 131, 132, 133, 134, 135, 136, 137, 138, 139, 140, 141] rfl (by decide +kernel)
set_option maxRecDepth 20000 in
theorem gX3_readSum_X3_put : GoodIn wsX3_readSum (wsV RX3 68 RX3 yX3_put wsX3_put) := goodIn_app (goodIn_of _ (by decide +kernel)) ggX3_readSum_X3_put
theorem dX3_readSum_0 : decode cX3_readSum 0 = .ok (.aload_n 0, 1) := by decide +kernel
theorem dX3_readSum_1 : decode cX3_readSum 1 = .ok (.iload_n 1, 1) := by decide +kernel
theorem dX3_readSum_2 : decode cX3_readSum 2 = .ok (.invokevirtual 77, 3) := by decide +kernel
theorem dX3_readSum_5 : decode cX3_readSum 5 = .ok (.iconst 0, 1) := by decide +kernel
theorem dX3_readSum_6 : decode cX3_readSum 6 = .ok (.istore_n 2, 1) := by decide +kernel
theorem dX3_readSum_7 : decode cX3_readSum 7 = .ok (.iload_n 2, 1) := by decide +kernel
theorem dX3_readSum_8 : decode cX3_readSum 8 = .ok (.sipush 160, 3) := by decide +kernel
theorem dX3_readSum_11 : decode cX3_readSum 11 = .ok (.if_icmp .ge 46, 3) := by decide +kernel
theorem dX3_readSum_14 : decode cX3_readSum 14 = .ok (.aload_n 0, 1) := by decide +kernel
theorem dX3_readSum_15 : decode cX3_readSum 15 = .ok (.getfield 22, 3) := by decide +kernel
theorem dX3_readSum_18 : decode cX3_readSum 18 = .ok (.bipush 11, 2) := by decide +kernel
theorem dX3_readSum_20 : decode cX3_readSum 20 = .ok (.if_icmp .eq 12, 3) := by decide +kernel
theorem dX3_readSum_23 : decode cX3_readSum 23 = .ok (.aload_n 0, 1) := by decide +kernel
theorem dX3_readSum_24 : decode cX3_readSum 24 = .ok (.getfield 22, 3) := by decide +kernel
theorem dX3_readSum_27 : decode cX3_readSum 27 = .ok (.bipush 12, 2) := by decide +kernel
theorem dX3_readSum_29 : decode cX3_readSum 29 = .ok (.if_icmp .ne 28, 3) := by decide +kernel
theorem dX3_readSum_32 : decode cX3_readSum 32 = .ok (.aload_n 0, 1) := by decide +kernel
theorem dX3_readSum_33 : decode cX3_readSum 33 = .ok (.getfield 22, 3) := by decide +kernel
theorem dX3_readSum_36 : decode cX3_readSum 36 = .ok (.istore_n 3, 1) := by decide +kernel
theorem dX3_readSum_37 : decode cX3_readSum 37 = .ok (.aload_n 0, 1) := by decide +kernel
theorem dX3_readSum_38 : decode cX3_readSum 38 = .ok (.invokevirtual 40, 3) := by decide +kernel
theorem dX3_readSum_41 : decode cX3_readSum 41 = .ok (.aload_n 0, 1) := by decide +kernel
theorem dX3_readSum_42 : decode cX3_readSum 42 = .ok (.iload_n 1, 1) := by decide +kernel
theorem dX3_readSum_43 : decode cX3_readSum 43 = .ok (.invokevirtual 77, 3) := by decide +kernel
theorem dX3_readSum_46 : decode cX3_readSum 46 = .ok (.aload_n 0, 1) := by decide +kernel
theorem dX3_readSum_47 : decode cX3_readSum 47 = .ok (.iload_n 3, 1) := by decide +kernel
theorem dX3_readSum_48 : decode cX3_readSum 48 = .ok (.invokevirtual 68, 3) := by decide +kernel
theorem dX3_readSum_51 : decode cX3_readSum 51 = .ok (.iinc 2 1, 3) := by decide +kernel
theorem dX3_readSum_54 : decode cX3_readSum 54 = .ok (.goto (-47), 3) := by decide +kernel
theorem dX3_readSum_57 : decode cX3_readSum 57 = .ok (.return_, 1) := by decide +kernel
set_option maxRecDepth 20000 in
theorem ggX3_readTerm_X3_readOne : GoodIn wsX3_readTerm wsX3_readOne := goodIn_r _ [114, 1, 91, 92, 93, 5, 94, 95, 96, 97, 98, 99, 100, 101, 6, 7, 8, 9, 10, 11, 12, 13, 14, 15, 16, 17, 18, 19, 20, 21, 22, 23, 24, 25, 26, 27, 28, 29, 30, 31, 32, 33, 34, 35, 36, 37, 38, 39, 40, 41, 42, 43, 44, 45, 46, 47, 48, 49, 50, 51, 52, 53, 54, 55, 56, 57, 58, 59, 60, 61, 62, 63, 64, 65, 66, 67, 68, 69, 70, 71, 72, 73, 74, 75, 76, 77, 78, 79, 80, 81, 82, 83, 84, 85, 86, 87, 88, 89, 90, 2, 3, 4, 115, 116, 117, 118, 119, 120, 121, 122, 123, 124, 125, 126, 102, 103, 104, 105, 106, 107, 108, 109, 110, 111, 112, 113, 127, 128, 129, 130, 0, 131, 132, 133, 134, 135, 136, 137, 138, 139, 140, 141] rfl (by decide +kernel)
set_option maxRecDepth 20000 in
theorem gX3_readTerm_X3_readOne : GoodIn wsX3_readTerm (wsV RX3 80 RX3 yX3_readOne wsX3_readOne) := goodIn_app (goodIn_of _ (by decide +kernel)) ggX3_readTerm_X3_readOne
set_option maxRecDepth 20000 in
theorem ggX3_readTerm_X3_advance : GoodIn wsX3_readTerm wsX3_advance := goodIn_r _ [9, 10, 11, 12, 13, 1, 14, 15, 5, 16, 17, 18, 19, 20, 21, 22, 23, 24, 25, 26, 27, 28, 29, 30, 31, 32, 33, 34, 35, 36, 37, 38, 39, 40, 41, 42, 43, 44, 45, 46, 47, 48, 49, 50, 51, 52, 53, 54, 55, 56, 57, 58, 59, 60, 61, 62, 63, 64, 65, 66, 67, 68, 69, 70, 71, 72, 73, 74, 75, 76, 77, 78, 79, 80, 81, 82, 83, 84, 85, 86, 87, 88, 89, 90, 131, 132, 133, 134, 135, 136, 137] rfl (by decide +kernel)
set_option maxRecDepth 20000 in
theorem gX3_readTerm_X3_advance : GoodIn wsX3_readTerm (wsV RX3 40 RX3 yX3_advance wsX3_advance) := goodIn_app (goodIn_of _ (by decide +kernel)) ggX3_readTerm_X3_advance
set_option maxRecDepth 20000 in
theorem ggX3_readTerm_X3_put : GoodIn wsX3_readTerm wsX3_put := goodIn_r _ [94, 95, 96, 97, 98, 99, 100, 101, 131, 132, 133, 134, 135, 136, 137, 138, 139, 140, 141] rfl (by decide +kernel)
set_option maxRecDepth 20000 in
theorem gX3_readTerm_X3_put : GoodIn wsX3_readTerm (wsV RX3 68 RX3 yX3_put wsX3_put) := goodIn_app (goodIn_of _ (by decide +kernel)) ggX3_readTerm_X3_put
theorem dX3_readTerm_0 : decode cX3_readTerm 0 = .ok (.aload_n 0, 1) := by decide +kernel
theorem dX3_readTerm_1 : decode cX3_readTerm 1 = .ok (.iload_n 1, 1) := by decide +kernel
theorem dX3_readTerm_2 : decode cX3_readTerm 2 = .ok (.invokevirtual 80, 3) := by decide +kernel
theorem dX3_readTerm_5 : decode cX3_readTerm 5 = .ok (.iconst 0, 1) := by decide +kernel
theorem dX3_readTerm_6 : decode cX3_readTerm 6 = .ok (.istore_n 2, 1) := by decide +kernel
theorem dX3_readTerm_7 : decode cX3_readTerm 7 = .ok (.iload_n 2, 1) := by decide +kernel
theorem dX3_readTerm_8 : decode cX3_readTerm 8 = .ok (.sipush 160, 3) := by decide +kernel
theorem dX3_readTerm_11 : decode cX3_readTerm 11 = .ok (.if_icmp .ge 33, 3) := by decide +kernel
theorem dX3_readTerm_14 : decode cX3_readTerm 14 = .ok (.aload_n 0, 1) := by decide +kernel
theorem dX3_readTerm_15 : decode cX3_readTerm 15 = .ok (.getfield 22, 3) := by decide +kernel
theorem dX3_readTerm_18 : decode cX3_readTerm 18 = .ok (.bipush 13, 2) := by decide +kernel
theorem dX3_readTerm_20 : decode cX3_readTerm 20 = .ok (.if_icmp .ne 24, 3) := by decide +kernel
theorem dX3_readTerm_23 : decode cX3_readTerm 23 = .ok (.aload_n 0, 1) := by decide +kernel
theorem dX3_readTerm_24 : decode cX3_readTerm 24 = .ok (.invokevirtual 40, 3) := by decide +kernel
theorem dX3_readTerm_27 : decode cX3_readTerm 27 = .ok (.aload_n 0, 1) := by decide +kernel
theorem dX3_readTerm_28 : decode cX3_readTerm 28 = .ok (.iload_n 1, 1) := by decide +kernel
theorem dX3_readTerm_29 : decode cX3_readTerm 29 = .ok (.invokevirtual 80, 3) := by decide +kernel
theorem dX3_readTerm_32 : decode cX3_readTerm 32 = .ok (.aload_n 0, 1) := by decide +kernel
theorem dX3_readTerm_33 : decode cX3_readTerm 33 = .ok (.bipush 13, 2) := by decide +kernel
theorem dX3_readTerm_35 : decode cX3_readTerm 35 = .ok (.invokevirtual 68, 3) := by decide +kernel
theorem dX3_readTerm_38 : decode cX3_readTerm 38 = .ok (.iinc 2 1, 3) := by decide +kernel
theorem dX3_readTerm_41 : decode cX3_readTerm 41 = .ok (.goto (-34), 3) := by decide +kernel
theorem dX3_readTerm_44 : decode cX3_readTerm 44 = .ok (.return_, 1) := by decide +kernel
set_option maxRecDepth 20000 in
theorem ggX3_readOne_X3_put : GoodIn wsX3_readOne wsX3_put := goodIn_r _ [6, 7, 8, 9, 10, 11, 12, 13, 131, 132, 133, 134, 135, 136, 137, 138, 139, 140, 141] rfl (by decide +kernel)
set_option maxRecDepth 20000 in
theorem gX3_readOne_X3_put : GoodIn wsX3_readOne (wsV RX3 68 RX3 yX3_put wsX3_put) := goodIn_app (goodIn_of _ (by decide +kernel)) ggX3_readOne_X3_put
set_option maxRecDepth 20000 in
theorem ggX3_readOne_X3_advance : GoodIn wsX3_readOne wsX3_advance := goodIn_r _ [17, 18, 19, 20, 21, 1, 22, 23, 5, 24, 25, 26, 27, 28, 29, 30, 31, 32, 33, 34, 35, 36, 37, 38, 39, 40, 41, 42, 43, 44, 45, 46, 47, 48, 49, 50, 51, 52, 53, 54, 55, 56, 57, 58, 59, 60, 61, 62, 63, 64, 65, 66, 67, 68, 69, 70, 71, 72, 73, 74, 75, 76, 77, 78, 79, 80, 81, 82, 83, 84, 85, 86, 87, 88, 89, 90, 91, 92, 93, 94, 95, 96, 97, 98, 131, 132, 133, 134, 135, 136, 137] rfl (by decide +kernel)
set_option maxRecDepth 20000 in
theorem gX3_readOne_X3_advance : GoodIn wsX3_readOne (wsV RX3 40 RX3 yX3_advance wsX3_advance) := goodIn_app (goodIn_of _ (by decide +kernel)) ggX3_readOne_X3_advance
set_option maxRecDepth 20000 in
theorem ggX3_readOne_X3_readOne : GoodIn wsX3_readOne wsX3_readOne := goodIn_r _ [0, 1, 2, 3, 4, 5, 6, 7, 8, 9, 10, 11, 12, 13, 14, 15, 16, 17, 18, 19, 20, 21, 22, 23, 24, 25, 26, 27, 28, 29, 30, 31, 32, 33, 34, 35, 36, 37, 38, 39, 40, 41, 42, 43, 44, 45, 46, 47, 48, 49, 50, 51, 52, 53, 54, 55, 56, 57, 58, 59, 60, 61, 62, 63, 64, 65, 66, 67, 68, 69, 70, 71, 72, 73, 74, 75, 76, 77, 78, 79, 80, 81, 82, 83, 84, 85, 86, 87, 88, 89, 90, 91, 92, 93, 94, 95, 96, 97, 98, 99, 100, 101, 102, 103, 104, 105, 106, 107, 108, 109, 110, 111, 112, 113, 114, 115, 116, 117, 118, 119, 120, 121, 122, 123, 124, 125, 126, 127, 128, 129, 130, 131, 132, 133, 134, 135, 136, 137, 138, 139, 140, 141] rfl (by decide +kernel)
set_option maxRecDepth 20000 in
theorem gX3_readOne_X3_readOne : GoodIn wsX3_readOne (wsV RX3 80 RX3 yX3_readOne wsX3_readOne) := goodIn_app (goodIn_of _ (by decide +kernel)) ggX3_readOne_X3_readOne
set_option maxRecDepth 20000 in
theorem ggX3_readOne_X3_readEither : GoodIn wsX3_readOne wsX3_readEither := goodIn_r _ [118, 1, 119, 120, 121, 5, 14, 15, 16, 17, 18, 19, 20, 21, 22, 23, 24, 25, 26, 27, 28, 29, 30, 31, 32, 33, 34, 35, 36, 37, 38, 39, 40, 41, 42, 43, 44, 45, 46, 47, 48, 49, 50, 51, 52, 53, 54, 55, 56, 57, 58, 59, 60, 61, 62, 63, 64, 65, 66, 67, 68, 69, 70, 71, 72, 73, 74, 75, 76, 77, 78, 79, 80, 81, 82, 83, 84, 85, 86, 87, 88, 89, 90, 91, 92, 93, 94, 95, 96, 97, 98, 2, 3, 4, 6, 7, 8, 9, 10, 11, 12, 13, 114, 115, 116, 117, 122, 123, 124, 125, 0, 99, 100, 101, 102, 103, 104, 105, 106, 107, 108, 109, 110, 111, 112, 113, 126, 127, 128, 129, 130, 131, 132, 133, 134, 135, 136, 137, 138, 139, 140, 141] rfl (by decide +kernel)
set_option maxRecDepth 20000 in
theorem gX3_readOne_X3_readEither : GoodIn wsX3_readOne (wsV RX3 59 RX3 yX3_readEither wsX3_readEither) := goodIn_app (goodIn_of _ (by decide +kernel)) ggX3_readOne_X3_readEither
set_option maxRecDepth 20000 in
theorem ggX3_readOne_X3_expect : GoodIn wsX3_readOne wsX3_expect := goodIn_r _ [108, 1, 14, 15, 16, 5, 17, 18, 19, 20, 21, 22, 23, 24, 25, 26, 27, 28, 29, 30, 31, 32, 33, 34, 35, 36, 37, 38, 39, 40, 41, 42, 43, 44, 45, 46, 47, 48, 49, 50, 51, 52, 53, 54, 55, 56, 57, 58, 59, 60, 61, 62, 63, 64, 65, 66, 67, 68, 69, 70, 71, 72, 73, 74, 75, 76, 77, 78, 79, 80, 81, 82, 83, 84, 85, 86, 87, 88, 89, 90, 91, 92, 93, 94, 95, 96, 97, 98, 109, 110, 111, 112, 113, 131, 132, 133, 134, 135, 136, 137] rfl (by decide +kernel)
set_option maxRecDepth 20000 in
theorem gX3_readOne_X3_expect : GoodIn wsX3_readOne (wsV RX3 56 RX3 yX3_expect wsX3_expect) := goodIn_app (goodIn_of _ (by decide +kernel)) ggX3_readOne_X3_expect
set_option maxRecDepth 20000 in
theorem ggX3_readOne_X3_refuse : GoodIn wsX3_readOne wsX3_refuse := goodIn_r _ [112, 113, 21, 1, 131, 132, 133, 134, 135, 136, 137] rfl (by decide +kernel)
set_option maxRecDepth 20000 in
theorem gX3_readOne_X3_refuse : GoodIn wsX3_readOne (wsV RX3 50 RX3 yX3_refuse wsX3_refuse) := goodIn_app (goodIn_of _ (by decide +kernel)) ggX3_readOne_X3_refuse
theorem dX3_readOne_0 : decode cX3_readOne 0 = .ok (.aload_n 0, 1) := by decide +kernel
theorem dX3_readOne_1 : decode cX3_readOne 1 = .ok (.getfield 22, 3) := by decide +kernel
theorem dX3_readOne_4 : decode cX3_readOne 4 = .ok (.bipush 100, 2) := by decide +kernel
theorem dX3_readOne_6 : decode cX3_readOne 6 = .ok (.if_icmp .ge 12, 3) := by decide +kernel
theorem dX3_readOne_9 : decode cX3_readOne 9 = .ok (.aload_n 0, 1) := by decide +kernel
theorem dX3_readOne_10 : decode cX3_readOne 10 = .ok (.getfield 22, 3) := by decide +kernel
theorem dX3_readOne_13 : decode cX3_readOne 13 = .ok (.bipush 6, 2) := by decide +kernel
theorem dX3_readOne_15 : decode cX3_readOne 15 = .ok (.if_icmp .ge 18, 3) := by decide +kernel
theorem dX3_readOne_18 : decode cX3_readOne 18 = .ok (.aload_n 0, 1) := by decide +kernel
theorem dX3_readOne_19 : decode cX3_readOne 19 = .ok (.aload_n 0, 1) := by decide +kernel
theorem dX3_readOne_20 : decode cX3_readOne 20 = .ok (.getfield 22, 3) := by decide +kernel
theorem dX3_readOne_23 : decode cX3_readOne 23 = .ok (.invokevirtual 68, 3) := by decide +kernel
theorem dX3_readOne_26 : decode cX3_readOne 26 = .ok (.aload_n 0, 1) := by decide +kernel
theorem dX3_readOne_27 : decode cX3_readOne 27 = .ok (.invokevirtual 40, 3) := by decide +kernel
theorem dX3_readOne_30 : decode cX3_readOne 30 = .ok (.goto 75, 3) := by decide +kernel
theorem dX3_readOne_33 : decode cX3_readOne 33 = .ok (.aload_n 0, 1) := by decide +kernel
theorem dX3_readOne_34 : decode cX3_readOne 34 = .ok (.getfield 22, 3) := by decide +kernel
theorem dX3_readOne_37 : decode cX3_readOne 37 = .ok (.bipush 12, 2) := by decide +kernel
theorem dX3_readOne_39 : decode cX3_readOne 39 = .ok (.if_icmp .ne 28, 3) := by decide +kernel
theorem dX3_readOne_42 : decode cX3_readOne 42 = .ok (.iload_n 1, 1) := by decide +kernel
theorem dX3_readOne_43 : decode cX3_readOne 43 = .ok (.iconst 5, 1) := by decide +kernel
theorem dX3_readOne_44 : decode cX3_readOne 44 = .ok (.if_icmp .ge 23, 3) := by decide +kernel
theorem dX3_readOne_47 : decode cX3_readOne 47 = .ok (.aload_n 0, 1) := by decide +kernel
theorem dX3_readOne_48 : decode cX3_readOne 48 = .ok (.invokevirtual 40, 3) := by decide +kernel
theorem dX3_readOne_51 : decode cX3_readOne 51 = .ok (.aload_n 0, 1) := by decide +kernel
theorem dX3_readOne_52 : decode cX3_readOne 52 = .ok (.iload_n 1, 1) := by decide +kernel
theorem dX3_readOne_53 : decode cX3_readOne 53 = .ok (.iconst 1, 1) := by decide +kernel
theorem dX3_readOne_54 : decode cX3_readOne 54 = .ok (.iadd, 1) := by decide +kernel
theorem dX3_readOne_55 : decode cX3_readOne 55 = .ok (.invokevirtual 80, 3) := by decide +kernel
theorem dX3_readOne_58 : decode cX3_readOne 58 = .ok (.aload_n 0, 1) := by decide +kernel
theorem dX3_readOne_59 : decode cX3_readOne 59 = .ok (.bipush 14, 2) := by decide +kernel
theorem dX3_readOne_61 : decode cX3_readOne 61 = .ok (.invokevirtual 68, 3) := by decide +kernel
theorem dX3_readOne_64 : decode cX3_readOne 64 = .ok (.goto 41, 3) := by decide +kernel
theorem dX3_readOne_67 : decode cX3_readOne 67 = .ok (.aload_n 0, 1) := by decide +kernel
theorem dX3_readOne_68 : decode cX3_readOne 68 = .ok (.getfield 22, 3) := by decide +kernel
theorem dX3_readOne_71 : decode cX3_readOne 71 = .ok (.bipush 15, 2) := by decide +kernel
theorem dX3_readOne_73 : decode cX3_readOne 73 = .ok (.if_icmp .ne 28, 3) := by decide +kernel
theorem dX3_readOne_76 : decode cX3_readOne 76 = .ok (.iload_n 1, 1) := by decide +kernel
theorem dX3_readOne_77 : decode cX3_readOne 77 = .ok (.iconst 5, 1) := by decide +kernel
theorem dX3_readOne_78 : decode cX3_readOne 78 = .ok (.if_icmp .ge 23, 3) := by decide +kernel
theorem dX3_readOne_81 : decode cX3_readOne 81 = .ok (.aload_n 0, 1) := by decide +kernel
theorem dX3_readOne_82 : decode cX3_readOne 82 = .ok (.invokevirtual 40, 3) := by decide +kernel
theorem dX3_readOne_85 : decode cX3_readOne 85 = .ok (.aload_n 0, 1) := by decide +kernel
theorem dX3_readOne_86 : decode cX3_readOne 86 = .ok (.iload_n 1, 1) := by decide +kernel
theorem dX3_readOne_87 : decode cX3_readOne 87 = .ok (.iconst 1, 1) := by decide +kernel
theorem dX3_readOne_88 : decode cX3_readOne 88 = .ok (.iadd, 1) := by decide +kernel
theorem dX3_readOne_89 : decode cX3_readOne 89 = .ok (.invokevirtual 59, 3) := by decide +kernel
theorem dX3_readOne_92 : decode cX3_readOne 92 = .ok (.aload_n 0, 1) := by decide +kernel
theorem dX3_readOne_93 : decode cX3_readOne 93 = .ok (.bipush 16, 2) := by decide +kernel
theorem dX3_readOne_95 : decode cX3_readOne 95 = .ok (.invokevirtual 56, 3) := by decide +kernel
theorem dX3_readOne_98 : decode cX3_readOne 98 = .ok (.goto 7, 3) := by decide +kernel
theorem dX3_readOne_101 : decode cX3_readOne 101 = .ok (.aload_n 0, 1) := by decide +kernel
theorem dX3_readOne_102 : decode cX3_readOne 102 = .ok (.invokevirtual 50, 3) := by decide +kernel
theorem dX3_readOne_105 : decode cX3_readOne 105 = .ok (.return_, 1) := by decide +kernel
set_option maxRecDepth 20000 in
theorem ggX3_advance_X3_isBlank : GoodIn wsX3_advance wsX3_isBlank := goodIn_r _ [9] rfl (by decide +kernel)
set_option maxRecDepth 20000 in
theorem gX3_advance_X3_isBlank : GoodIn wsX3_advance (va_wsS RX3 83 yX3_isBlank wsX3_isBlank) := goodIn_app (goodIn_of _ (by decide +kernel)) ggX3_advance_X3_isBlank
set_option maxRecDepth 20000 in
theorem ggX3_advance_X3_isLetter : GoodIn wsX3_advance wsX3_isLetter := goodIn_r _ [12] rfl (by decide +kernel)
set_option maxRecDepth 20000 in
theorem gX3_advance_X3_isLetter : GoodIn wsX3_advance (va_wsS RX3 87 yX3_isLetter wsX3_isLetter) := goodIn_app (goodIn_of _ (by decide +kernel)) ggX3_advance_X3_isLetter
set_option maxRecDepth 20000 in
theorem ggX3_advance_X3_endOfLetters : GoodIn wsX3_advance wsX3_endOfLetters := goodIn_r _ [16, 1, 2, 3, 10, 11, 8, 12, 84, 85, 86, 87, 88, 89, 90] rfl (by decide +kernel)
set_option maxRecDepth 20000 in
theorem gX3_advance_X3_endOfLetters : GoodIn wsX3_advance (wsV RX3 90 RX3 yX3_endOfLetters wsX3_endOfLetters) := goodIn_app (goodIn_of _ (by decide +kernel)) ggX3_advance_X3_endOfLetters
set_option maxRecDepth 20000 in
theorem ggX3_advance_X3_wordToken : GoodIn wsX3_advance wsX3_wordToken := goodIn_r _ [20, 1, 21, 22, 23, 8, 24, 3, 25, 26, 27, 28, 29, 30, 31, 32, 33, 34, 35, 36, 37, 38, 39, 40, 41, 42, 43, 44, 45, 46, 47, 48, 49, 50, 51, 52, 53, 54, 55, 56, 57, 58, 59, 60, 61, 62, 63, 64, 65, 66, 67, 68, 69, 70, 71, 72, 73, 84, 85, 86, 87, 88, 89, 90] rfl (by decide +kernel)
set_option maxRecDepth 20000 in
theorem gX3_advance_X3_wordToken : GoodIn wsX3_advance (wsV RX3 94 RX3 yX3_wordToken wsX3_wordToken) := goodIn_app (goodIn_of _ (by decide +kernel)) ggX3_advance_X3_wordToken
set_option maxRecDepth 20000 in
theorem ggX3_advance_X3_isDigit : GoodIn wsX3_advance wsX3_isDigit := goodIn_r _ [76] rfl (by decide +kernel)
set_option maxRecDepth 20000 in
theorem gX3_advance_X3_isDigit : GoodIn wsX3_advance (va_wsS RX3 98 yX3_isDigit wsX3_isDigit) := goodIn_app (goodIn_of _ (by decide +kernel)) ggX3_advance_X3_isDigit
set_option maxRecDepth 20000 in
theorem ggX3_advance_X3_numberToken : GoodIn wsX3_advance wsX3_numberToken := goodIn_r _ [80, 1, 2, 3, 74, 75, 8, 76, 84, 85, 86, 87, 88, 89, 90] rfl (by decide +kernel)
set_option maxRecDepth 20000 in
theorem gX3_advance_X3_numberToken : GoodIn wsX3_advance (wsV RX3 101 RX3 yX3_numberToken wsX3_numberToken) := goodIn_app (goodIn_of _ (by decide +kernel)) ggX3_advance_X3_numberToken
set_option maxRecDepth 20000 in
theorem ggX3_advance_X3_signToken : GoodIn wsX3_advance wsX3_signToken := goodIn_r _ [83] rfl (by decide +kernel)
set_option maxRecDepth 20000 in
theorem gX3_advance_X3_signToken : GoodIn wsX3_advance (va_wsS RX3 104 yX3_signToken wsX3_signToken) := goodIn_app (goodIn_of _ (by decide +kernel)) ggX3_advance_X3_signToken
theorem dX3_advance_0 : decode cX3_advance 0 = .ok (.aload_n 0, 1) := by decide +kernel
theorem dX3_advance_1 : decode cX3_advance 1 = .ok (.getfield 19, 3) := by decide +kernel
theorem dX3_advance_4 : decode cX3_advance 4 = .ok (.istore_n 1, 1) := by decide +kernel
theorem dX3_advance_5 : decode cX3_advance 5 = .ok (.iload_n 1, 1) := by decide +kernel
theorem dX3_advance_6 : decode cX3_advance 6 = .ok (.aload_n 0, 1) := by decide +kernel
theorem dX3_advance_7 : decode cX3_advance 7 = .ok (.getfield 15, 3) := by decide +kernel
theorem dX3_advance_10 : decode cX3_advance 10 = .ok (.if_icmp .ge 28, 3) := by decide +kernel
theorem dX3_advance_13 : decode cX3_advance 13 = .ok (.aload_n 0, 1) := by decide +kernel
theorem dX3_advance_14 : decode cX3_advance 14 = .ok (.getfield 9, 3) := by decide +kernel
theorem dX3_advance_17 : decode cX3_advance 17 = .ok (.iload_n 1, 1) := by decide +kernel
theorem dX3_advance_18 : decode cX3_advance 18 = .ok (.iaload, 1) := by decide +kernel
theorem dX3_advance_19 : decode cX3_advance 19 = .ok (.invokestatic 83, 3) := by decide +kernel
theorem dX3_advance_22 : decode cX3_advance 22 = .ok (.ifCond .eq 16, 3) := by decide +kernel
theorem dX3_advance_25 : decode cX3_advance 25 = .ok (.aload_n 0, 1) := by decide +kernel
theorem dX3_advance_26 : decode cX3_advance 26 = .ok (.iload_n 1, 1) := by decide +kernel
theorem dX3_advance_27 : decode cX3_advance 27 = .ok (.iconst 1, 1) := by decide +kernel
theorem dX3_advance_28 : decode cX3_advance 28 = .ok (.iadd, 1) := by decide +kernel
theorem dX3_advance_29 : decode cX3_advance 29 = .ok (.putfield 19, 3) := by decide +kernel
theorem dX3_advance_32 : decode cX3_advance 32 = .ok (.iinc 1 1, 3) := by decide +kernel
theorem dX3_advance_35 : decode cX3_advance 35 = .ok (.goto (-30), 3) := by decide +kernel
theorem dX3_advance_38 : decode cX3_advance 38 = .ok (.aload_n 0, 1) := by decide +kernel
theorem dX3_advance_39 : decode cX3_advance 39 = .ok (.aload_n 0, 1) := by decide +kernel
theorem dX3_advance_40 : decode cX3_advance 40 = .ok (.getfield 19, 3) := by decide +kernel
theorem dX3_advance_43 : decode cX3_advance 43 = .ok (.putfield 25, 3) := by decide +kernel
theorem dX3_advance_46 : decode cX3_advance 46 = .ok (.aload_n 0, 1) := by decide +kernel
theorem dX3_advance_47 : decode cX3_advance 47 = .ok (.getfield 19, 3) := by decide +kernel
theorem dX3_advance_50 : decode cX3_advance 50 = .ok (.aload_n 0, 1) := by decide +kernel
theorem dX3_advance_51 : decode cX3_advance 51 = .ok (.getfield 15, 3) := by decide +kernel
theorem dX3_advance_54 : decode cX3_advance 54 = .ok (.if_icmp .lt 12, 3) := by decide +kernel
theorem dX3_advance_57 : decode cX3_advance 57 = .ok (.aload_n 0, 1) := by decide +kernel
theorem dX3_advance_58 : decode cX3_advance 58 = .ok (.bipush 21, 2) := by decide +kernel
theorem dX3_advance_60 : decode cX3_advance 60 = .ok (.putfield 22, 3) := by decide +kernel
theorem dX3_advance_63 : decode cX3_advance 63 = .ok (.goto 90, 3) := by decide +kernel
theorem dX3_advance_66 : decode cX3_advance 66 = .ok (.aload_n 0, 1) := by decide +kernel
theorem dX3_advance_67 : decode cX3_advance 67 = .ok (.getfield 9, 3) := by decide +kernel
theorem dX3_advance_70 : decode cX3_advance 70 = .ok (.aload_n 0, 1) := by decide +kernel
theorem dX3_advance_71 : decode cX3_advance 71 = .ok (.getfield 19, 3) := by decide +kernel
theorem dX3_advance_74 : decode cX3_advance 74 = .ok (.iaload, 1) := by decide +kernel
theorem dX3_advance_75 : decode cX3_advance 75 = .ok (.invokestatic 87, 3) := by decide +kernel
theorem dX3_advance_78 : decode cX3_advance 78 = .ok (.ifCond .eq 23, 3) := by decide +kernel
theorem dX3_advance_81 : decode cX3_advance 81 = .ok (.aload_n 0, 1) := by decide +kernel
theorem dX3_advance_82 : decode cX3_advance 82 = .ok (.aload_n 0, 1) := by decide +kernel
theorem dX3_advance_83 : decode cX3_advance 83 = .ok (.aload_n 0, 1) := by decide +kernel
theorem dX3_advance_84 : decode cX3_advance 84 = .ok (.invokevirtual 90, 3) := by decide +kernel
theorem dX3_advance_87 : decode cX3_advance 87 = .ok (.aload_n 0, 1) := by decide +kernel
theorem dX3_advance_88 : decode cX3_advance 88 = .ok (.getfield 19, 3) := by decide +kernel
theorem dX3_advance_91 : decode cX3_advance 91 = .ok (.isub, 1) := by decide +kernel
theorem dX3_advance_92 : decode cX3_advance 92 = .ok (.invokevirtual 94, 3) := by decide +kernel
theorem dX3_advance_95 : decode cX3_advance 95 = .ok (.putfield 22, 3) := by decide +kernel
theorem dX3_advance_98 : decode cX3_advance 98 = .ok (.goto 55, 3) := by decide +kernel
theorem dX3_advance_101 : decode cX3_advance 101 = .ok (.aload_n 0, 1) := by decide +kernel
theorem dX3_advance_102 : decode cX3_advance 102 = .ok (.getfield 9, 3) := by decide +kernel
theorem dX3_advance_105 : decode cX3_advance 105 = .ok (.aload_n 0, 1) := by decide +kernel
theorem dX3_advance_106 : decode cX3_advance 106 = .ok (.getfield 19, 3) := by decide +kernel
theorem dX3_advance_109 : decode cX3_advance 109 = .ok (.iaload, 1) := by decide +kernel
theorem dX3_advance_110 : decode cX3_advance 110 = .ok (.invokestatic 98, 3) := by decide +kernel
theorem dX3_advance_113 : decode cX3_advance 113 = .ok (.ifCond .eq 14, 3) := by decide +kernel
theorem dX3_advance_116 : decode cX3_advance 116 = .ok (.aload_n 0, 1) := by decide +kernel
theorem dX3_advance_117 : decode cX3_advance 117 = .ok (.aload_n 0, 1) := by decide +kernel
theorem dX3_advance_118 : decode cX3_advance 118 = .ok (.invokevirtual 101, 3) := by decide +kernel
theorem dX3_advance_121 : decode cX3_advance 121 = .ok (.putfield 22, 3) := by decide +kernel
theorem dX3_advance_124 : decode cX3_advance 124 = .ok (.goto 29, 3) := by decide +kernel
theorem dX3_advance_127 : decode cX3_advance 127 = .ok (.aload_n 0, 1) := by decide +kernel
theorem dX3_advance_128 : decode cX3_advance 128 = .ok (.aload_n 0, 1) := by decide +kernel
theorem dX3_advance_129 : decode cX3_advance 129 = .ok (.getfield 9, 3) := by decide +kernel
theorem dX3_advance_132 : decode cX3_advance 132 = .ok (.aload_n 0, 1) := by decide +kernel
theorem dX3_advance_133 : decode cX3_advance 133 = .ok (.getfield 19, 3) := by decide +kernel
theorem dX3_advance_136 : decode cX3_advance 136 = .ok (.iaload, 1) := by decide +kernel
theorem dX3_advance_137 : decode cX3_advance 137 = .ok (.invokestatic 104, 3) := by decide +kernel
theorem dX3_advance_140 : decode cX3_advance 140 = .ok (.putfield 22, 3) := by decide +kernel
theorem dX3_advance_143 : decode cX3_advance 143 = .ok (.aload_n 0, 1) := by decide +kernel
theorem dX3_advance_144 : decode cX3_advance 144 = .ok (.dup, 1) := by decide +kernel
theorem dX3_advance_145 : decode cX3_advance 145 = .ok (.getfield 19, 3) := by decide +kernel
theorem dX3_advance_148 : decode cX3_advance 148 = .ok (.iconst 1, 1) := by decide +kernel
theorem dX3_advance_149 : decode cX3_advance 149 = .ok (.iadd, 1) := by decide +kernel
theorem dX3_advance_150 : decode cX3_advance 150 = .ok (.putfield 19, 3) := by decide +kernel
theorem dX3_advance_153 : decode cX3_advance 153 = .ok (.return_, 1) := by decide +kernel
set_option maxRecDepth 20000 in
theorem ggX3_endOfLetters_X3_isLetter : GoodIn wsX3_endOfLetters wsX3_isLetter := goodIn_r _ [7] rfl (by decide +kernel)
set_option maxRecDepth 20000 in
theorem gX3_endOfLetters_X3_isLetter : GoodIn wsX3_endOfLetters (va_wsS RX3 87 yX3_isLetter wsX3_isLetter) := goodIn_app (goodIn_of _ (by decide +kernel)) ggX3_endOfLetters_X3_isLetter
theorem dX3_endOfLetters_0 : decode cX3_endOfLetters 0 = .ok (.aload_n 0, 1) := by decide +kernel
theorem dX3_endOfLetters_1 : decode cX3_endOfLetters 1 = .ok (.getfield 19, 3) := by decide +kernel
theorem dX3_endOfLetters_4 : decode cX3_endOfLetters 4 = .ok (.istore_n 1, 1) := by decide +kernel
theorem dX3_endOfLetters_5 : decode cX3_endOfLetters 5 = .ok (.aload_n 0, 1) := by decide +kernel
theorem dX3_endOfLetters_6 : decode cX3_endOfLetters 6 = .ok (.getfield 19, 3) := by decide +kernel
theorem dX3_endOfLetters_9 : decode cX3_endOfLetters 9 = .ok (.istore_n 2, 1) := by decide +kernel
theorem dX3_endOfLetters_10 : decode cX3_endOfLetters 10 = .ok (.iload_n 2, 1) := by decide +kernel
theorem dX3_endOfLetters_11 : decode cX3_endOfLetters 11 = .ok (.aload_n 0, 1) := by decide +kernel
theorem dX3_endOfLetters_12 : decode cX3_endOfLetters 12 = .ok (.getfield 15, 3) := by decide +kernel
theorem dX3_endOfLetters_15 : decode cX3_endOfLetters 15 = .ok (.if_icmp .ge 25, 3) := by decide +kernel
theorem dX3_endOfLetters_18 : decode cX3_endOfLetters 18 = .ok (.aload_n 0, 1) := by decide +kernel
theorem dX3_endOfLetters_19 : decode cX3_endOfLetters 19 = .ok (.getfield 9, 3) := by decide +kernel
theorem dX3_endOfLetters_22 : decode cX3_endOfLetters 22 = .ok (.iload_n 2, 1) := by decide +kernel
theorem dX3_endOfLetters_23 : decode cX3_endOfLetters 23 = .ok (.iaload, 1) := by decide +kernel
theorem dX3_endOfLetters_24 : decode cX3_endOfLetters 24 = .ok (.invokestatic 87, 3) := by decide +kernel
theorem dX3_endOfLetters_27 : decode cX3_endOfLetters 27 = .ok (.ifCond .eq 13, 3) := by decide +kernel
theorem dX3_endOfLetters_30 : decode cX3_endOfLetters 30 = .ok (.iload_n 2, 1) := by decide +kernel
theorem dX3_endOfLetters_31 : decode cX3_endOfLetters 31 = .ok (.iconst 1, 1) := by decide +kernel
theorem dX3_endOfLetters_32 : decode cX3_endOfLetters 32 = .ok (.iadd, 1) := by decide +kernel
theorem dX3_endOfLetters_33 : decode cX3_endOfLetters 33 = .ok (.istore_n 1, 1) := by decide +kernel
theorem dX3_endOfLetters_34 : decode cX3_endOfLetters 34 = .ok (.iinc 2 1, 3) := by decide +kernel
theorem dX3_endOfLetters_37 : decode cX3_endOfLetters 37 = .ok (.goto (-27), 3) := by decide +kernel
theorem dX3_endOfLetters_40 : decode cX3_endOfLetters 40 = .ok (.iload_n 1, 1) := by decide +kernel
theorem dX3_endOfLetters_41 : decode cX3_endOfLetters 41 = .ok (.ireturn, 1) := by decide +kernel
set_option maxRecDepth 20000 in
theorem ggX3_wordToken_X3_isWord : GoodIn wsX3_wordToken wsX3_isWord := goodIn_r _ [6, 7, 8, 9, 10, 11, 12, 13, 14, 15, 16, 17, 18, 19, 20, 21, 22, 23, 24, 25, 26, 27, 28, 29, 30, 31, 32, 33, 34, 35, 36, 37, 38, 39, 40, 41, 42, 43, 44, 45, 46, 47, 48, 49, 50, 51, 52, 53, 54, 55, 56, 57, 58, 59, 60, 61, 62, 63] rfl (by decide +kernel)
set_option maxRecDepth 20000 in
theorem gX3_wordToken_X3_isWord : GoodIn wsX3_wordToken (wsV RX3 109 RX3 yX3_isWord wsX3_isWord) := goodIn_app (goodIn_of _ (by decide +kernel)) ggX3_wordToken_X3_isWord
theorem dX3_wordToken_0 : decode cX3_wordToken 0 = .ok (.aload_n 0, 1) := by decide +kernel
theorem dX3_wordToken_1 : decode cX3_wordToken 1 = .ok (.getfield 19, 3) := by decide +kernel
theorem dX3_wordToken_4 : decode cX3_wordToken 4 = .ok (.istore_n 2, 1) := by decide +kernel
theorem dX3_wordToken_5 : decode cX3_wordToken 5 = .ok (.aload_n 0, 1) := by decide +kernel
theorem dX3_wordToken_6 : decode cX3_wordToken 6 = .ok (.iload_n 2, 1) := by decide +kernel
theorem dX3_wordToken_7 : decode cX3_wordToken 7 = .ok (.iload_n 1, 1) := by decide +kernel
theorem dX3_wordToken_8 : decode cX3_wordToken 8 = .ok (.iadd, 1) := by decide +kernel
theorem dX3_wordToken_9 : decode cX3_wordToken 9 = .ok (.putfield 19, 3) := by decide +kernel
theorem dX3_wordToken_12 : decode cX3_wordToken 12 = .ok (.aload_n 0, 1) := by decide +kernel
theorem dX3_wordToken_13 : decode cX3_wordToken 13 = .ok (.iload_n 2, 1) := by decide +kernel
theorem dX3_wordToken_14 : decode cX3_wordToken 14 = .ok (.iload_n 1, 1) := by decide +kernel
theorem dX3_wordToken_15 : decode cX3_wordToken 15 = .ok (.ldc 107, 2) := by decide +kernel
theorem dX3_wordToken_17 : decode cX3_wordToken 17 = .ok (.invokevirtual 109, 3) := by decide +kernel
theorem dX3_wordToken_20 : decode cX3_wordToken 20 = .ok (.ifCond .eq 5, 3) := by decide +kernel
theorem dX3_wordToken_23 : decode cX3_wordToken 23 = .ok (.iconst 0, 1) := by decide +kernel
theorem dX3_wordToken_24 : decode cX3_wordToken 24 = .ok (.ireturn, 1) := by decide +kernel
theorem dX3_wordToken_25 : decode cX3_wordToken 25 = .ok (.aload_n 0, 1) := by decide +kernel
theorem dX3_wordToken_26 : decode cX3_wordToken 26 = .ok (.iload_n 2, 1) := by decide +kernel
theorem dX3_wordToken_27 : decode cX3_wordToken 27 = .ok (.iload_n 1, 1) := by decide +kernel
theorem dX3_wordToken_28 : decode cX3_wordToken 28 = .ok (.ldc 113, 2) := by decide +kernel
theorem dX3_wordToken_30 : decode cX3_wordToken 30 = .ok (.invokevirtual 109, 3) := by decide +kernel
theorem dX3_wordToken_33 : decode cX3_wordToken 33 = .ok (.ifCond .eq 5, 3) := by decide +kernel
theorem dX3_wordToken_36 : decode cX3_wordToken 36 = .ok (.iconst 1, 1) := by decide +kernel
theorem dX3_wordToken_37 : decode cX3_wordToken 37 = .ok (.ireturn, 1) := by decide +kernel
theorem dX3_wordToken_38 : decode cX3_wordToken 38 = .ok (.aload_n 0, 1) := by decide +kernel
theorem dX3_wordToken_39 : decode cX3_wordToken 39 = .ok (.iload_n 2, 1) := by decide +kernel
theorem dX3_wordToken_40 : decode cX3_wordToken 40 = .ok (.iload_n 1, 1) := by decide +kernel
theorem dX3_wordToken_41 : decode cX3_wordToken 41 = .ok (.ldc 115, 2) := by decide +kernel
theorem dX3_wordToken_43 : decode cX3_wordToken 43 = .ok (.invokevirtual 109, 3) := by decide +kernel
theorem dX3_wordToken_46 : decode cX3_wordToken 46 = .ok (.ifCond .eq 5, 3) := by decide +kernel
theorem dX3_wordToken_49 : decode cX3_wordToken 49 = .ok (.iconst 2, 1) := by decide +kernel
theorem dX3_wordToken_50 : decode cX3_wordToken 50 = .ok (.ireturn, 1) := by decide +kernel
theorem dX3_wordToken_51 : decode cX3_wordToken 51 = .ok (.aload_n 0, 1) := by decide +kernel
theorem dX3_wordToken_52 : decode cX3_wordToken 52 = .ok (.iload_n 2, 1) := by decide +kernel
theorem dX3_wordToken_53 : decode cX3_wordToken 53 = .ok (.iload_n 1, 1) := by decide +kernel
theorem dX3_wordToken_54 : decode cX3_wordToken 54 = .ok (.ldc 117, 2) := by decide +kernel
theorem dX3_wordToken_56 : decode cX3_wordToken 56 = .ok (.invokevirtual 109, 3) := by decide +kernel
theorem dX3_wordToken_59 : decode cX3_wordToken 59 = .ok (.ifCond .eq 5, 3) := by decide +kernel
theorem dX3_wordToken_62 : decode cX3_wordToken 62 = .ok (.iconst 3, 1) := by decide +kernel
theorem dX3_wordToken_63 : decode cX3_wordToken 63 = .ok (.ireturn, 1) := by decide +kernel
theorem dX3_wordToken_64 : decode cX3_wordToken 64 = .ok (.aload_n 0, 1) := by decide +kernel
theorem dX3_wordToken_65 : decode cX3_wordToken 65 = .ok (.iload_n 2, 1) := by decide +kernel
theorem dX3_wordToken_66 : decode cX3_wordToken 66 = .ok (.iload_n 1, 1) := by decide +kernel
theorem dX3_wordToken_67 : decode cX3_wordToken 67 = .ok (.ldc 119, 2) := by decide +kernel
theorem dX3_wordToken_69 : decode cX3_wordToken 69 = .ok (.invokevirtual 109, 3) := by decide +kernel
theorem dX3_wordToken_72 : decode cX3_wordToken 72 = .ok (.ifCond .eq 5, 3) := by decide +kernel
theorem dX3_wordToken_75 : decode cX3_wordToken 75 = .ok (.iconst 4, 1) := by decide +kernel
theorem dX3_wordToken_76 : decode cX3_wordToken 76 = .ok (.ireturn, 1) := by decide +kernel
theorem dX3_wordToken_77 : decode cX3_wordToken 77 = .ok (.aload_n 0, 1) := by decide +kernel
theorem dX3_wordToken_78 : decode cX3_wordToken 78 = .ok (.iload_n 2, 1) := by decide +kernel
theorem dX3_wordToken_79 : decode cX3_wordToken 79 = .ok (.iload_n 1, 1) := by decide +kernel
theorem dX3_wordToken_80 : decode cX3_wordToken 80 = .ok (.ldc 121, 2) := by decide +kernel
theorem dX3_wordToken_82 : decode cX3_wordToken 82 = .ok (.invokevirtual 109, 3) := by decide +kernel
theorem dX3_wordToken_85 : decode cX3_wordToken 85 = .ok (.ifCond .eq 5, 3) := by decide +kernel
theorem dX3_wordToken_88 : decode cX3_wordToken 88 = .ok (.iconst 5, 1) := by decide +kernel
theorem dX3_wordToken_89 : decode cX3_wordToken 89 = .ok (.ireturn, 1) := by decide +kernel
theorem dX3_wordToken_90 : decode cX3_wordToken 90 = .ok (.aload_n 0, 1) := by decide +kernel
theorem dX3_wordToken_91 : decode cX3_wordToken 91 = .ok (.iload_n 2, 1) := by decide +kernel
theorem dX3_wordToken_92 : decode cX3_wordToken 92 = .ok (.iload_n 1, 1) := by decide +kernel
theorem dX3_wordToken_93 : decode cX3_wordToken 93 = .ok (.ldc 123, 2) := by decide +kernel
theorem dX3_wordToken_95 : decode cX3_wordToken 95 = .ok (.invokevirtual 109, 3) := by decide +kernel
theorem dX3_wordToken_98 : decode cX3_wordToken 98 = .ok (.ifCond .eq 6, 3) := by decide +kernel
theorem dX3_wordToken_101 : decode cX3_wordToken 101 = .ok (.bipush 6, 2) := by decide +kernel
theorem dX3_wordToken_103 : decode cX3_wordToken 103 = .ok (.ireturn, 1) := by decide +kernel
theorem dX3_wordToken_104 : decode cX3_wordToken 104 = .ok (.aload_n 0, 1) := by decide +kernel
theorem dX3_wordToken_105 : decode cX3_wordToken 105 = .ok (.iload_n 2, 1) := by decide +kernel
theorem dX3_wordToken_106 : decode cX3_wordToken 106 = .ok (.iload_n 1, 1) := by decide +kernel
theorem dX3_wordToken_107 : decode cX3_wordToken 107 = .ok (.ldc 125, 2) := by decide +kernel
theorem dX3_wordToken_109 : decode cX3_wordToken 109 = .ok (.invokevirtual 109, 3) := by decide +kernel
theorem dX3_wordToken_112 : decode cX3_wordToken 112 = .ok (.ifCond .eq 6, 3) := by decide +kernel
theorem dX3_wordToken_115 : decode cX3_wordToken 115 = .ok (.bipush 7, 2) := by decide +kernel
theorem dX3_wordToken_117 : decode cX3_wordToken 117 = .ok (.ireturn, 1) := by decide +kernel
theorem dX3_wordToken_118 : decode cX3_wordToken 118 = .ok (.aload_n 0, 1) := by decide +kernel
theorem dX3_wordToken_119 : decode cX3_wordToken 119 = .ok (.iload_n 2, 1) := by decide +kernel
theorem dX3_wordToken_120 : decode cX3_wordToken 120 = .ok (.iload_n 1, 1) := by decide +kernel
theorem dX3_wordToken_121 : decode cX3_wordToken 121 = .ok (.ldc 127, 2) := by decide +kernel
theorem dX3_wordToken_123 : decode cX3_wordToken 123 = .ok (.invokevirtual 109, 3) := by decide +kernel
theorem dX3_wordToken_126 : decode cX3_wordToken 126 = .ok (.ifCond .eq 6, 3) := by decide +kernel
theorem dX3_wordToken_129 : decode cX3_wordToken 129 = .ok (.bipush 8, 2) := by decide +kernel
theorem dX3_wordToken_131 : decode cX3_wordToken 131 = .ok (.ireturn, 1) := by decide +kernel
theorem dX3_wordToken_132 : decode cX3_wordToken 132 = .ok (.aload_n 0, 1) := by decide +kernel
theorem dX3_wordToken_133 : decode cX3_wordToken 133 = .ok (.iload_n 2, 1) := by decide +kernel
theorem dX3_wordToken_134 : decode cX3_wordToken 134 = .ok (.iload_n 1, 1) := by decide +kernel
theorem dX3_wordToken_135 : decode cX3_wordToken 135 = .ok (.ldc 129, 2) := by decide +kernel
theorem dX3_wordToken_137 : decode cX3_wordToken 137 = .ok (.invokevirtual 109, 3) := by decide +kernel
theorem dX3_wordToken_140 : decode cX3_wordToken 140 = .ok (.ifCond .eq 6, 3) := by decide +kernel
theorem dX3_wordToken_143 : decode cX3_wordToken 143 = .ok (.bipush 18, 2) := by decide +kernel
theorem dX3_wordToken_145 : decode cX3_wordToken 145 = .ok (.ireturn, 1) := by decide +kernel
theorem dX3_wordToken_146 : decode cX3_wordToken 146 = .ok (.aload_n 0, 1) := by decide +kernel
theorem dX3_wordToken_147 : decode cX3_wordToken 147 = .ok (.iload_n 2, 1) := by decide +kernel
theorem dX3_wordToken_148 : decode cX3_wordToken 148 = .ok (.iload_n 1, 1) := by decide +kernel
theorem dX3_wordToken_149 : decode cX3_wordToken 149 = .ok (.ldc 131, 2) := by decide +kernel
theorem dX3_wordToken_151 : decode cX3_wordToken 151 = .ok (.invokevirtual 109, 3) := by decide +kernel
theorem dX3_wordToken_154 : decode cX3_wordToken 154 = .ok (.ifCond .eq 6, 3) := by decide +kernel
theorem dX3_wordToken_157 : decode cX3_wordToken 157 = .ok (.bipush 19, 2) := by decide +kernel
theorem dX3_wordToken_159 : decode cX3_wordToken 159 = .ok (.ireturn, 1) := by decide +kernel
theorem dX3_wordToken_160 : decode cX3_wordToken 160 = .ok (.aload_n 0, 1) := by decide +kernel
theorem dX3_wordToken_161 : decode cX3_wordToken 161 = .ok (.iload_n 2, 1) := by decide +kernel
theorem dX3_wordToken_162 : decode cX3_wordToken 162 = .ok (.iload_n 1, 1) := by decide +kernel
theorem dX3_wordToken_163 : decode cX3_wordToken 163 = .ok (.ldc 133, 2) := by decide +kernel
theorem dX3_wordToken_165 : decode cX3_wordToken 165 = .ok (.invokevirtual 109, 3) := by decide +kernel
theorem dX3_wordToken_168 : decode cX3_wordToken 168 = .ok (.ifCond .eq 8, 3) := by decide +kernel
theorem dX3_wordToken_171 : decode cX3_wordToken 171 = .ok (.bipush 20, 2) := by decide +kernel
theorem dX3_wordToken_173 : decode cX3_wordToken 173 = .ok (.goto 5, 3) := by decide +kernel
theorem dX3_wordToken_176 : decode cX3_wordToken 176 = .ok (.bipush 22, 2) := by decide +kernel
theorem dX3_wordToken_178 : decode cX3_wordToken 178 = .ok (.ireturn, 1) := by decide +kernel
set_option maxRecDepth 20000 in
theorem ggX3_isWord_J0_length_8abf5 : GoodIn wsX3_isWord wsJ0_length_8abf5 := goodIn_r _ [6, 7, 8, 9, 10, 5, 11, 12, 13] rfl (by decide +kernel)
set_option maxRecDepth 20000 in
theorem gX3_isWord_J0_length_8abf5 : GoodIn wsX3_isWord (wsV RX3 135 RJ0 yJ0_length_8abf5 wsJ0_length_8abf5) := goodIn_app (goodIn_of _ (by decide +kernel)) ggX3_isWord_J0_length_8abf5
set_option maxRecDepth 20000 in
theorem ggX3_isWord_J0_charAt_5068e : GoodIn wsX3_isWord wsJ0_charAt_5068e := goodIn_r _ [17, 7, 18, 19, 20, 5, 21, 12, 13, 22, 23, 24, 25, 26, 27, 28, 29, 30, 31, 32, 33, 34, 35, 36, 37, 38, 39, 40, 41, 42, 43, 44, 45, 46, 47, 48, 49, 50] rfl (by decide +kernel)
set_option maxRecDepth 20000 in
theorem gX3_isWord_J0_charAt_5068e : GoodIn wsX3_isWord (wsV RX3 140 RJ0 yJ0_charAt_5068e wsJ0_charAt_5068e) := goodIn_app (goodIn_of _ (by decide +kernel)) ggX3_isWord_J0_charAt_5068e
theorem dX3_isWord_0 : decode cX3_isWord 0 = .ok (.iload_n 2, 1) := by decide +kernel
theorem dX3_isWord_1 : decode cX3_isWord 1 = .ok (.aload_n 3, 1) := by decide +kernel
theorem dX3_isWord_2 : decode cX3_isWord 2 = .ok (.invokevirtual 135, 3) := by decide +kernel
theorem dX3_isWord_5 : decode cX3_isWord 5 = .ok (.if_icmp .ne 16, 3) := by decide +kernel
theorem dX3_isWord_8 : decode cX3_isWord 8 = .ok (.iload_n 1, 1) := by decide +kernel
theorem dX3_isWord_9 : decode cX3_isWord 9 = .ok (.ifCond .lt 12, 3) := by decide +kernel
theorem dX3_isWord_12 : decode cX3_isWord 12 = .ok (.iload_n 1, 1) := by decide +kernel
theorem dX3_isWord_13 : decode cX3_isWord 13 = .ok (.iload_n 2, 1) := by decide +kernel
theorem dX3_isWord_14 : decode cX3_isWord 14 = .ok (.iadd, 1) := by decide +kernel
theorem dX3_isWord_15 : decode cX3_isWord 15 = .ok (.sipush 160, 3) := by decide +kernel
theorem dX3_isWord_18 : decode cX3_isWord 18 = .ok (.if_icmp .le 5, 3) := by decide +kernel
theorem dX3_isWord_21 : decode cX3_isWord 21 = .ok (.iconst 0, 1) := by decide +kernel
theorem dX3_isWord_22 : decode cX3_isWord 22 = .ok (.ireturn, 1) := by decide +kernel
theorem dX3_isWord_23 : decode cX3_isWord 23 = .ok (.iconst 0, 1) := by decide +kernel
theorem dX3_isWord_24 : decode cX3_isWord 24 = .ok (.istore 4, 2) := by decide +kernel
theorem dX3_isWord_26 : decode cX3_isWord 26 = .ok (.iload 4, 2) := by decide +kernel
theorem dX3_isWord_28 : decode cX3_isWord 28 = .ok (.iload_n 2, 1) := by decide +kernel
theorem dX3_isWord_29 : decode cX3_isWord 29 = .ok (.if_icmp .ge 29, 3) := by decide +kernel
theorem dX3_isWord_32 : decode cX3_isWord 32 = .ok (.aload_n 0, 1) := by decide +kernel
theorem dX3_isWord_33 : decode cX3_isWord 33 = .ok (.getfield 9, 3) := by decide +kernel
theorem dX3_isWord_36 : decode cX3_isWord 36 = .ok (.iload_n 1, 1) := by decide +kernel
theorem dX3_isWord_37 : decode cX3_isWord 37 = .ok (.iload 4, 2) := by decide +kernel
theorem dX3_isWord_39 : decode cX3_isWord 39 = .ok (.iadd, 1) := by decide +kernel
theorem dX3_isWord_40 : decode cX3_isWord 40 = .ok (.iaload, 1) := by decide +kernel
theorem dX3_isWord_41 : decode cX3_isWord 41 = .ok (.aload_n 3, 1) := by decide +kernel
theorem dX3_isWord_42 : decode cX3_isWord 42 = .ok (.iload 4, 2) := by decide +kernel
theorem dX3_isWord_44 : decode cX3_isWord 44 = .ok (.invokevirtual 140, 3) := by decide +kernel
theorem dX3_isWord_47 : decode cX3_isWord 47 = .ok (.if_icmp .eq 5, 3) := by decide +kernel
theorem dX3_isWord_50 : decode cX3_isWord 50 = .ok (.iconst 0, 1) := by decide +kernel
theorem dX3_isWord_51 : decode cX3_isWord 51 = .ok (.ireturn, 1) := by decide +kernel
theorem dX3_isWord_52 : decode cX3_isWord 52 = .ok (.iinc 4 1, 3) := by decide +kernel
theorem dX3_isWord_55 : decode cX3_isWord 55 = .ok (.goto (-29), 3) := by decide +kernel
theorem dX3_isWord_58 : decode cX3_isWord 58 = .ok (.iconst 1, 1) := by decide +kernel
theorem dX3_isWord_59 : decode cX3_isWord 59 = .ok (.ireturn, 1) := by decide +kernel
set_option maxRecDepth 20000 in
theorem ggX3_numberToken_X3_isDigit : GoodIn wsX3_numberToken wsX3_isDigit := goodIn_r _ [7] rfl (by decide +kernel)
set_option maxRecDepth 20000 in
theorem gX3_numberToken_X3_isDigit : GoodIn wsX3_numberToken (va_wsS RX3 98 yX3_isDigit wsX3_isDigit) := goodIn_app (goodIn_of _ (by decide +kernel)) ggX3_numberToken_X3_isDigit
theorem dX3_numberToken_0 : decode cX3_numberToken 0 = .ok (.iconst 0, 1) := by decide +kernel
theorem dX3_numberToken_1 : decode cX3_numberToken 1 = .ok (.istore_n 1, 1) := by decide +kernel
theorem dX3_numberToken_2 : decode cX3_numberToken 2 = .ok (.iconst 0, 1) := by decide +kernel
theorem dX3_numberToken_3 : decode cX3_numberToken 3 = .ok (.istore_n 2, 1) := by decide +kernel
theorem dX3_numberToken_4 : decode cX3_numberToken 4 = .ok (.aload_n 0, 1) := by decide +kernel
theorem dX3_numberToken_5 : decode cX3_numberToken 5 = .ok (.getfield 19, 3) := by decide +kernel
theorem dX3_numberToken_8 : decode cX3_numberToken 8 = .ok (.istore_n 3, 1) := by decide +kernel
theorem dX3_numberToken_9 : decode cX3_numberToken 9 = .ok (.iload_n 3, 1) := by decide +kernel
theorem dX3_numberToken_10 : decode cX3_numberToken 10 = .ok (.aload_n 0, 1) := by decide +kernel
theorem dX3_numberToken_11 : decode cX3_numberToken 11 = .ok (.getfield 15, 3) := by decide +kernel
theorem dX3_numberToken_14 : decode cX3_numberToken 14 = .ok (.if_icmp .ge 51, 3) := by decide +kernel
theorem dX3_numberToken_17 : decode cX3_numberToken 17 = .ok (.aload_n 0, 1) := by decide +kernel
theorem dX3_numberToken_18 : decode cX3_numberToken 18 = .ok (.getfield 9, 3) := by decide +kernel
theorem dX3_numberToken_21 : decode cX3_numberToken 21 = .ok (.iload_n 3, 1) := by decide +kernel
theorem dX3_numberToken_22 : decode cX3_numberToken 22 = .ok (.iaload, 1) := by decide +kernel
theorem dX3_numberToken_23 : decode cX3_numberToken 23 = .ok (.invokestatic 98, 3) := by decide +kernel
theorem dX3_numberToken_26 : decode cX3_numberToken 26 = .ok (.ifCond .eq 39, 3) := by decide +kernel
theorem dX3_numberToken_29 : decode cX3_numberToken 29 = .ok (.aload_n 0, 1) := by decide +kernel
theorem dX3_numberToken_30 : decode cX3_numberToken 30 = .ok (.iload_n 3, 1) := by decide +kernel
theorem dX3_numberToken_31 : decode cX3_numberToken 31 = .ok (.iconst 1, 1) := by decide +kernel
theorem dX3_numberToken_32 : decode cX3_numberToken 32 = .ok (.iadd, 1) := by decide +kernel
theorem dX3_numberToken_33 : decode cX3_numberToken 33 = .ok (.putfield 19, 3) := by decide +kernel
theorem dX3_numberToken_36 : decode cX3_numberToken 36 = .ok (.iinc 1 1, 3) := by decide +kernel
theorem dX3_numberToken_39 : decode cX3_numberToken 39 = .ok (.iload_n 1, 1) := by decide +kernel
theorem dX3_numberToken_40 : decode cX3_numberToken 40 = .ok (.iconst 4, 1) := by decide +kernel
theorem dX3_numberToken_41 : decode cX3_numberToken 41 = .ok (.if_icmp .gt 18, 3) := by decide +kernel
theorem dX3_numberToken_44 : decode cX3_numberToken 44 = .ok (.iload_n 2, 1) := by decide +kernel
theorem dX3_numberToken_45 : decode cX3_numberToken 45 = .ok (.bipush 10, 2) := by decide +kernel
theorem dX3_numberToken_47 : decode cX3_numberToken 47 = .ok (.imul, 1) := by decide +kernel
theorem dX3_numberToken_48 : decode cX3_numberToken 48 = .ok (.aload_n 0, 1) := by decide +kernel
theorem dX3_numberToken_49 : decode cX3_numberToken 49 = .ok (.getfield 9, 3) := by decide +kernel
theorem dX3_numberToken_52 : decode cX3_numberToken 52 = .ok (.iload_n 3, 1) := by decide +kernel
theorem dX3_numberToken_53 : decode cX3_numberToken 53 = .ok (.iaload, 1) := by decide +kernel
theorem dX3_numberToken_54 : decode cX3_numberToken 54 = .ok (.iadd, 1) := by decide +kernel
theorem dX3_numberToken_55 : decode cX3_numberToken 55 = .ok (.bipush 48, 2) := by decide +kernel
theorem dX3_numberToken_57 : decode cX3_numberToken 57 = .ok (.isub, 1) := by decide +kernel
theorem dX3_numberToken_58 : decode cX3_numberToken 58 = .ok (.istore_n 2, 1) := by decide +kernel
theorem dX3_numberToken_59 : decode cX3_numberToken 59 = .ok (.iinc 3 1, 3) := by decide +kernel
theorem dX3_numberToken_62 : decode cX3_numberToken 62 = .ok (.goto (-53), 3) := by decide +kernel
theorem dX3_numberToken_65 : decode cX3_numberToken 65 = .ok (.iload_n 1, 1) := by decide +kernel
theorem dX3_numberToken_66 : decode cX3_numberToken 66 = .ok (.iconst 4, 1) := by decide +kernel
theorem dX3_numberToken_67 : decode cX3_numberToken 67 = .ok (.if_icmp .gt 10, 3) := by decide +kernel
theorem dX3_numberToken_70 : decode cX3_numberToken 70 = .ok (.bipush 100, 2) := by decide +kernel
theorem dX3_numberToken_72 : decode cX3_numberToken 72 = .ok (.iload_n 2, 1) := by decide +kernel
theorem dX3_numberToken_73 : decode cX3_numberToken 73 = .ok (.iadd, 1) := by decide +kernel
theorem dX3_numberToken_74 : decode cX3_numberToken 74 = .ok (.goto 5, 3) := by decide +kernel
theorem dX3_numberToken_77 : decode cX3_numberToken 77 = .ok (.bipush 22, 2) := by decide +kernel
theorem dX3_numberToken_79 : decode cX3_numberToken 79 = .ok (.ireturn, 1) := by decide +kernel
theorem dX3_signToken_0 : decode cX3_signToken 0 = .ok (.iload_n 0, 1) := by decide +kernel
theorem dX3_signToken_1 : decode cX3_signToken 1 = .ok (.tableswitch 127 40 61 #[103, 106, 118, 112, 127, 115, 127, 127, 127, 127, 127, 127, 127, 127, 127, 127, 127, 127, 127, 109, 121, 124], 103) := by decide +kernel
theorem dX3_signToken_104 : decode cX3_signToken 104 = .ok (.bipush 15, 2) := by decide +kernel
theorem dX3_signToken_106 : decode cX3_signToken 106 = .ok (.ireturn, 1) := by decide +kernel
theorem dX3_signToken_107 : decode cX3_signToken 107 = .ok (.bipush 16, 2) := by decide +kernel
theorem dX3_signToken_109 : decode cX3_signToken 109 = .ok (.ireturn, 1) := by decide +kernel
theorem dX3_signToken_110 : decode cX3_signToken 110 = .ok (.bipush 17, 2) := by decide +kernel
theorem dX3_signToken_112 : decode cX3_signToken 112 = .ok (.ireturn, 1) := by decide +kernel
theorem dX3_signToken_113 : decode cX3_signToken 113 = .ok (.bipush 11, 2) := by decide +kernel
theorem dX3_signToken_115 : decode cX3_signToken 115 = .ok (.ireturn, 1) := by decide +kernel
theorem dX3_signToken_116 : decode cX3_signToken 116 = .ok (.bipush 12, 2) := by decide +kernel
theorem dX3_signToken_118 : decode cX3_signToken 118 = .ok (.ireturn, 1) := by decide +kernel
theorem dX3_signToken_119 : decode cX3_signToken 119 = .ok (.bipush 13, 2) := by decide +kernel
theorem dX3_signToken_121 : decode cX3_signToken 121 = .ok (.ireturn, 1) := by decide +kernel
theorem dX3_signToken_122 : decode cX3_signToken 122 = .ok (.bipush 9, 2) := by decide +kernel
theorem dX3_signToken_124 : decode cX3_signToken 124 = .ok (.ireturn, 1) := by decide +kernel
theorem dX3_signToken_125 : decode cX3_signToken 125 = .ok (.bipush 10, 2) := by decide +kernel
theorem dX3_signToken_127 : decode cX3_signToken 127 = .ok (.ireturn, 1) := by decide +kernel
theorem dX3_signToken_128 : decode cX3_signToken 128 = .ok (.bipush 22, 2) := by decide +kernel
theorem dX3_signToken_130 : decode cX3_signToken 130 = .ok (.ireturn, 1) := by decide +kernel
theorem dX3_isBlank_0 : decode cX3_isBlank 0 = .ok (.iload_n 0, 1) := by decide +kernel
theorem dX3_isBlank_1 : decode cX3_isBlank 1 = .ok (.bipush 32, 2) := by decide +kernel
theorem dX3_isBlank_3 : decode cX3_isBlank 3 = .ok (.if_icmp .eq 9, 3) := by decide +kernel
theorem dX3_isBlank_6 : decode cX3_isBlank 6 = .ok (.iload_n 0, 1) := by decide +kernel
theorem dX3_isBlank_7 : decode cX3_isBlank 7 = .ok (.bipush 10, 2) := by decide +kernel
theorem dX3_isBlank_9 : decode cX3_isBlank 9 = .ok (.if_icmp .ne 7, 3) := by decide +kernel
theorem dX3_isBlank_12 : decode cX3_isBlank 12 = .ok (.iconst 1, 1) := by decide +kernel
theorem dX3_isBlank_13 : decode cX3_isBlank 13 = .ok (.goto 4, 3) := by decide +kernel
theorem dX3_isBlank_16 : decode cX3_isBlank 16 = .ok (.iconst 0, 1) := by decide +kernel
theorem dX3_isBlank_17 : decode cX3_isBlank 17 = .ok (.ireturn, 1) := by decide +kernel
theorem dX3_isLetter_0 : decode cX3_isLetter 0 = .ok (.iload_n 0, 1) := by decide +kernel
theorem dX3_isLetter_1 : decode cX3_isLetter 1 = .ok (.bipush 97, 2) := by decide +kernel
theorem dX3_isLetter_3 : decode cX3_isLetter 3 = .ok (.if_icmp .lt 13, 3) := by decide +kernel
theorem dX3_isLetter_6 : decode cX3_isLetter 6 = .ok (.iload_n 0, 1) := by decide +kernel
theorem dX3_isLetter_7 : decode cX3_isLetter 7 = .ok (.bipush 122, 2) := by decide +kernel
theorem dX3_isLetter_9 : decode cX3_isLetter 9 = .ok (.if_icmp .gt 7, 3) := by decide +kernel
theorem dX3_isLetter_12 : decode cX3_isLetter 12 = .ok (.iconst 1, 1) := by decide +kernel
theorem dX3_isLetter_13 : decode cX3_isLetter 13 = .ok (.goto 4, 3) := by decide +kernel
theorem dX3_isLetter_16 : decode cX3_isLetter 16 = .ok (.iconst 0, 1) := by decide +kernel
theorem dX3_isLetter_17 : decode cX3_isLetter 17 = .ok (.ireturn, 1) := by decide +kernel
theorem dX3_isDigit_0 : decode cX3_isDigit 0 = .ok (.iload_n 0, 1) := by decide +kernel
theorem dX3_isDigit_1 : decode cX3_isDigit 1 = .ok (.bipush 48, 2) := by decide +kernel
theorem dX3_isDigit_3 : decode cX3_isDigit 3 = .ok (.if_icmp .lt 13, 3) := by decide +kernel
theorem dX3_isDigit_6 : decode cX3_isDigit 6 = .ok (.iload_n 0, 1) := by decide +kernel
theorem dX3_isDigit_7 : decode cX3_isDigit 7 = .ok (.bipush 57, 2) := by decide +kernel
theorem dX3_isDigit_9 : decode cX3_isDigit 9 = .ok (.if_icmp .gt 7, 3) := by decide +kernel
theorem dX3_isDigit_12 : decode cX3_isDigit 12 = .ok (.iconst 1, 1) := by decide +kernel
theorem dX3_isDigit_13 : decode cX3_isDigit 13 = .ok (.goto 4, 3) := by decide +kernel
theorem dX3_isDigit_16 : decode cX3_isDigit 16 = .ok (.iconst 0, 1) := by decide +kernel
theorem dX3_isDigit_17 : decode cX3_isDigit 17 = .ok (.ireturn, 1) := by decide +kernel
theorem dX4_init_0 : decode cX4_init 0 = .ok (.aload_n 0, 1) := by decide +kernel
theorem dX4_init_1 : decode cX4_init 1 = .ok (.invokespecial 3, 3) := by decide +kernel
theorem dX4_init_4 : decode cX4_init 4 = .ok (.aload_n 0, 1) := by decide +kernel
theorem dX4_init_5 : decode cX4_init 5 = .ok (.bipush 60, 2) := by decide +kernel
theorem dX4_init_7 : decode cX4_init 7 = .ok (.newarray .int, 2) := by decide +kernel
theorem dX4_init_9 : decode cX4_init 9 = .ok (.putfield 9, 3) := by decide +kernel
theorem dX4_init_12 : decode cX4_init 12 = .ok (.aload_n 0, 1) := by decide +kernel
theorem dX4_init_13 : decode cX4_init 13 = .ok (.iconst 0, 1) := by decide +kernel
theorem dX4_init_14 : decode cX4_init 14 = .ok (.putfield 15, 3) := by decide +kernel
theorem dX4_init_17 : decode cX4_init 17 = .ok (.return_, 1) := by decide +kernel
theorem dX4_has_0 : decode cX4_has 0 = .ok (.iload_n 1, 1) := by decide +kernel
theorem dX4_has_1 : decode cX4_has 1 = .ok (.ifCond .lt 15, 3) := by decide +kernel
theorem dX4_has_4 : decode cX4_has 4 = .ok (.iload_n 1, 1) := by decide +kernel
theorem dX4_has_5 : decode cX4_has 5 = .ok (.aload_n 0, 1) := by decide +kernel
theorem dX4_has_6 : decode cX4_has 6 = .ok (.getfield 15, 3) := by decide +kernel
theorem dX4_has_9 : decode cX4_has 9 = .ok (.if_icmp .ge 7, 3) := by decide +kernel
theorem dX4_has_12 : decode cX4_has 12 = .ok (.iconst 1, 1) := by decide +kernel
theorem dX4_has_13 : decode cX4_has 13 = .ok (.goto 4, 3) := by decide +kernel
theorem dX4_has_16 : decode cX4_has 16 = .ok (.iconst 0, 1) := by decide +kernel
theorem dX4_has_17 : decode cX4_has 17 = .ok (.ireturn, 1) := by decide +kernel
theorem dX4_add_0 : decode cX4_add 0 = .ok (.aload_n 0, 1) := by decide +kernel
theorem dX4_add_1 : decode cX4_add 1 = .ok (.getfield 15, 3) := by decide +kernel
theorem dX4_add_4 : decode cX4_add 4 = .ok (.bipush 60, 2) := by decide +kernel
theorem dX4_add_6 : decode cX4_add 6 = .ok (.if_icmp .lt 5, 3) := by decide +kernel
theorem dX4_add_9 : decode cX4_add 9 = .ok (.iconst 0, 1) := by decide +kernel
theorem dX4_add_10 : decode cX4_add 10 = .ok (.ireturn, 1) := by decide +kernel
theorem dX4_add_11 : decode cX4_add 11 = .ok (.aload_n 0, 1) := by decide +kernel
theorem dX4_add_12 : decode cX4_add 12 = .ok (.getfield 9, 3) := by decide +kernel
theorem dX4_add_15 : decode cX4_add 15 = .ok (.aload_n 0, 1) := by decide +kernel
theorem dX4_add_16 : decode cX4_add 16 = .ok (.getfield 15, 3) := by decide +kernel
theorem dX4_add_19 : decode cX4_add 19 = .ok (.iload_n 1, 1) := by decide +kernel
theorem dX4_add_20 : decode cX4_add 20 = .ok (.iastore, 1) := by decide +kernel
theorem dX4_add_21 : decode cX4_add 21 = .ok (.aload_n 0, 1) := by decide +kernel
theorem dX4_add_22 : decode cX4_add 22 = .ok (.dup, 1) := by decide +kernel
theorem dX4_add_23 : decode cX4_add 23 = .ok (.getfield 15, 3) := by decide +kernel
theorem dX4_add_26 : decode cX4_add 26 = .ok (.iconst 1, 1) := by decide +kernel
theorem dX4_add_27 : decode cX4_add 27 = .ok (.iadd, 1) := by decide +kernel
theorem dX4_add_28 : decode cX4_add 28 = .ok (.putfield 15, 3) := by decide +kernel
theorem dX4_add_31 : decode cX4_add 31 = .ok (.iconst 1, 1) := by decide +kernel
theorem dX4_add_32 : decode cX4_add 32 = .ok (.ireturn, 1) := by decide +kernel
set_option maxRecDepth 20000 in
theorem ggX4_become_X4_add : GoodIn wsX4_become wsX4_add := goodIn_r _ [7, 1, 2, 8, 9] rfl (by decide +kernel)
set_option maxRecDepth 20000 in
theorem gX4_become_X4_add : GoodIn wsX4_become (wsV RX4 19 RX4 yX4_add wsX4_add) := goodIn_app (goodIn_of _ (by decide +kernel)) ggX4_become_X4_add
theorem dX4_become_0 : decode cX4_become 0 = .ok (.aload_n 0, 1) := by decide +kernel
theorem dX4_become_1 : decode cX4_become 1 = .ok (.iconst 0, 1) := by decide +kernel
theorem dX4_become_2 : decode cX4_become 2 = .ok (.putfield 15, 3) := by decide +kernel
theorem dX4_become_5 : decode cX4_become 5 = .ok (.iconst 0, 1) := by decide +kernel
theorem dX4_become_6 : decode cX4_become 6 = .ok (.istore_n 2, 1) := by decide +kernel
theorem dX4_become_7 : decode cX4_become 7 = .ok (.iload_n 2, 1) := by decide +kernel
theorem dX4_become_8 : decode cX4_become 8 = .ok (.aload_n 1, 1) := by decide +kernel
theorem dX4_become_9 : decode cX4_become 9 = .ok (.getfield 15, 3) := by decide +kernel
theorem dX4_become_12 : decode cX4_become 12 = .ok (.if_icmp .ge 20, 3) := by decide +kernel
theorem dX4_become_15 : decode cX4_become 15 = .ok (.aload_n 0, 1) := by decide +kernel
theorem dX4_become_16 : decode cX4_become 16 = .ok (.aload_n 1, 1) := by decide +kernel
theorem dX4_become_17 : decode cX4_become 17 = .ok (.getfield 9, 3) := by decide +kernel
theorem dX4_become_20 : decode cX4_become 20 = .ok (.iload_n 2, 1) := by decide +kernel
theorem dX4_become_21 : decode cX4_become 21 = .ok (.iaload, 1) := by decide +kernel
theorem dX4_become_22 : decode cX4_become 22 = .ok (.invokevirtual 19, 3) := by decide +kernel
theorem dX4_become_25 : decode cX4_become 25 = .ok (.pop, 1) := by decide +kernel
theorem dX4_become_26 : decode cX4_become 26 = .ok (.iinc 2 1, 3) := by decide +kernel
theorem dX4_become_29 : decode cX4_become 29 = .ok (.goto (-22), 3) := by decide +kernel
theorem dX4_become_32 : decode cX4_become 32 = .ok (.return_, 1) := by decide +kernel
set_option maxRecDepth 20000 in
theorem ggX4_becomeAllBut_X4_add : GoodIn wsX4_becomeAllBut wsX4_add := goodIn_r _ [6, 1, 7, 8, 9] rfl (by decide +kernel)
set_option maxRecDepth 20000 in
theorem gX4_becomeAllBut_X4_add : GoodIn wsX4_becomeAllBut (wsV RX4 19 RX4 yX4_add wsX4_add) := goodIn_app (goodIn_of _ (by decide +kernel)) ggX4_becomeAllBut_X4_add
theorem dX4_becomeAllBut_0 : decode cX4_becomeAllBut 0 = .ok (.aload_n 0, 1) := by decide +kernel
theorem dX4_becomeAllBut_1 : decode cX4_becomeAllBut 1 = .ok (.iconst 0, 1) := by decide +kernel
theorem dX4_becomeAllBut_2 : decode cX4_becomeAllBut 2 = .ok (.putfield 15, 3) := by decide +kernel
theorem dX4_becomeAllBut_5 : decode cX4_becomeAllBut 5 = .ok (.iconst 1, 1) := by decide +kernel
theorem dX4_becomeAllBut_6 : decode cX4_becomeAllBut 6 = .ok (.istore 4, 2) := by decide +kernel
theorem dX4_becomeAllBut_8 : decode cX4_becomeAllBut 8 = .ok (.iload 4, 2) := by decide +kernel
theorem dX4_becomeAllBut_10 : decode cX4_becomeAllBut 10 = .ok (.iload_n 2, 1) := by decide +kernel
theorem dX4_becomeAllBut_11 : decode cX4_becomeAllBut 11 = .ok (.if_icmp .gt 39, 3) := by decide +kernel
theorem dX4_becomeAllBut_14 : decode cX4_becomeAllBut 14 = .ok (.iload_n 3, 1) := by decide +kernel
theorem dX4_becomeAllBut_15 : decode cX4_becomeAllBut 15 = .ok (.ifCond .ne 8, 3) := by decide +kernel
theorem dX4_becomeAllBut_18 : decode cX4_becomeAllBut 18 = .ok (.iload 4, 2) := by decide +kernel
theorem dX4_becomeAllBut_20 : decode cX4_becomeAllBut 20 = .ok (.goto 9, 3) := by decide +kernel
theorem dX4_becomeAllBut_23 : decode cX4_becomeAllBut 23 = .ok (.iload_n 2, 1) := by decide +kernel
theorem dX4_becomeAllBut_24 : decode cX4_becomeAllBut 24 = .ok (.iconst 1, 1) := by decide +kernel
theorem dX4_becomeAllBut_25 : decode cX4_becomeAllBut 25 = .ok (.iadd, 1) := by decide +kernel
theorem dX4_becomeAllBut_26 : decode cX4_becomeAllBut 26 = .ok (.iload 4, 2) := by decide +kernel
theorem dX4_becomeAllBut_28 : decode cX4_becomeAllBut 28 = .ok (.isub, 1) := by decide +kernel
theorem dX4_becomeAllBut_29 : decode cX4_becomeAllBut 29 = .ok (.istore 5, 2) := by decide +kernel
theorem dX4_becomeAllBut_31 : decode cX4_becomeAllBut 31 = .ok (.iload 5, 2) := by decide +kernel
theorem dX4_becomeAllBut_33 : decode cX4_becomeAllBut 33 = .ok (.iload_n 1, 1) := by decide +kernel
theorem dX4_becomeAllBut_34 : decode cX4_becomeAllBut 34 = .ok (.if_icmp .eq 10, 3) := by decide +kernel
theorem dX4_becomeAllBut_37 : decode cX4_becomeAllBut 37 = .ok (.aload_n 0, 1) := by decide +kernel
theorem dX4_becomeAllBut_38 : decode cX4_becomeAllBut 38 = .ok (.iload 5, 2) := by decide +kernel
theorem dX4_becomeAllBut_40 : decode cX4_becomeAllBut 40 = .ok (.invokevirtual 19, 3) := by decide +kernel
theorem dX4_becomeAllBut_43 : decode cX4_becomeAllBut 43 = .ok (.pop, 1) := by decide +kernel
theorem dX4_becomeAllBut_44 : decode cX4_becomeAllBut 44 = .ok (.iinc 4 1, 3) := by decide +kernel
theorem dX4_becomeAllBut_47 : decode cX4_becomeAllBut 47 = .ok (.goto (-39), 3) := by decide +kernel
theorem dX4_becomeAllBut_50 : decode cX4_becomeAllBut 50 = .ok (.return_, 1) := by decide +kernel
set_option maxRecDepth 20000 in
theorem ggX4_becomeWithout_X4_add : GoodIn wsX4_becomeWithout wsX4_add := goodIn_r _ [7, 1, 2, 8, 9] rfl (by decide +kernel)
set_option maxRecDepth 20000 in
theorem gX4_becomeWithout_X4_add : GoodIn wsX4_becomeWithout (wsV RX4 19 RX4 yX4_add wsX4_add) := goodIn_app (goodIn_of _ (by decide +kernel)) ggX4_becomeWithout_X4_add
theorem dX4_becomeWithout_0 : decode cX4_becomeWithout 0 = .ok (.aload_n 0, 1) := by decide +kernel
theorem dX4_becomeWithout_1 : decode cX4_becomeWithout 1 = .ok (.iconst 0, 1) := by decide +kernel
theorem dX4_becomeWithout_2 : decode cX4_becomeWithout 2 = .ok (.putfield 15, 3) := by decide +kernel
theorem dX4_becomeWithout_5 : decode cX4_becomeWithout 5 = .ok (.iconst 0, 1) := by decide +kernel
theorem dX4_becomeWithout_6 : decode cX4_becomeWithout 6 = .ok (.istore_n 3, 1) := by decide +kernel
theorem dX4_becomeWithout_7 : decode cX4_becomeWithout 7 = .ok (.iload_n 3, 1) := by decide +kernel
theorem dX4_becomeWithout_8 : decode cX4_becomeWithout 8 = .ok (.aload_n 1, 1) := by decide +kernel
theorem dX4_becomeWithout_9 : decode cX4_becomeWithout 9 = .ok (.getfield 15, 3) := by decide +kernel
theorem dX4_becomeWithout_12 : decode cX4_becomeWithout 12 = .ok (.if_icmp .ge 25, 3) := by decide +kernel
theorem dX4_becomeWithout_15 : decode cX4_becomeWithout 15 = .ok (.iload_n 3, 1) := by decide +kernel
theorem dX4_becomeWithout_16 : decode cX4_becomeWithout 16 = .ok (.iload_n 2, 1) := by decide +kernel
theorem dX4_becomeWithout_17 : decode cX4_becomeWithout 17 = .ok (.if_icmp .eq 14, 3) := by decide +kernel
theorem dX4_becomeWithout_20 : decode cX4_becomeWithout 20 = .ok (.aload_n 0, 1) := by decide +kernel
theorem dX4_becomeWithout_21 : decode cX4_becomeWithout 21 = .ok (.aload_n 1, 1) := by decide +kernel
theorem dX4_becomeWithout_22 : decode cX4_becomeWithout 22 = .ok (.getfield 9, 3) := by decide +kernel
theorem dX4_becomeWithout_25 : decode cX4_becomeWithout 25 = .ok (.iload_n 3, 1) := by decide +kernel
theorem dX4_becomeWithout_26 : decode cX4_becomeWithout 26 = .ok (.iaload, 1) := by decide +kernel
theorem dX4_becomeWithout_27 : decode cX4_becomeWithout 27 = .ok (.invokevirtual 19, 3) := by decide +kernel
theorem dX4_becomeWithout_30 : decode cX4_becomeWithout 30 = .ok (.pop, 1) := by decide +kernel
theorem dX4_becomeWithout_31 : decode cX4_becomeWithout 31 = .ok (.iinc 3 1, 3) := by decide +kernel
theorem dX4_becomeWithout_34 : decode cX4_becomeWithout 34 = .ok (.goto (-27), 3) := by decide +kernel
theorem dX4_becomeWithout_37 : decode cX4_becomeWithout 37 = .ok (.return_, 1) := by decide +kernel
set_option maxRecDepth 20000 in
theorem ggX4_becomeEverySecond_X4_add : GoodIn wsX4_becomeEverySecond wsX4_add := goodIn_r _ [7, 1, 2, 8, 9] rfl (by decide +kernel)
set_option maxRecDepth 20000 in
theorem gX4_becomeEverySecond_X4_add : GoodIn wsX4_becomeEverySecond (wsV RX4 19 RX4 yX4_add wsX4_add) := goodIn_app (goodIn_of _ (by decide +kernel)) ggX4_becomeEverySecond_X4_add
theorem dX4_becomeEverySecond_0 : decode cX4_becomeEverySecond 0 = .ok (.aload_n 0, 1) := by decide +kernel
theorem dX4_becomeEverySecond_1 : decode cX4_becomeEverySecond 1 = .ok (.iconst 0, 1) := by decide +kernel
theorem dX4_becomeEverySecond_2 : decode cX4_becomeEverySecond 2 = .ok (.putfield 15, 3) := by decide +kernel
theorem dX4_becomeEverySecond_5 : decode cX4_becomeEverySecond 5 = .ok (.iconst 0, 1) := by decide +kernel
theorem dX4_becomeEverySecond_6 : decode cX4_becomeEverySecond 6 = .ok (.istore_n 3, 1) := by decide +kernel
theorem dX4_becomeEverySecond_7 : decode cX4_becomeEverySecond 7 = .ok (.iload_n 3, 1) := by decide +kernel
theorem dX4_becomeEverySecond_8 : decode cX4_becomeEverySecond 8 = .ok (.aload_n 1, 1) := by decide +kernel
theorem dX4_becomeEverySecond_9 : decode cX4_becomeEverySecond 9 = .ok (.getfield 15, 3) := by decide +kernel
theorem dX4_becomeEverySecond_12 : decode cX4_becomeEverySecond 12 = .ok (.if_icmp .ge 27, 3) := by decide +kernel
theorem dX4_becomeEverySecond_15 : decode cX4_becomeEverySecond 15 = .ok (.iload_n 3, 1) := by decide +kernel
theorem dX4_becomeEverySecond_16 : decode cX4_becomeEverySecond 16 = .ok (.iconst 2, 1) := by decide +kernel
theorem dX4_becomeEverySecond_17 : decode cX4_becomeEverySecond 17 = .ok (.irem, 1) := by decide +kernel
theorem dX4_becomeEverySecond_18 : decode cX4_becomeEverySecond 18 = .ok (.iload_n 2, 1) := by decide +kernel
theorem dX4_becomeEverySecond_19 : decode cX4_becomeEverySecond 19 = .ok (.if_icmp .ne 14, 3) := by decide +kernel
theorem dX4_becomeEverySecond_22 : decode cX4_becomeEverySecond 22 = .ok (.aload_n 0, 1) := by decide +kernel
theorem dX4_becomeEverySecond_23 : decode cX4_becomeEverySecond 23 = .ok (.aload_n 1, 1) := by decide +kernel
theorem dX4_becomeEverySecond_24 : decode cX4_becomeEverySecond 24 = .ok (.getfield 9, 3) := by decide +kernel
theorem dX4_becomeEverySecond_27 : decode cX4_becomeEverySecond 27 = .ok (.iload_n 3, 1) := by decide +kernel
theorem dX4_becomeEverySecond_28 : decode cX4_becomeEverySecond 28 = .ok (.iaload, 1) := by decide +kernel
theorem dX4_becomeEverySecond_29 : decode cX4_becomeEverySecond 29 = .ok (.invokevirtual 19, 3) := by decide +kernel
theorem dX4_becomeEverySecond_32 : decode cX4_becomeEverySecond 32 = .ok (.pop, 1) := by decide +kernel
theorem dX4_becomeEverySecond_33 : decode cX4_becomeEverySecond 33 = .ok (.iinc 3 1, 3) := by decide +kernel
theorem dX4_becomeEverySecond_36 : decode cX4_becomeEverySecond 36 = .ok (.goto (-29), 3) := by decide +kernel
theorem dX4_becomeEverySecond_39 : decode cX4_becomeEverySecond 39 = .ok (.return_, 1) := by decide +kernel
set_option maxRecDepth 20000 in
theorem ggX4_dropAbove_X4_add : GoodIn wsX4_dropAbove wsX4_add := goodIn_r _ [7, 1, 2, 8, 9] rfl (by decide +kernel)
set_option maxRecDepth 20000 in
theorem gX4_dropAbove_X4_add : GoodIn wsX4_dropAbove (wsV RX4 19 RX4 yX4_add wsX4_add) := goodIn_app (goodIn_of _ (by decide +kernel)) ggX4_dropAbove_X4_add
theorem dX4_dropAbove_0 : decode cX4_dropAbove 0 = .ok (.aload_n 0, 1) := by decide +kernel
theorem dX4_dropAbove_1 : decode cX4_dropAbove 1 = .ok (.getfield 15, 3) := by decide +kernel
theorem dX4_dropAbove_4 : decode cX4_dropAbove 4 = .ok (.istore_n 2, 1) := by decide +kernel
theorem dX4_dropAbove_5 : decode cX4_dropAbove 5 = .ok (.aload_n 0, 1) := by decide +kernel
theorem dX4_dropAbove_6 : decode cX4_dropAbove 6 = .ok (.iconst 0, 1) := by decide +kernel
theorem dX4_dropAbove_7 : decode cX4_dropAbove 7 = .ok (.putfield 15, 3) := by decide +kernel
theorem dX4_dropAbove_10 : decode cX4_dropAbove 10 = .ok (.iconst 0, 1) := by decide +kernel
theorem dX4_dropAbove_11 : decode cX4_dropAbove 11 = .ok (.istore_n 3, 1) := by decide +kernel
theorem dX4_dropAbove_12 : decode cX4_dropAbove 12 = .ok (.iload_n 3, 1) := by decide +kernel
theorem dX4_dropAbove_13 : decode cX4_dropAbove 13 = .ok (.iload_n 2, 1) := by decide +kernel
theorem dX4_dropAbove_14 : decode cX4_dropAbove 14 = .ok (.if_icmp .ge 30, 3) := by decide +kernel
theorem dX4_dropAbove_17 : decode cX4_dropAbove 17 = .ok (.aload_n 0, 1) := by decide +kernel
theorem dX4_dropAbove_18 : decode cX4_dropAbove 18 = .ok (.getfield 9, 3) := by decide +kernel
theorem dX4_dropAbove_21 : decode cX4_dropAbove 21 = .ok (.iload_n 3, 1) := by decide +kernel
theorem dX4_dropAbove_22 : decode cX4_dropAbove 22 = .ok (.iaload, 1) := by decide +kernel
theorem dX4_dropAbove_23 : decode cX4_dropAbove 23 = .ok (.iload_n 1, 1) := by decide +kernel
theorem dX4_dropAbove_24 : decode cX4_dropAbove 24 = .ok (.if_icmp .gt 14, 3) := by decide +kernel
theorem dX4_dropAbove_27 : decode cX4_dropAbove 27 = .ok (.aload_n 0, 1) := by decide +kernel
theorem dX4_dropAbove_28 : decode cX4_dropAbove 28 = .ok (.aload_n 0, 1) := by decide +kernel
theorem dX4_dropAbove_29 : decode cX4_dropAbove 29 = .ok (.getfield 9, 3) := by decide +kernel
theorem dX4_dropAbove_32 : decode cX4_dropAbove 32 = .ok (.iload_n 3, 1) := by decide +kernel
theorem dX4_dropAbove_33 : decode cX4_dropAbove 33 = .ok (.iaload, 1) := by decide +kernel
theorem dX4_dropAbove_34 : decode cX4_dropAbove 34 = .ok (.invokevirtual 19, 3) := by decide +kernel
theorem dX4_dropAbove_37 : decode cX4_dropAbove 37 = .ok (.pop, 1) := by decide +kernel
theorem dX4_dropAbove_38 : decode cX4_dropAbove 38 = .ok (.iinc 3 1, 3) := by decide +kernel
theorem dX4_dropAbove_41 : decode cX4_dropAbove 41 = .ok (.goto (-29), 3) := by decide +kernel
theorem dX4_dropAbove_44 : decode cX4_dropAbove 44 = .ok (.return_, 1) := by decide +kernel
set_option maxRecDepth 20000 in
theorem ggX4_change_X4_has : GoodIn wsX4_change wsX4_has := goodIn_r _ [6, 7, 8, 9] rfl (by decide +kernel)
set_option maxRecDepth 20000 in
theorem gX4_change_X4_has : GoodIn wsX4_change (wsV RX4 23 RX4 yX4_has wsX4_has) := goodIn_app (goodIn_of _ (by decide +kernel)) ggX4_change_X4_has
theorem dX4_change_0 : decode cX4_change 0 = .ok (.aload_n 0, 1) := by decide +kernel
theorem dX4_change_1 : decode cX4_change 1 = .ok (.iload_n 1, 1) := by decide +kernel
theorem dX4_change_2 : decode cX4_change 2 = .ok (.invokevirtual 23, 3) := by decide +kernel
theorem dX4_change_5 : decode cX4_change 5 = .ok (.ifCond .eq 37, 3) := by decide +kernel
theorem dX4_change_8 : decode cX4_change 8 = .ok (.aload_n 0, 1) := by decide +kernel
theorem dX4_change_9 : decode cX4_change 9 = .ok (.iload_n 2, 1) := by decide +kernel
theorem dX4_change_10 : decode cX4_change 10 = .ok (.invokevirtual 23, 3) := by decide +kernel
theorem dX4_change_13 : decode cX4_change 13 = .ok (.ifCond .eq 29, 3) := by decide +kernel
theorem dX4_change_16 : decode cX4_change 16 = .ok (.aload_n 0, 1) := by decide +kernel
theorem dX4_change_17 : decode cX4_change 17 = .ok (.getfield 9, 3) := by decide +kernel
theorem dX4_change_20 : decode cX4_change 20 = .ok (.iload_n 1, 1) := by decide +kernel
theorem dX4_change_21 : decode cX4_change 21 = .ok (.iaload, 1) := by decide +kernel
theorem dX4_change_22 : decode cX4_change 22 = .ok (.istore_n 3, 1) := by decide +kernel
theorem dX4_change_23 : decode cX4_change 23 = .ok (.aload_n 0, 1) := by decide +kernel
theorem dX4_change_24 : decode cX4_change 24 = .ok (.getfield 9, 3) := by decide +kernel
theorem dX4_change_27 : decode cX4_change 27 = .ok (.iload_n 1, 1) := by decide +kernel
theorem dX4_change_28 : decode cX4_change 28 = .ok (.aload_n 0, 1) := by decide +kernel
theorem dX4_change_29 : decode cX4_change 29 = .ok (.getfield 9, 3) := by decide +kernel
theorem dX4_change_32 : decode cX4_change 32 = .ok (.iload_n 2, 1) := by decide +kernel
theorem dX4_change_33 : decode cX4_change 33 = .ok (.iaload, 1) := by decide +kernel
theorem dX4_change_34 : decode cX4_change 34 = .ok (.iastore, 1) := by decide +kernel
theorem dX4_change_35 : decode cX4_change 35 = .ok (.aload_n 0, 1) := by decide +kernel
theorem dX4_change_36 : decode cX4_change 36 = .ok (.getfield 9, 3) := by decide +kernel
theorem dX4_change_39 : decode cX4_change 39 = .ok (.iload_n 2, 1) := by decide +kernel
theorem dX4_change_40 : decode cX4_change 40 = .ok (.iload_n 3, 1) := by decide +kernel
theorem dX4_change_41 : decode cX4_change 41 = .ok (.iastore, 1) := by decide +kernel
theorem dX4_change_42 : decode cX4_change 42 = .ok (.return_, 1) := by decide +kernel
set_option maxRecDepth 20000 in
theorem ggX4_beTurned_X4_change : GoodIn wsX4_beTurned wsX4_change := goodIn_r _ [6, 7, 8, 9, 10, 5, 11, 1, 12, 13] rfl (by decide +kernel)
set_option maxRecDepth 20000 in
theorem gX4_beTurned_X4_change : GoodIn wsX4_beTurned (wsV RX4 26 RX4 yX4_change wsX4_change) := goodIn_app (goodIn_of _ (by decide +kernel)) ggX4_beTurned_X4_change
theorem dX4_beTurned_0 : decode cX4_beTurned 0 = .ok (.iload_n 1, 1) := by decide +kernel
theorem dX4_beTurned_1 : decode cX4_beTurned 1 = .ok (.ifCond .ne 37, 3) := by decide +kernel
theorem dX4_beTurned_4 : decode cX4_beTurned 4 = .ok (.iconst 0, 1) := by decide +kernel
theorem dX4_beTurned_5 : decode cX4_beTurned 5 = .ok (.istore_n 2, 1) := by decide +kernel
theorem dX4_beTurned_6 : decode cX4_beTurned 6 = .ok (.iload_n 2, 1) := by decide +kernel
theorem dX4_beTurned_7 : decode cX4_beTurned 7 = .ok (.aload_n 0, 1) := by decide +kernel
theorem dX4_beTurned_8 : decode cX4_beTurned 8 = .ok (.getfield 15, 3) := by decide +kernel
theorem dX4_beTurned_11 : decode cX4_beTurned 11 = .ok (.iconst 2, 1) := by decide +kernel
theorem dX4_beTurned_12 : decode cX4_beTurned 12 = .ok (.idiv, 1) := by decide +kernel
theorem dX4_beTurned_13 : decode cX4_beTurned 13 = .ok (.if_icmp .ge 22, 3) := by decide +kernel
theorem dX4_beTurned_16 : decode cX4_beTurned 16 = .ok (.aload_n 0, 1) := by decide +kernel
theorem dX4_beTurned_17 : decode cX4_beTurned 17 = .ok (.iload_n 2, 1) := by decide +kernel
theorem dX4_beTurned_18 : decode cX4_beTurned 18 = .ok (.aload_n 0, 1) := by decide +kernel
theorem dX4_beTurned_19 : decode cX4_beTurned 19 = .ok (.getfield 15, 3) := by decide +kernel
theorem dX4_beTurned_22 : decode cX4_beTurned 22 = .ok (.iconst 1, 1) := by decide +kernel
theorem dX4_beTurned_23 : decode cX4_beTurned 23 = .ok (.isub, 1) := by decide +kernel
theorem dX4_beTurned_24 : decode cX4_beTurned 24 = .ok (.iload_n 2, 1) := by decide +kernel
theorem dX4_beTurned_25 : decode cX4_beTurned 25 = .ok (.isub, 1) := by decide +kernel
theorem dX4_beTurned_26 : decode cX4_beTurned 26 = .ok (.invokevirtual 26, 3) := by decide +kernel
theorem dX4_beTurned_29 : decode cX4_beTurned 29 = .ok (.iinc 2 1, 3) := by decide +kernel
theorem dX4_beTurned_32 : decode cX4_beTurned 32 = .ok (.goto (-26), 3) := by decide +kernel
theorem dX4_beTurned_35 : decode cX4_beTurned 35 = .ok (.goto 62, 3) := by decide +kernel
theorem dX4_beTurned_38 : decode cX4_beTurned 38 = .ok (.iload_n 1, 1) := by decide +kernel
theorem dX4_beTurned_39 : decode cX4_beTurned 39 = .ok (.iconst 1, 1) := by decide +kernel
theorem dX4_beTurned_40 : decode cX4_beTurned 40 = .ok (.if_icmp .ne 32, 3) := by decide +kernel
theorem dX4_beTurned_43 : decode cX4_beTurned 43 = .ok (.iconst 0, 1) := by decide +kernel
theorem dX4_beTurned_44 : decode cX4_beTurned 44 = .ok (.istore_n 2, 1) := by decide +kernel
theorem dX4_beTurned_45 : decode cX4_beTurned 45 = .ok (.iload_n 2, 1) := by decide +kernel
theorem dX4_beTurned_46 : decode cX4_beTurned 46 = .ok (.aload_n 0, 1) := by decide +kernel
theorem dX4_beTurned_47 : decode cX4_beTurned 47 = .ok (.getfield 15, 3) := by decide +kernel
theorem dX4_beTurned_50 : decode cX4_beTurned 50 = .ok (.iconst 1, 1) := by decide +kernel
theorem dX4_beTurned_51 : decode cX4_beTurned 51 = .ok (.isub, 1) := by decide +kernel
theorem dX4_beTurned_52 : decode cX4_beTurned 52 = .ok (.if_icmp .ge 17, 3) := by decide +kernel
theorem dX4_beTurned_55 : decode cX4_beTurned 55 = .ok (.aload_n 0, 1) := by decide +kernel
theorem dX4_beTurned_56 : decode cX4_beTurned 56 = .ok (.iload_n 2, 1) := by decide +kernel
theorem dX4_beTurned_57 : decode cX4_beTurned 57 = .ok (.iload_n 2, 1) := by decide +kernel
theorem dX4_beTurned_58 : decode cX4_beTurned 58 = .ok (.iconst 1, 1) := by decide +kernel
theorem dX4_beTurned_59 : decode cX4_beTurned 59 = .ok (.iadd, 1) := by decide +kernel
theorem dX4_beTurned_60 : decode cX4_beTurned 60 = .ok (.invokevirtual 26, 3) := by decide +kernel
theorem dX4_beTurned_63 : decode cX4_beTurned 63 = .ok (.iinc 2 1, 3) := by decide +kernel
theorem dX4_beTurned_66 : decode cX4_beTurned 66 = .ok (.goto (-21), 3) := by decide +kernel
theorem dX4_beTurned_69 : decode cX4_beTurned 69 = .ok (.goto 28, 3) := by decide +kernel
theorem dX4_beTurned_72 : decode cX4_beTurned 72 = .ok (.aload_n 0, 1) := by decide +kernel
theorem dX4_beTurned_73 : decode cX4_beTurned 73 = .ok (.getfield 15, 3) := by decide +kernel
theorem dX4_beTurned_76 : decode cX4_beTurned 76 = .ok (.iconst 1, 1) := by decide +kernel
theorem dX4_beTurned_77 : decode cX4_beTurned 77 = .ok (.isub, 1) := by decide +kernel
theorem dX4_beTurned_78 : decode cX4_beTurned 78 = .ok (.istore_n 2, 1) := by decide +kernel
theorem dX4_beTurned_79 : decode cX4_beTurned 79 = .ok (.iload_n 2, 1) := by decide +kernel
theorem dX4_beTurned_80 : decode cX4_beTurned 80 = .ok (.ifCond .le 17, 3) := by decide +kernel
theorem dX4_beTurned_83 : decode cX4_beTurned 83 = .ok (.aload_n 0, 1) := by decide +kernel
theorem dX4_beTurned_84 : decode cX4_beTurned 84 = .ok (.iload_n 2, 1) := by decide +kernel
theorem dX4_beTurned_85 : decode cX4_beTurned 85 = .ok (.iload_n 2, 1) := by decide +kernel
theorem dX4_beTurned_86 : decode cX4_beTurned 86 = .ok (.iconst 1, 1) := by decide +kernel
theorem dX4_beTurned_87 : decode cX4_beTurned 87 = .ok (.isub, 1) := by decide +kernel
theorem dX4_beTurned_88 : decode cX4_beTurned 88 = .ok (.invokevirtual 26, 3) := by decide +kernel
theorem dX4_beTurned_91 : decode cX4_beTurned 91 = .ok (.iinc 2 (-1), 3) := by decide +kernel
theorem dX4_beTurned_94 : decode cX4_beTurned 94 = .ok (.goto (-15), 3) := by decide +kernel
theorem dX4_beTurned_97 : decode cX4_beTurned 97 = .ok (.return_, 1) := by decide +kernel
theorem dX4_timesOf_0 : decode cX4_timesOf 0 = .ok (.iconst 0, 1) := by decide +kernel
theorem dX4_timesOf_1 : decode cX4_timesOf 1 = .ok (.istore_n 2, 1) := by decide +kernel
theorem dX4_timesOf_2 : decode cX4_timesOf 2 = .ok (.iconst 0, 1) := by decide +kernel
theorem dX4_timesOf_3 : decode cX4_timesOf 3 = .ok (.istore_n 3, 1) := by decide +kernel
theorem dX4_timesOf_4 : decode cX4_timesOf 4 = .ok (.iload_n 3, 1) := by decide +kernel
theorem dX4_timesOf_5 : decode cX4_timesOf 5 = .ok (.aload_n 0, 1) := by decide +kernel
theorem dX4_timesOf_6 : decode cX4_timesOf 6 = .ok (.getfield 15, 3) := by decide +kernel
theorem dX4_timesOf_9 : decode cX4_timesOf 9 = .ok (.if_icmp .ge 22, 3) := by decide +kernel
theorem dX4_timesOf_12 : decode cX4_timesOf 12 = .ok (.aload_n 0, 1) := by decide +kernel
theorem dX4_timesOf_13 : decode cX4_timesOf 13 = .ok (.getfield 9, 3) := by decide +kernel
theorem dX4_timesOf_16 : decode cX4_timesOf 16 = .ok (.iload_n 3, 1) := by decide +kernel
theorem dX4_timesOf_17 : decode cX4_timesOf 17 = .ok (.iaload, 1) := by decide +kernel
theorem dX4_timesOf_18 : decode cX4_timesOf 18 = .ok (.iload_n 1, 1) := by decide +kernel
theorem dX4_timesOf_19 : decode cX4_timesOf 19 = .ok (.if_icmp .ne 6, 3) := by decide +kernel
theorem dX4_timesOf_22 : decode cX4_timesOf 22 = .ok (.iinc 2 1, 3) := by decide +kernel
theorem dX4_timesOf_25 : decode cX4_timesOf 25 = .ok (.iinc 3 1, 3) := by decide +kernel
theorem dX4_timesOf_28 : decode cX4_timesOf 28 = .ok (.goto (-24), 3) := by decide +kernel
theorem dX4_timesOf_31 : decode cX4_timesOf 31 = .ok (.iload_n 2, 1) := by decide +kernel
theorem dX4_timesOf_32 : decode cX4_timesOf 32 = .ok (.ireturn, 1) := by decide +kernel
theorem dX4_earliestTwice_0 : decode cX4_earliestTwice 0 = .ok (.iconst 1, 1) := by decide +kernel
theorem dX4_earliestTwice_1 : decode cX4_earliestTwice 1 = .ok (.istore_n 1, 1) := by decide +kernel
theorem dX4_earliestTwice_2 : decode cX4_earliestTwice 2 = .ok (.iload_n 1, 1) := by decide +kernel
theorem dX4_earliestTwice_3 : decode cX4_earliestTwice 3 = .ok (.aload_n 0, 1) := by decide +kernel
theorem dX4_earliestTwice_4 : decode cX4_earliestTwice 4 = .ok (.getfield 15, 3) := by decide +kernel
theorem dX4_earliestTwice_7 : decode cX4_earliestTwice 7 = .ok (.if_icmp .ge 44, 3) := by decide +kernel
theorem dX4_earliestTwice_10 : decode cX4_earliestTwice 10 = .ok (.iconst 0, 1) := by decide +kernel
theorem dX4_earliestTwice_11 : decode cX4_earliestTwice 11 = .ok (.istore_n 2, 1) := by decide +kernel
theorem dX4_earliestTwice_12 : decode cX4_earliestTwice 12 = .ok (.iload_n 2, 1) := by decide +kernel
theorem dX4_earliestTwice_13 : decode cX4_earliestTwice 13 = .ok (.iload_n 1, 1) := by decide +kernel
theorem dX4_earliestTwice_14 : decode cX4_earliestTwice 14 = .ok (.if_icmp .ge 31, 3) := by decide +kernel
theorem dX4_earliestTwice_17 : decode cX4_earliestTwice 17 = .ok (.aload_n 0, 1) := by decide +kernel
theorem dX4_earliestTwice_18 : decode cX4_earliestTwice 18 = .ok (.getfield 9, 3) := by decide +kernel
theorem dX4_earliestTwice_21 : decode cX4_earliestTwice 21 = .ok (.iload_n 2, 1) := by decide +kernel
theorem dX4_earliestTwice_22 : decode cX4_earliestTwice 22 = .ok (.iaload, 1) := by decide +kernel
theorem dX4_earliestTwice_23 : decode cX4_earliestTwice 23 = .ok (.aload_n 0, 1) := by decide +kernel
theorem dX4_earliestTwice_24 : decode cX4_earliestTwice 24 = .ok (.getfield 9, 3) := by decide +kernel
theorem dX4_earliestTwice_27 : decode cX4_earliestTwice 27 = .ok (.iload_n 1, 1) := by decide +kernel
theorem dX4_earliestTwice_28 : decode cX4_earliestTwice 28 = .ok (.iaload, 1) := by decide +kernel
theorem dX4_earliestTwice_29 : decode cX4_earliestTwice 29 = .ok (.if_icmp .ne 10, 3) := by decide +kernel
theorem dX4_earliestTwice_32 : decode cX4_earliestTwice 32 = .ok (.aload_n 0, 1) := by decide +kernel
theorem dX4_earliestTwice_33 : decode cX4_earliestTwice 33 = .ok (.getfield 9, 3) := by decide +kernel
theorem dX4_earliestTwice_36 : decode cX4_earliestTwice 36 = .ok (.iload_n 1, 1) := by decide +kernel
theorem dX4_earliestTwice_37 : decode cX4_earliestTwice 37 = .ok (.iaload, 1) := by decide +kernel
theorem dX4_earliestTwice_38 : decode cX4_earliestTwice 38 = .ok (.ireturn, 1) := by decide +kernel
theorem dX4_earliestTwice_39 : decode cX4_earliestTwice 39 = .ok (.iinc 2 1, 3) := by decide +kernel
theorem dX4_earliestTwice_42 : decode cX4_earliestTwice 42 = .ok (.goto (-30), 3) := by decide +kernel
theorem dX4_earliestTwice_45 : decode cX4_earliestTwice 45 = .ok (.iinc 1 1, 3) := by decide +kernel
theorem dX4_earliestTwice_48 : decode cX4_earliestTwice 48 = .ok (.goto (-46), 3) := by decide +kernel
theorem dX4_earliestTwice_51 : decode cX4_earliestTwice 51 = .ok (.iconst (-1), 1) := by decide +kernel
theorem dX4_earliestTwice_52 : decode cX4_earliestTwice 52 = .ok (.ireturn, 1) := by decide +kernel
theorem dX4_sum_0 : decode cX4_sum 0 = .ok (.iconst 0, 1) := by decide +kernel
theorem dX4_sum_1 : decode cX4_sum 1 = .ok (.istore_n 1, 1) := by decide +kernel
theorem dX4_sum_2 : decode cX4_sum 2 = .ok (.iconst 0, 1) := by decide +kernel
theorem dX4_sum_3 : decode cX4_sum 3 = .ok (.istore_n 2, 1) := by decide +kernel
theorem dX4_sum_4 : decode cX4_sum 4 = .ok (.iload_n 2, 1) := by decide +kernel
theorem dX4_sum_5 : decode cX4_sum 5 = .ok (.aload_n 0, 1) := by decide +kernel
theorem dX4_sum_6 : decode cX4_sum 6 = .ok (.getfield 15, 3) := by decide +kernel
theorem dX4_sum_9 : decode cX4_sum 9 = .ok (.if_icmp .ge 18, 3) := by decide +kernel
theorem dX4_sum_12 : decode cX4_sum 12 = .ok (.iload_n 1, 1) := by decide +kernel
theorem dX4_sum_13 : decode cX4_sum 13 = .ok (.aload_n 0, 1) := by decide +kernel
theorem dX4_sum_14 : decode cX4_sum 14 = .ok (.getfield 9, 3) := by decide +kernel
theorem dX4_sum_17 : decode cX4_sum 17 = .ok (.iload_n 2, 1) := by decide +kernel
theorem dX4_sum_18 : decode cX4_sum 18 = .ok (.iaload, 1) := by decide +kernel
theorem dX4_sum_19 : decode cX4_sum 19 = .ok (.iadd, 1) := by decide +kernel
theorem dX4_sum_20 : decode cX4_sum 20 = .ok (.istore_n 1, 1) := by decide +kernel
theorem dX4_sum_21 : decode cX4_sum 21 = .ok (.iinc 2 1, 3) := by decide +kernel
theorem dX4_sum_24 : decode cX4_sum 24 = .ok (.goto (-20), 3) := by decide +kernel
theorem dX4_sum_27 : decode cX4_sum 27 = .ok (.iload_n 1, 1) := by decide +kernel
theorem dX4_sum_28 : decode cX4_sum 28 = .ok (.ireturn, 1) := by decide +kernel
theorem dX4_squares_0 : decode cX4_squares 0 = .ok (.iconst 0, 1) := by decide +kernel
theorem dX4_squares_1 : decode cX4_squares 1 = .ok (.istore_n 1, 1) := by decide +kernel
theorem dX4_squares_2 : decode cX4_squares 2 = .ok (.iconst 0, 1) := by decide +kernel
theorem dX4_squares_3 : decode cX4_squares 3 = .ok (.istore_n 2, 1) := by decide +kernel
theorem dX4_squares_4 : decode cX4_squares 4 = .ok (.iload_n 2, 1) := by decide +kernel
theorem dX4_squares_5 : decode cX4_squares 5 = .ok (.aload_n 0, 1) := by decide +kernel
theorem dX4_squares_6 : decode cX4_squares 6 = .ok (.getfield 15, 3) := by decide +kernel
theorem dX4_squares_9 : decode cX4_squares 9 = .ok (.if_icmp .ge 25, 3) := by decide +kernel
theorem dX4_squares_12 : decode cX4_squares 12 = .ok (.iload_n 1, 1) := by decide +kernel
theorem dX4_squares_13 : decode cX4_squares 13 = .ok (.aload_n 0, 1) := by decide +kernel
theorem dX4_squares_14 : decode cX4_squares 14 = .ok (.getfield 9, 3) := by decide +kernel
theorem dX4_squares_17 : decode cX4_squares 17 = .ok (.iload_n 2, 1) := by decide +kernel
theorem dX4_squares_18 : decode cX4_squares 18 = .ok (.iaload, 1) := by decide +kernel
theorem dX4_squares_19 : decode cX4_squares 19 = .ok (.aload_n 0, 1) := by decide +kernel
theorem dX4_squares_20 : decode cX4_squares 20 = .ok (.getfield 9, 3) := by decide +kernel
theorem dX4_squares_23 : decode cX4_squares 23 = .ok (.iload_n 2, 1) := by decide +kernel
theorem dX4_squares_24 : decode cX4_squares 24 = .ok (.iaload, 1) := by decide +kernel
theorem dX4_squares_25 : decode cX4_squares 25 = .ok (.imul, 1) := by decide +kernel
theorem dX4_squares_26 : decode cX4_squares 26 = .ok (.iadd, 1) := by decide +kernel
theorem dX4_squares_27 : decode cX4_squares 27 = .ok (.istore_n 1, 1) := by decide +kernel
theorem dX4_squares_28 : decode cX4_squares 28 = .ok (.iinc 2 1, 3) := by decide +kernel
theorem dX4_squares_31 : decode cX4_squares 31 = .ok (.goto (-27), 3) := by decide +kernel
theorem dX4_squares_34 : decode cX4_squares 34 = .ok (.iload_n 1, 1) := by decide +kernel
theorem dX4_squares_35 : decode cX4_squares 35 = .ok (.ireturn, 1) := by decide +kernel
theorem dX5_init_0 : decode cX5_init 0 = .ok (.aload_n 0, 1) := by decide +kernel
theorem dX5_init_1 : decode cX5_init 1 = .ok (.invokespecial 3, 3) := by decide +kernel
theorem dX5_init_4 : decode cX5_init 4 = .ok (.aload_n 0, 1) := by decide +kernel
theorem dX5_init_5 : decode cX5_init 5 = .ok (.bipush 40, 2) := by decide +kernel
theorem dX5_init_7 : decode cX5_init 7 = .ok (.newarray .int, 2) := by decide +kernel
theorem dX5_init_9 : decode cX5_init 9 = .ok (.putfield 9, 3) := by decide +kernel
theorem dX5_init_12 : decode cX5_init 12 = .ok (.aload_n 0, 1) := by decide +kernel
theorem dX5_init_13 : decode cX5_init 13 = .ok (.iconst (-1), 1) := by decide +kernel
theorem dX5_init_14 : decode cX5_init 14 = .ok (.putfield 15, 3) := by decide +kernel
theorem dX5_init_17 : decode cX5_init 17 = .ok (.aload_n 0, 1) := by decide +kernel
theorem dX5_init_18 : decode cX5_init 18 = .ok (.iconst 0, 1) := by decide +kernel
theorem dX5_init_19 : decode cX5_init 19 = .ok (.putfield 19, 3) := by decide +kernel
theorem dX5_init_22 : decode cX5_init 22 = .ok (.return_, 1) := by decide +kernel
theorem dX5_isMissing_0 : decode cX5_isMissing 0 = .ok (.aload_n 0, 1) := by decide +kernel
theorem dX5_isMissing_1 : decode cX5_isMissing 1 = .ok (.getfield 15, 3) := by decide +kernel
theorem dX5_isMissing_4 : decode cX5_isMissing 4 = .ok (.iconst (-1), 1) := by decide +kernel
theorem dX5_isMissing_5 : decode cX5_isMissing 5 = .ok (.if_icmp .ne 7, 3) := by decide +kernel
theorem dX5_isMissing_8 : decode cX5_isMissing 8 = .ok (.iconst 1, 1) := by decide +kernel
theorem dX5_isMissing_9 : decode cX5_isMissing 9 = .ok (.goto 4, 3) := by decide +kernel
theorem dX5_isMissing_12 : decode cX5_isMissing 12 = .ok (.iconst 0, 1) := by decide +kernel
theorem dX5_isMissing_13 : decode cX5_isMissing 13 = .ok (.ireturn, 1) := by decide +kernel
theorem dX5_has_0 : decode cX5_has 0 = .ok (.iload_n 1, 1) := by decide +kernel
theorem dX5_has_1 : decode cX5_has 1 = .ok (.ifCond .lt 15, 3) := by decide +kernel
theorem dX5_has_4 : decode cX5_has 4 = .ok (.iload_n 1, 1) := by decide +kernel
theorem dX5_has_5 : decode cX5_has 5 = .ok (.aload_n 0, 1) := by decide +kernel
theorem dX5_has_6 : decode cX5_has 6 = .ok (.getfield 19, 3) := by decide +kernel
theorem dX5_has_9 : decode cX5_has 9 = .ok (.if_icmp .ge 7, 3) := by decide +kernel
theorem dX5_has_12 : decode cX5_has 12 = .ok (.iconst 1, 1) := by decide +kernel
theorem dX5_has_13 : decode cX5_has 13 = .ok (.goto 4, 3) := by decide +kernel
theorem dX5_has_16 : decode cX5_has 16 = .ok (.iconst 0, 1) := by decide +kernel
theorem dX5_has_17 : decode cX5_has 17 = .ok (.ireturn, 1) := by decide +kernel
theorem dX5_hasRun_0 : decode cX5_hasRun 0 = .ok (.iload_n 1, 1) := by decide +kernel
theorem dX5_hasRun_1 : decode cX5_hasRun 1 = .ok (.ifCond .lt 29, 3) := by decide +kernel
theorem dX5_hasRun_4 : decode cX5_hasRun 4 = .ok (.iload_n 2, 1) := by decide +kernel
theorem dX5_hasRun_5 : decode cX5_hasRun 5 = .ok (.ifCond .lt 25, 3) := by decide +kernel
theorem dX5_hasRun_8 : decode cX5_hasRun 8 = .ok (.iload_n 1, 1) := by decide +kernel
theorem dX5_hasRun_9 : decode cX5_hasRun 9 = .ok (.aload_n 0, 1) := by decide +kernel
theorem dX5_hasRun_10 : decode cX5_hasRun 10 = .ok (.getfield 19, 3) := by decide +kernel
theorem dX5_hasRun_13 : decode cX5_hasRun 13 = .ok (.if_icmp .gt 17, 3) := by decide +kernel
theorem dX5_hasRun_16 : decode cX5_hasRun 16 = .ok (.iload_n 2, 1) := by decide +kernel
theorem dX5_hasRun_17 : decode cX5_hasRun 17 = .ok (.aload_n 0, 1) := by decide +kernel
theorem dX5_hasRun_18 : decode cX5_hasRun 18 = .ok (.getfield 19, 3) := by decide +kernel
theorem dX5_hasRun_21 : decode cX5_hasRun 21 = .ok (.iload_n 1, 1) := by decide +kernel
theorem dX5_hasRun_22 : decode cX5_hasRun 22 = .ok (.isub, 1) := by decide +kernel
theorem dX5_hasRun_23 : decode cX5_hasRun 23 = .ok (.if_icmp .gt 7, 3) := by decide +kernel
theorem dX5_hasRun_26 : decode cX5_hasRun 26 = .ok (.iconst 1, 1) := by decide +kernel
theorem dX5_hasRun_27 : decode cX5_hasRun 27 = .ok (.goto 4, 3) := by decide +kernel
theorem dX5_hasRun_30 : decode cX5_hasRun 30 = .ok (.iconst 0, 1) := by decide +kernel
theorem dX5_hasRun_31 : decode cX5_hasRun 31 = .ok (.ireturn, 1) := by decide +kernel
theorem dX5_become_0 : decode cX5_become 0 = .ok (.aload_n 0, 1) := by decide +kernel
theorem dX5_become_1 : decode cX5_become 1 = .ok (.iload_n 1, 1) := by decide +kernel
theorem dX5_become_2 : decode cX5_become 2 = .ok (.putfield 15, 3) := by decide +kernel
theorem dX5_become_5 : decode cX5_become 5 = .ok (.aload_n 0, 1) := by decide +kernel
theorem dX5_become_6 : decode cX5_become 6 = .ok (.iconst 0, 1) := by decide +kernel
theorem dX5_become_7 : decode cX5_become 7 = .ok (.bipush 40, 2) := by decide +kernel
theorem dX5_become_9 : decode cX5_become 9 = .ok (.iload_n 2, 1) := by decide +kernel
theorem dX5_become_10 : decode cX5_become 10 = .ok (.invokestatic 22, 3) := by decide +kernel
theorem dX5_become_13 : decode cX5_become 13 = .ok (.invokestatic 28, 3) := by decide +kernel
theorem dX5_become_16 : decode cX5_become 16 = .ok (.putfield 19, 3) := by decide +kernel
theorem dX5_become_19 : decode cX5_become 19 = .ok (.iconst 0, 1) := by decide +kernel
theorem dX5_become_20 : decode cX5_become 20 = .ok (.istore_n 3, 1) := by decide +kernel
theorem dX5_become_21 : decode cX5_become 21 = .ok (.iload_n 3, 1) := by decide +kernel
theorem dX5_become_22 : decode cX5_become 22 = .ok (.bipush 40, 2) := by decide +kernel
theorem dX5_become_24 : decode cX5_become 24 = .ok (.if_icmp .ge 16, 3) := by decide +kernel
theorem dX5_become_27 : decode cX5_become 27 = .ok (.aload_n 0, 1) := by decide +kernel
theorem dX5_become_28 : decode cX5_become 28 = .ok (.getfield 9, 3) := by decide +kernel
theorem dX5_become_31 : decode cX5_become 31 = .ok (.iload_n 3, 1) := by decide +kernel
theorem dX5_become_32 : decode cX5_become 32 = .ok (.iconst 0, 1) := by decide +kernel
theorem dX5_become_33 : decode cX5_become 33 = .ok (.iastore, 1) := by decide +kernel
theorem dX5_become_34 : decode cX5_become 34 = .ok (.iinc 3 1, 3) := by decide +kernel
theorem dX5_become_37 : decode cX5_become 37 = .ok (.goto (-16), 3) := by decide +kernel
theorem dX5_become_40 : decode cX5_become 40 = .ok (.return_, 1) := by decide +kernel
set_option maxRecDepth 20000 in
theorem ggX5_put_X5_has : GoodIn wsX5_put wsX5_has := goodIn_r _ [7, 8, 9, 10, 11] rfl (by decide +kernel)
set_option maxRecDepth 20000 in
theorem gX5_put_X5_has : GoodIn wsX5_put (wsV RX5 31 RX5 yX5_has wsX5_has) := goodIn_app (goodIn_of _ (by decide +kernel)) ggX5_put_X5_has
theorem dX5_put_0 : decode cX5_put 0 = .ok (.aload_n 0, 1) := by decide +kernel
theorem dX5_put_1 : decode cX5_put 1 = .ok (.iload_n 1, 1) := by decide +kernel
theorem dX5_put_2 : decode cX5_put 2 = .ok (.invokevirtual 31, 3) := by decide +kernel
theorem dX5_put_5 : decode cX5_put 5 = .ok (.ifCond .eq 35, 3) := by decide +kernel
theorem dX5_put_8 : decode cX5_put 8 = .ok (.aload_n 0, 1) := by decide +kernel
theorem dX5_put_9 : decode cX5_put 9 = .ok (.getfield 9, 3) := by decide +kernel
theorem dX5_put_12 : decode cX5_put 12 = .ok (.iload_n 1, 1) := by decide +kernel
theorem dX5_put_13 : decode cX5_put 13 = .ok (.aload_n 0, 1) := by decide +kernel
theorem dX5_put_14 : decode cX5_put 14 = .ok (.getfield 15, 3) := by decide +kernel
theorem dX5_put_17 : decode cX5_put 17 = .ok (.ifCond .ne 8, 3) := by decide +kernel
theorem dX5_put_20 : decode cX5_put 20 = .ok (.iload_n 2, 1) := by decide +kernel
theorem dX5_put_21 : decode cX5_put 21 = .ok (.i2b, 1) := by decide +kernel
theorem dX5_put_22 : decode cX5_put 22 = .ok (.goto 17, 3) := by decide +kernel
theorem dX5_put_25 : decode cX5_put 25 = .ok (.aload_n 0, 1) := by decide +kernel
theorem dX5_put_26 : decode cX5_put 26 = .ok (.getfield 15, 3) := by decide +kernel
theorem dX5_put_29 : decode cX5_put 29 = .ok (.iconst 1, 1) := by decide +kernel
theorem dX5_put_30 : decode cX5_put 30 = .ok (.if_icmp .ne 8, 3) := by decide +kernel
theorem dX5_put_33 : decode cX5_put 33 = .ok (.iload_n 2, 1) := by decide +kernel
theorem dX5_put_34 : decode cX5_put 34 = .ok (.i2s, 1) := by decide +kernel
theorem dX5_put_35 : decode cX5_put 35 = .ok (.goto 4, 3) := by decide +kernel
theorem dX5_put_38 : decode cX5_put 38 = .ok (.iload_n 2, 1) := by decide +kernel
theorem dX5_put_39 : decode cX5_put 39 = .ok (.iastore, 1) := by decide +kernel
theorem dX5_put_40 : decode cX5_put 40 = .ok (.return_, 1) := by decide +kernel
theorem dX6_init_0 : decode cX6_init 0 = .ok (.aload_n 0, 1) := by decide +kernel
theorem dX6_init_1 : decode cX6_init 1 = .ok (.invokespecial 3, 3) := by decide +kernel
theorem dX6_init_4 : decode cX6_init 4 = .ok (.aload_n 0, 1) := by decide +kernel
theorem dX6_init_5 : decode cX6_init 5 = .ok (.sipush 160, 3) := by decide +kernel
theorem dX6_init_8 : decode cX6_init 8 = .ok (.newarray .int, 2) := by decide +kernel
theorem dX6_init_10 : decode cX6_init 10 = .ok (.putfield 9, 3) := by decide +kernel
theorem dX6_init_13 : decode cX6_init 13 = .ok (.aload_n 0, 1) := by decide +kernel
theorem dX6_init_14 : decode cX6_init 14 = .ok (.iconst 3, 1) := by decide +kernel
theorem dX6_init_15 : decode cX6_init 15 = .ok (.newarray .int, 2) := by decide +kernel
theorem dX6_init_17 : decode cX6_init 17 = .ok (.putfield 15, 3) := by decide +kernel
theorem dX6_init_20 : decode cX6_init 20 = .ok (.aload_n 0, 1) := by decide +kernel
theorem dX6_init_21 : decode cX6_init 21 = .ok (.iconst 0, 1) := by decide +kernel
theorem dX6_init_22 : decode cX6_init 22 = .ok (.putfield 18, 3) := by decide +kernel
theorem dX6_init_25 : decode cX6_init 25 = .ok (.aload_n 0, 1) := by decide +kernel
theorem dX6_init_26 : decode cX6_init 26 = .ok (.iconst 0, 1) := by decide +kernel
theorem dX6_init_27 : decode cX6_init 27 = .ok (.putfield 22, 3) := by decide +kernel
theorem dX6_init_30 : decode cX6_init 30 = .ok (.return_, 1) := by decide +kernel
theorem dX6_clear_0 : decode cX6_clear 0 = .ok (.aload_n 0, 1) := by decide +kernel
theorem dX6_clear_1 : decode cX6_clear 1 = .ok (.iconst 0, 1) := by decide +kernel
theorem dX6_clear_2 : decode cX6_clear 2 = .ok (.putfield 18, 3) := by decide +kernel
theorem dX6_clear_5 : decode cX6_clear 5 = .ok (.aload_n 0, 1) := by decide +kernel
theorem dX6_clear_6 : decode cX6_clear 6 = .ok (.iconst 0, 1) := by decide +kernel
theorem dX6_clear_7 : decode cX6_clear 7 = .ok (.putfield 22, 3) := by decide +kernel
theorem dX6_clear_10 : decode cX6_clear 10 = .ok (.return_, 1) := by decide +kernel
theorem dX6_add_0 : decode cX6_add 0 = .ok (.aload_n 0, 1) := by decide +kernel
theorem dX6_add_1 : decode cX6_add 1 = .ok (.getfield 18, 3) := by decide +kernel
theorem dX6_add_4 : decode cX6_add 4 = .ok (.sipush 160, 3) := by decide +kernel
theorem dX6_add_7 : decode cX6_add 7 = .ok (.if_icmp .ge 23, 3) := by decide +kernel
theorem dX6_add_10 : decode cX6_add 10 = .ok (.aload_n 0, 1) := by decide +kernel
theorem dX6_add_11 : decode cX6_add 11 = .ok (.getfield 9, 3) := by decide +kernel
theorem dX6_add_14 : decode cX6_add 14 = .ok (.aload_n 0, 1) := by decide +kernel
theorem dX6_add_15 : decode cX6_add 15 = .ok (.getfield 18, 3) := by decide +kernel
theorem dX6_add_18 : decode cX6_add 18 = .ok (.iload_n 1, 1) := by decide +kernel
theorem dX6_add_19 : decode cX6_add 19 = .ok (.iastore, 1) := by decide +kernel
theorem dX6_add_20 : decode cX6_add 20 = .ok (.aload_n 0, 1) := by decide +kernel
theorem dX6_add_21 : decode cX6_add 21 = .ok (.dup, 1) := by decide +kernel
theorem dX6_add_22 : decode cX6_add 22 = .ok (.getfield 18, 3) := by decide +kernel
theorem dX6_add_25 : decode cX6_add 25 = .ok (.iconst 1, 1) := by decide +kernel
theorem dX6_add_26 : decode cX6_add 26 = .ok (.iadd, 1) := by decide +kernel
theorem dX6_add_27 : decode cX6_add 27 = .ok (.putfield 18, 3) := by decide +kernel
theorem dX6_add_30 : decode cX6_add 30 = .ok (.return_, 1) := by decide +kernel
theorem dX6_endPart_0 : decode cX6_endPart 0 = .ok (.aload_n 0, 1) := by decide +kernel
theorem dX6_endPart_1 : decode cX6_endPart 1 = .ok (.getfield 22, 3) := by decide +kernel
theorem dX6_endPart_4 : decode cX6_endPart 4 = .ok (.iconst 3, 1) := by decide +kernel
theorem dX6_endPart_5 : decode cX6_endPart 5 = .ok (.if_icmp .ge 26, 3) := by decide +kernel
theorem dX6_endPart_8 : decode cX6_endPart 8 = .ok (.aload_n 0, 1) := by decide +kernel
theorem dX6_endPart_9 : decode cX6_endPart 9 = .ok (.getfield 15, 3) := by decide +kernel
theorem dX6_endPart_12 : decode cX6_endPart 12 = .ok (.aload_n 0, 1) := by decide +kernel
theorem dX6_endPart_13 : decode cX6_endPart 13 = .ok (.getfield 22, 3) := by decide +kernel
theorem dX6_endPart_16 : decode cX6_endPart 16 = .ok (.aload_n 0, 1) := by decide +kernel
theorem dX6_endPart_17 : decode cX6_endPart 17 = .ok (.getfield 18, 3) := by decide +kernel
theorem dX6_endPart_20 : decode cX6_endPart 20 = .ok (.iastore, 1) := by decide +kernel
theorem dX6_endPart_21 : decode cX6_endPart 21 = .ok (.aload_n 0, 1) := by decide +kernel
theorem dX6_endPart_22 : decode cX6_endPart 22 = .ok (.dup, 1) := by decide +kernel
theorem dX6_endPart_23 : decode cX6_endPart 23 = .ok (.getfield 22, 3) := by decide +kernel
theorem dX6_endPart_26 : decode cX6_endPart 26 = .ok (.iconst 1, 1) := by decide +kernel
theorem dX6_endPart_27 : decode cX6_endPart 27 = .ok (.iadd, 1) := by decide +kernel
theorem dX6_endPart_28 : decode cX6_endPart 28 = .ok (.putfield 22, 3) := by decide +kernel
theorem dX6_endPart_31 : decode cX6_endPart 31 = .ok (.return_, 1) := by decide +kernel
theorem dX6_startOf_0 : decode cX6_startOf 0 = .ok (.iload_n 1, 1) := by decide +kernel
theorem dX6_startOf_1 : decode cX6_startOf 1 = .ok (.iconst 1, 1) := by decide +kernel
theorem dX6_startOf_2 : decode cX6_startOf 2 = .ok (.if_icmp .lt 22, 3) := by decide +kernel
theorem dX6_startOf_5 : decode cX6_startOf 5 = .ok (.iload_n 1, 1) := by decide +kernel
theorem dX6_startOf_6 : decode cX6_startOf 6 = .ok (.aload_n 0, 1) := by decide +kernel
theorem dX6_startOf_7 : decode cX6_startOf 7 = .ok (.getfield 22, 3) := by decide +kernel
theorem dX6_startOf_10 : decode cX6_startOf 10 = .ok (.if_icmp .ge 14, 3) := by decide +kernel
theorem dX6_startOf_13 : decode cX6_startOf 13 = .ok (.aload_n 0, 1) := by decide +kernel
theorem dX6_startOf_14 : decode cX6_startOf 14 = .ok (.getfield 15, 3) := by decide +kernel
theorem dX6_startOf_17 : decode cX6_startOf 17 = .ok (.iload_n 1, 1) := by decide +kernel
theorem dX6_startOf_18 : decode cX6_startOf 18 = .ok (.iconst 1, 1) := by decide +kernel
theorem dX6_startOf_19 : decode cX6_startOf 19 = .ok (.isub, 1) := by decide +kernel
theorem dX6_startOf_20 : decode cX6_startOf 20 = .ok (.iaload, 1) := by decide +kernel
theorem dX6_startOf_21 : decode cX6_startOf 21 = .ok (.goto 4, 3) := by decide +kernel
theorem dX6_startOf_24 : decode cX6_startOf 24 = .ok (.iconst 0, 1) := by decide +kernel
theorem dX6_startOf_25 : decode cX6_startOf 25 = .ok (.ireturn, 1) := by decide +kernel
theorem dX6_endOf_0 : decode cX6_endOf 0 = .ok (.iload_n 1, 1) := by decide +kernel
theorem dX6_endOf_1 : decode cX6_endOf 1 = .ok (.ifCond .lt 20, 3) := by decide +kernel
theorem dX6_endOf_4 : decode cX6_endOf 4 = .ok (.iload_n 1, 1) := by decide +kernel
theorem dX6_endOf_5 : decode cX6_endOf 5 = .ok (.aload_n 0, 1) := by decide +kernel
theorem dX6_endOf_6 : decode cX6_endOf 6 = .ok (.getfield 22, 3) := by decide +kernel
theorem dX6_endOf_9 : decode cX6_endOf 9 = .ok (.if_icmp .ge 12, 3) := by decide +kernel
theorem dX6_endOf_12 : decode cX6_endOf 12 = .ok (.aload_n 0, 1) := by decide +kernel
theorem dX6_endOf_13 : decode cX6_endOf 13 = .ok (.getfield 15, 3) := by decide +kernel
theorem dX6_endOf_16 : decode cX6_endOf 16 = .ok (.iload_n 1, 1) := by decide +kernel
theorem dX6_endOf_17 : decode cX6_endOf 17 = .ok (.iaload, 1) := by decide +kernel
theorem dX6_endOf_18 : decode cX6_endOf 18 = .ok (.goto 4, 3) := by decide +kernel
theorem dX6_endOf_21 : decode cX6_endOf 21 = .ok (.iconst 0, 1) := by decide +kernel
theorem dX6_endOf_22 : decode cX6_endOf 22 = .ok (.ireturn, 1) := by decide +kernel
theorem dX7_init_0 : decode cX7_init 0 = .ok (.aload_n 0, 1) := by decide +kernel
theorem dX7_init_1 : decode cX7_init 1 = .ok (.invokespecial 3, 3) := by decide +kernel
theorem dX7_init_4 : decode cX7_init 4 = .ok (.aload_n 0, 1) := by decide +kernel
theorem dX7_init_5 : decode cX7_init 5 = .ok (.bipush 6, 2) := by decide +kernel
theorem dX7_init_7 : decode cX7_init 7 = .ok (.newarray .int, 2) := by decide +kernel
theorem dX7_init_9 : decode cX7_init 9 = .ok (.putfield 9, 3) := by decide +kernel
theorem dX7_init_12 : decode cX7_init 12 = .ok (.aload_n 0, 1) := by decide +kernel
theorem dX7_init_13 : decode cX7_init 13 = .ok (.sipush 160, 3) := by decide +kernel
theorem dX7_init_16 : decode cX7_init 16 = .ok (.newarray .int, 2) := by decide +kernel
theorem dX7_init_18 : decode cX7_init 18 = .ok (.putfield 15, 3) := by decide +kernel
theorem dX7_init_21 : decode cX7_init 21 = .ok (.aload_n 0, 1) := by decide +kernel
theorem dX7_init_22 : decode cX7_init 22 = .ok (.aconst_null, 1) := by decide +kernel
theorem dX7_init_23 : decode cX7_init 23 = .ok (.putfield 18, 3) := by decide +kernel
theorem dX7_init_26 : decode cX7_init 26 = .ok (.return_, 1) := by decide +kernel
theorem dX7_setOut_0 : decode cX7_setOut 0 = .ok (.aload_n 0, 1) := by decide +kernel
theorem dX7_setOut_1 : decode cX7_setOut 1 = .ok (.aload_n 1, 1) := by decide +kernel
theorem dX7_setOut_2 : decode cX7_setOut 2 = .ok (.putfield 18, 3) := by decide +kernel
theorem dX7_setOut_5 : decode cX7_setOut 5 = .ok (.aload_n 0, 1) := by decide +kernel
theorem dX7_setOut_6 : decode cX7_setOut 6 = .ok (.getfield 9, 3) := by decide +kernel
theorem dX7_setOut_9 : decode cX7_setOut 9 = .ok (.iconst 4, 1) := by decide +kernel
theorem dX7_setOut_10 : decode cX7_setOut 10 = .ok (.iload_n 2, 1) := by decide +kernel
theorem dX7_setOut_11 : decode cX7_setOut 11 = .ok (.iastore, 1) := by decide +kernel
theorem dX7_setOut_12 : decode cX7_setOut 12 = .ok (.aload_n 0, 1) := by decide +kernel
theorem dX7_setOut_13 : decode cX7_setOut 13 = .ok (.getfield 9, 3) := by decide +kernel
theorem dX7_setOut_16 : decode cX7_setOut 16 = .ok (.iconst 5, 1) := by decide +kernel
theorem dX7_setOut_17 : decode cX7_setOut 17 = .ok (.iload_n 3, 1) := by decide +kernel
theorem dX7_setOut_18 : decode cX7_setOut 18 = .ok (.iastore, 1) := by decide +kernel
theorem dX7_setOut_19 : decode cX7_setOut 19 = .ok (.return_, 1) := by decide +kernel
set_option maxRecDepth 20000 in
theorem ggX7_setOutAs_X7_setOut : GoodIn wsX7_setOutAs wsX7_setOut := goodIn_r _ [5, 6, 7, 22, 23, 24] rfl (by decide +kernel)
set_option maxRecDepth 20000 in
theorem gX7_setOutAs_X7_setOut : GoodIn wsX7_setOutAs (wsV RX7 28 RX7 yX7_setOut wsX7_setOut) := goodIn_app (goodIn_of _ (by decide +kernel)) ggX7_setOutAs_X7_setOut
set_option maxRecDepth 20000 in
theorem ggX7_setOutAs_X0_lowest : GoodIn wsX7_setOutAs wsX0_lowest := goodIn_r _ [11, 12, 17, 18, 19, 20, 21] rfl (by decide +kernel)
set_option maxRecDepth 20000 in
theorem gX7_setOutAs_X0_lowest_n35 : GoodIn wsX7_setOutAs (wsX0_lowest) := ggX7_setOutAs_X0_lowest
set_option maxRecDepth 20000 in
theorem ggX7_setOutAs_X7_keepBoth : GoodIn wsX7_setOutAs wsX7_keepBoth := goodIn_r _ [16, 7, 22, 23, 24] rfl (by decide +kernel)
set_option maxRecDepth 20000 in
theorem gX7_setOutAs_X7_keepBoth : GoodIn wsX7_setOutAs (wsV RX7 42 RX7 yX7_keepBoth wsX7_keepBoth) := goodIn_app (goodIn_of _ (by decide +kernel)) ggX7_setOutAs_X7_keepBoth
theorem dX7_setOutAs_0 : decode cX7_setOutAs 0 = .ok (.aload_n 0, 1) := by decide +kernel
theorem dX7_setOutAs_1 : decode cX7_setOutAs 1 = .ok (.aload_n 2, 1) := by decide +kernel
theorem dX7_setOutAs_2 : decode cX7_setOutAs 2 = .ok (.iload_n 3, 1) := by decide +kernel
theorem dX7_setOutAs_3 : decode cX7_setOutAs 3 = .ok (.aload_n 1, 1) := by decide +kernel
theorem dX7_setOutAs_4 : decode cX7_setOutAs 4 = .ok (.getfield 22, 3) := by decide +kernel
theorem dX7_setOutAs_7 : decode cX7_setOutAs 7 = .ok (.invokevirtual 28, 3) := by decide +kernel
theorem dX7_setOutAs_10 : decode cX7_setOutAs 10 = .ok (.aload_n 0, 1) := by decide +kernel
theorem dX7_setOutAs_11 : decode cX7_setOutAs 11 = .ok (.aload_n 1, 1) := by decide +kernel
theorem dX7_setOutAs_12 : decode cX7_setOutAs 12 = .ok (.aload_n 1, 1) := by decide +kernel
theorem dX7_setOutAs_13 : decode cX7_setOutAs 13 = .ok (.getfield 32, 3) := by decide +kernel
theorem dX7_setOutAs_16 : decode cX7_setOutAs 16 = .ok (.invokevirtual 35, 3) := by decide +kernel
theorem dX7_setOutAs_19 : decode cX7_setOutAs 19 = .ok (.aload_n 1, 1) := by decide +kernel
theorem dX7_setOutAs_20 : decode cX7_setOutAs 20 = .ok (.aload_n 1, 1) := by decide +kernel
theorem dX7_setOutAs_21 : decode cX7_setOutAs 21 = .ok (.getfield 39, 3) := by decide +kernel
theorem dX7_setOutAs_24 : decode cX7_setOutAs 24 = .ok (.invokevirtual 35, 3) := by decide +kernel
theorem dX7_setOutAs_27 : decode cX7_setOutAs 27 = .ok (.invokevirtual 42, 3) := by decide +kernel
theorem dX7_setOutAs_30 : decode cX7_setOutAs 30 = .ok (.return_, 1) := by decide +kernel
theorem dX7_keepBoth_0 : decode cX7_keepBoth 0 = .ok (.aload_n 0, 1) := by decide +kernel
theorem dX7_keepBoth_1 : decode cX7_keepBoth 1 = .ok (.getfield 9, 3) := by decide +kernel
theorem dX7_keepBoth_4 : decode cX7_keepBoth 4 = .ok (.iconst 0, 1) := by decide +kernel
theorem dX7_keepBoth_5 : decode cX7_keepBoth 5 = .ok (.iload_n 1, 1) := by decide +kernel
theorem dX7_keepBoth_6 : decode cX7_keepBoth 6 = .ok (.iastore, 1) := by decide +kernel
theorem dX7_keepBoth_7 : decode cX7_keepBoth 7 = .ok (.aload_n 0, 1) := by decide +kernel
theorem dX7_keepBoth_8 : decode cX7_keepBoth 8 = .ok (.getfield 9, 3) := by decide +kernel
theorem dX7_keepBoth_11 : decode cX7_keepBoth 11 = .ok (.iconst 1, 1) := by decide +kernel
theorem dX7_keepBoth_12 : decode cX7_keepBoth 12 = .ok (.iload_n 2, 1) := by decide +kernel
theorem dX7_keepBoth_13 : decode cX7_keepBoth 13 = .ok (.iastore, 1) := by decide +kernel
theorem dX7_keepBoth_14 : decode cX7_keepBoth 14 = .ok (.return_, 1) := by decide +kernel
theorem dX7_meet_0 : decode cX7_meet 0 = .ok (.aload_n 0, 1) := by decide +kernel
theorem dX7_meet_1 : decode cX7_meet 1 = .ok (.getfield 9, 3) := by decide +kernel
theorem dX7_meet_4 : decode cX7_meet 4 = .ok (.iconst 2, 1) := by decide +kernel
theorem dX7_meet_5 : decode cX7_meet 5 = .ok (.iload_n 1, 1) := by decide +kernel
theorem dX7_meet_6 : decode cX7_meet 6 = .ok (.iastore, 1) := by decide +kernel
theorem dX7_meet_7 : decode cX7_meet 7 = .ok (.aload_n 0, 1) := by decide +kernel
theorem dX7_meet_8 : decode cX7_meet 8 = .ok (.getfield 9, 3) := by decide +kernel
theorem dX7_meet_11 : decode cX7_meet 11 = .ok (.iconst 3, 1) := by decide +kernel
theorem dX7_meet_12 : decode cX7_meet 12 = .ok (.iload_n 2, 1) := by decide +kernel
theorem dX7_meet_13 : decode cX7_meet 13 = .ok (.iastore, 1) := by decide +kernel
theorem dX7_meet_14 : decode cX7_meet 14 = .ok (.return_, 1) := by decide +kernel
theorem dX7_pair_0 : decode cX7_pair 0 = .ok (.aload_n 0, 1) := by decide +kernel
theorem dX7_pair_1 : decode cX7_pair 1 = .ok (.getfield 9, 3) := by decide +kernel
theorem dX7_pair_4 : decode cX7_pair 4 = .ok (.iconst 0, 1) := by decide +kernel
theorem dX7_pair_5 : decode cX7_pair 5 = .ok (.iaload, 1) := by decide +kernel
theorem dX7_pair_6 : decode cX7_pair 6 = .ok (.bipush 16, 2) := by decide +kernel
theorem dX7_pair_8 : decode cX7_pair 8 = .ok (.ishl, 1) := by decide +kernel
theorem dX7_pair_9 : decode cX7_pair 9 = .ok (.aload_n 0, 1) := by decide +kernel
theorem dX7_pair_10 : decode cX7_pair 10 = .ok (.getfield 9, 3) := by decide +kernel
theorem dX7_pair_13 : decode cX7_pair 13 = .ok (.iconst 1, 1) := by decide +kernel
theorem dX7_pair_14 : decode cX7_pair 14 = .ok (.iaload, 1) := by decide +kernel
theorem dX7_pair_15 : decode cX7_pair 15 = .ok (.ior, 1) := by decide +kernel
theorem dX7_pair_16 : decode cX7_pair 16 = .ok (.ireturn, 1) := by decide +kernel
set_option maxRecDepth 20000 in
theorem ggX7_keepPair_X7_keepBoth : GoodIn wsX7_keepPair wsX7_keepBoth := goodIn_r _ [6, 7, 8, 9, 10] rfl (by decide +kernel)
set_option maxRecDepth 20000 in
theorem gX7_keepPair_X7_keepBoth : GoodIn wsX7_keepPair (wsV RX7 42 RX7 yX7_keepBoth wsX7_keepBoth) := goodIn_app (goodIn_of _ (by decide +kernel)) ggX7_keepPair_X7_keepBoth
theorem dX7_keepPair_0 : decode cX7_keepPair 0 = .ok (.aload_n 0, 1) := by decide +kernel
theorem dX7_keepPair_1 : decode cX7_keepPair 1 = .ok (.iload_n 1, 1) := by decide +kernel
theorem dX7_keepPair_2 : decode cX7_keepPair 2 = .ok (.bipush 16, 2) := by decide +kernel
theorem dX7_keepPair_4 : decode cX7_keepPair 4 = .ok (.iushr, 1) := by decide +kernel
theorem dX7_keepPair_5 : decode cX7_keepPair 5 = .ok (.iload_n 1, 1) := by decide +kernel
theorem dX7_keepPair_6 : decode cX7_keepPair 6 = .ok (.ldc 46, 2) := by decide +kernel
theorem dX7_keepPair_8 : decode cX7_keepPair 8 = .ok (.iand, 1) := by decide +kernel
theorem dX7_keepPair_9 : decode cX7_keepPair 9 = .ok (.invokevirtual 42, 3) := by decide +kernel
theorem dX7_keepPair_12 : decode cX7_keepPair 12 = .ok (.return_, 1) := by decide +kernel
set_option maxRecDepth 20000 in
theorem ggX7_pass_X0_sees : GoodIn wsX7_pass wsX0_sees := goodIn_r _ [4, 5, 6, 46, 47, 48, 49, 50] rfl (by decide +kernel)
set_option maxRecDepth 20000 in
theorem gX7_pass_X0_sees_n47 : GoodIn wsX7_pass (wsX0_sees) := ggX7_pass_X0_sees
set_option maxRecDepth 20000 in
theorem ggX7_pass_X7_meet : GoodIn wsX7_pass wsX7_meet := goodIn_r _ [11, 12, 51, 52, 53] rfl (by decide +kernel)
set_option maxRecDepth 20000 in
theorem gX7_pass_X7_meet : GoodIn wsX7_pass (wsV RX7 51 RX7 yX7_meet wsX7_meet) := goodIn_app (goodIn_of _ (by decide +kernel)) ggX7_pass_X7_meet
set_option maxRecDepth 20000 in
theorem ggX7_pass_X7_tells : GoodIn wsX7_pass wsX7_tells := goodIn_r _ [16, 17, 18, 19, 20, 21, 22, 23, 24, 25, 26, 27, 28, 29, 30, 10, 31, 12, 32, 33, 34, 51, 52, 53, 54, 55, 56, 57] rfl (by decide +kernel)
set_option maxRecDepth 20000 in
theorem gX7_pass_X7_tells : GoodIn wsX7_pass (wsV RX7 54 RX7 yX7_tells wsX7_tells) := goodIn_app (goodIn_of _ (by decide +kernel)) ggX7_pass_X7_tells
set_option maxRecDepth 20000 in
theorem ggX7_pass_X0_keepsFirst : GoodIn wsX7_pass wsX0_keepsFirst := goodIn_r _ [37, 5, 6, 46, 47, 48, 49, 50] rfl (by decide +kernel)
set_option maxRecDepth 20000 in
theorem gX7_pass_X0_keepsFirst_n57 : GoodIn wsX7_pass (wsX0_keepsFirst) := ggX7_pass_X0_keepsFirst
set_option maxRecDepth 20000 in
theorem ggX7_pass_X0_lowest : GoodIn wsX7_pass wsX0_lowest := goodIn_r _ [40, 41, 46, 47, 48, 49, 50] rfl (by decide +kernel)
set_option maxRecDepth 20000 in
theorem gX7_pass_X0_lowest_n35 : GoodIn wsX7_pass (wsX0_lowest) := ggX7_pass_X0_lowest
set_option maxRecDepth 20000 in
theorem ggX7_pass_X7_keepBoth : GoodIn wsX7_pass wsX7_keepBoth := goodIn_r _ [45, 12, 51, 52, 53] rfl (by decide +kernel)
set_option maxRecDepth 20000 in
theorem gX7_pass_X7_keepBoth : GoodIn wsX7_pass (wsV RX7 42 RX7 yX7_keepBoth wsX7_keepBoth) := goodIn_app (goodIn_of _ (by decide +kernel)) ggX7_pass_X7_keepBoth
theorem dX7_pass_0 : decode cX7_pass 0 = .ok (.aload_n 1, 1) := by decide +kernel
theorem dX7_pass_1 : decode cX7_pass 1 = .ok (.iload_n 3, 1) := by decide +kernel
theorem dX7_pass_2 : decode cX7_pass 2 = .ok (.invokevirtual 47, 3) := by decide +kernel
theorem dX7_pass_5 : decode cX7_pass 5 = .ok (.ifCond .ne 4, 3) := by decide +kernel
theorem dX7_pass_8 : decode cX7_pass 8 = .ok (.return_, 1) := by decide +kernel
theorem dX7_pass_9 : decode cX7_pass 9 = .ok (.aload_n 0, 1) := by decide +kernel
theorem dX7_pass_10 : decode cX7_pass 10 = .ok (.iload_n 2, 1) := by decide +kernel
theorem dX7_pass_11 : decode cX7_pass 11 = .ok (.iload_n 3, 1) := by decide +kernel
theorem dX7_pass_12 : decode cX7_pass 12 = .ok (.invokevirtual 51, 3) := by decide +kernel
theorem dX7_pass_15 : decode cX7_pass 15 = .ok (.aload_n 0, 1) := by decide +kernel
theorem dX7_pass_16 : decode cX7_pass 16 = .ok (.iconst 0, 1) := by decide +kernel
theorem dX7_pass_17 : decode cX7_pass 17 = .ok (.invokevirtual 54, 3) := by decide +kernel
theorem dX7_pass_20 : decode cX7_pass 20 = .ok (.istore 4, 2) := by decide +kernel
theorem dX7_pass_22 : decode cX7_pass 22 = .ok (.aload_n 0, 1) := by decide +kernel
theorem dX7_pass_23 : decode cX7_pass 23 = .ok (.iconst 1, 1) := by decide +kernel
theorem dX7_pass_24 : decode cX7_pass 24 = .ok (.invokevirtual 54, 3) := by decide +kernel
theorem dX7_pass_27 : decode cX7_pass 27 = .ok (.istore 5, 2) := by decide +kernel
theorem dX7_pass_29 : decode cX7_pass 29 = .ok (.aload_n 0, 1) := by decide +kernel
theorem dX7_pass_30 : decode cX7_pass 30 = .ok (.aload_n 1, 1) := by decide +kernel
theorem dX7_pass_31 : decode cX7_pass 31 = .ok (.aload_n 1, 1) := by decide +kernel
theorem dX7_pass_32 : decode cX7_pass 32 = .ok (.iload 4, 2) := by decide +kernel
theorem dX7_pass_34 : decode cX7_pass 34 = .ok (.iload_n 3, 1) := by decide +kernel
theorem dX7_pass_35 : decode cX7_pass 35 = .ok (.invokevirtual 57, 3) := by decide +kernel
theorem dX7_pass_38 : decode cX7_pass 38 = .ok (.invokevirtual 35, 3) := by decide +kernel
theorem dX7_pass_41 : decode cX7_pass 41 = .ok (.aload_n 1, 1) := by decide +kernel
theorem dX7_pass_42 : decode cX7_pass 42 = .ok (.iload 5, 2) := by decide +kernel
theorem dX7_pass_44 : decode cX7_pass 44 = .ok (.invokevirtual 35, 3) := by decide +kernel
theorem dX7_pass_47 : decode cX7_pass 47 = .ok (.invokevirtual 42, 3) := by decide +kernel
theorem dX7_pass_50 : decode cX7_pass 50 = .ok (.return_, 1) := by decide +kernel
set_option maxRecDepth 20000 in
theorem ggX7_goAlong_X7_pass : GoodIn wsX7_goAlong wsX7_pass := goodIn_r _ [5, 6, 7, 8, 9, 10, 11, 12, 13, 14, 4, 15, 16, 17, 18, 19, 20, 21, 22, 23, 24, 25, 26, 27, 28, 29, 30, 31, 32, 33, 34, 35, 36, 37, 38, 39, 40, 41, 42, 43, 44, 45, 46, 47, 48, 49, 52, 53, 54, 55, 56, 57, 58, 59, 60, 61, 62, 63] rfl (by decide +kernel)
set_option maxRecDepth 20000 in
theorem gX7_goAlong_X7_pass : GoodIn wsX7_goAlong (wsV RX7 69 RX7 yX7_pass wsX7_pass) := goodIn_app (goodIn_of _ (by decide +kernel)) ggX7_goAlong_X7_pass
theorem dX7_goAlong_0 : decode cX7_goAlong 0 = .ok (.iconst 0, 1) := by decide +kernel
theorem dX7_goAlong_1 : decode cX7_goAlong 1 = .ok (.istore 4, 2) := by decide +kernel
theorem dX7_goAlong_3 : decode cX7_goAlong 3 = .ok (.iload 4, 2) := by decide +kernel
theorem dX7_goAlong_5 : decode cX7_goAlong 5 = .ok (.iload_n 3, 1) := by decide +kernel
theorem dX7_goAlong_6 : decode cX7_goAlong 6 = .ok (.if_icmp .ge 32, 3) := by decide +kernel
theorem dX7_goAlong_9 : decode cX7_goAlong 9 = .ok (.iload 4, 2) := by decide +kernel
theorem dX7_goAlong_11 : decode cX7_goAlong 11 = .ok (.aload_n 2, 1) := by decide +kernel
theorem dX7_goAlong_12 : decode cX7_goAlong 12 = .ok (.getfield 61, 3) := by decide +kernel
theorem dX7_goAlong_15 : decode cX7_goAlong 15 = .ok (.if_icmp .ge 23, 3) := by decide +kernel
theorem dX7_goAlong_18 : decode cX7_goAlong 18 = .ok (.aload_n 0, 1) := by decide +kernel
theorem dX7_goAlong_19 : decode cX7_goAlong 19 = .ok (.aload_n 1, 1) := by decide +kernel
theorem dX7_goAlong_20 : decode cX7_goAlong 20 = .ok (.aload_n 2, 1) := by decide +kernel
theorem dX7_goAlong_21 : decode cX7_goAlong 21 = .ok (.getfield 66, 3) := by decide +kernel
theorem dX7_goAlong_24 : decode cX7_goAlong 24 = .ok (.iload 4, 2) := by decide +kernel
theorem dX7_goAlong_26 : decode cX7_goAlong 26 = .ok (.iaload, 1) := by decide +kernel
theorem dX7_goAlong_27 : decode cX7_goAlong 27 = .ok (.iload 4, 2) := by decide +kernel
theorem dX7_goAlong_29 : decode cX7_goAlong 29 = .ok (.invokevirtual 69, 3) := by decide +kernel
theorem dX7_goAlong_32 : decode cX7_goAlong 32 = .ok (.iinc 4 1, 3) := by decide +kernel
theorem dX7_goAlong_35 : decode cX7_goAlong 35 = .ok (.goto (-32), 3) := by decide +kernel
theorem dX7_goAlong_38 : decode cX7_goAlong 38 = .ok (.return_, 1) := by decide +kernel
set_option maxRecDepth 20000 in
theorem ggX7_says_X7_setOutAs : GoodIn wsX7_says wsX7_setOutAs := goodIn_r _ [5, 6, 7, 8, 4, 9, 10, 11, 12, 13, 14, 15, 16, 17, 18, 19, 20, 80, 81, 82, 83, 84, 85, 86, 87] rfl (by decide +kernel)
set_option maxRecDepth 20000 in
theorem gX7_says_X7_setOutAs : GoodIn wsX7_says (wsV RX7 73 RX7 yX7_setOutAs wsX7_setOutAs) := goodIn_app (goodIn_of _ (by decide +kernel)) ggX7_says_X7_setOutAs
set_option maxRecDepth 20000 in
theorem ggX7_says_X0_goings : GoodIn wsX7_says wsX0_goings := goodIn_r _ [23, 24, 25, 80, 81, 82, 83, 84] rfl (by decide +kernel)
set_option maxRecDepth 20000 in
theorem gX7_says_X0_goings_n77 : GoodIn wsX7_says (wsX0_goings) := ggX7_says_X0_goings
set_option maxRecDepth 20000 in
theorem ggX7_says_X7_goAlong : GoodIn wsX7_says wsX7_goAlong := goodIn_r _ [29, 30, 31, 32, 4, 33, 34, 13, 35, 36, 24, 25, 37, 38, 39, 40, 11, 41, 42, 43, 44, 10, 45, 46, 47, 48, 49, 50, 51, 52, 53, 54, 55, 56, 57, 58, 59, 60, 61, 62, 63, 64, 12, 14, 15, 16, 17, 18, 19, 20, 78, 79, 80, 81, 82, 83, 84, 85, 86, 87, 88, 89, 90, 91] rfl (by decide +kernel)
set_option maxRecDepth 20000 in
theorem gX7_says_X7_goAlong : GoodIn wsX7_says (wsV RX7 81 RX7 yX7_goAlong wsX7_goAlong) := goodIn_app (goodIn_of _ (by decide +kernel)) ggX7_says_X7_goAlong
set_option maxRecDepth 20000 in
theorem ggX7_says_X7_meet : GoodIn wsX7_says wsX7_meet := goodIn_r _ [40, 11, 85, 86, 87] rfl (by decide +kernel)
set_option maxRecDepth 20000 in
theorem gX7_says_X7_meet : GoodIn wsX7_says (wsV RX7 51 RX7 yX7_meet wsX7_meet) := goodIn_app (goodIn_of _ (by decide +kernel)) ggX7_says_X7_meet
set_option maxRecDepth 20000 in
theorem ggX7_says_X7_tellsBounded : GoodIn wsX7_says wsX7_tellsBounded := goodIn_r _ [68, 69, 70, 71, 72, 73, 74, 75, 76, 77, 41, 42, 43, 4, 44, 10, 45, 46, 47, 48, 49, 50, 51, 52, 53, 54, 55, 56, 57, 58, 11, 59, 60, 61, 85, 86, 87, 88, 89, 90, 91] rfl (by decide +kernel)
set_option maxRecDepth 20000 in
theorem gX7_says_X7_tellsBounded : GoodIn wsX7_says (wsV RX7 85 RX7 yX7_tellsBounded wsX7_tellsBounded) := goodIn_app (goodIn_of _ (by decide +kernel)) ggX7_says_X7_tellsBounded
theorem dX7_says_0 : decode cX7_says 0 = .ok (.aload_n 0, 1) := by decide +kernel
theorem dX7_says_1 : decode cX7_says 1 = .ok (.aload_n 1, 1) := by decide +kernel
theorem dX7_says_2 : decode cX7_says 2 = .ok (.aload_n 3, 1) := by decide +kernel
theorem dX7_says_3 : decode cX7_says 3 = .ok (.iload 4, 2) := by decide +kernel
theorem dX7_says_5 : decode cX7_says 5 = .ok (.invokevirtual 73, 3) := by decide +kernel
theorem dX7_says_8 : decode cX7_says 8 = .ok (.iconst 0, 1) := by decide +kernel
theorem dX7_says_9 : decode cX7_says 9 = .ok (.istore 5, 2) := by decide +kernel
theorem dX7_says_11 : decode cX7_says 11 = .ok (.iload 5, 2) := by decide +kernel
theorem dX7_says_13 : decode cX7_says 13 = .ok (.aload_n 1, 1) := by decide +kernel
theorem dX7_says_14 : decode cX7_says 14 = .ok (.invokevirtual 77, 3) := by decide +kernel
theorem dX7_says_17 : decode cX7_says 17 = .ok (.if_icmp .ge 19, 3) := by decide +kernel
theorem dX7_says_20 : decode cX7_says 20 = .ok (.aload_n 0, 1) := by decide +kernel
theorem dX7_says_21 : decode cX7_says 21 = .ok (.aload_n 1, 1) := by decide +kernel
theorem dX7_says_22 : decode cX7_says 22 = .ok (.aload_n 2, 1) := by decide +kernel
theorem dX7_says_23 : decode cX7_says 23 = .ok (.aload_n 2, 1) := by decide +kernel
theorem dX7_says_24 : decode cX7_says 24 = .ok (.getfield 61, 3) := by decide +kernel
theorem dX7_says_27 : decode cX7_says 27 = .ok (.invokevirtual 81, 3) := by decide +kernel
theorem dX7_says_30 : decode cX7_says 30 = .ok (.iinc 5 1, 3) := by decide +kernel
theorem dX7_says_33 : decode cX7_says 33 = .ok (.goto (-22), 3) := by decide +kernel
theorem dX7_says_36 : decode cX7_says 36 = .ok (.aload_n 0, 1) := by decide +kernel
theorem dX7_says_37 : decode cX7_says 37 = .ok (.iconst 0, 1) := by decide +kernel
theorem dX7_says_38 : decode cX7_says 38 = .ok (.aload_n 2, 1) := by decide +kernel
theorem dX7_says_39 : decode cX7_says 39 = .ok (.getfield 61, 3) := by decide +kernel
theorem dX7_says_42 : decode cX7_says 42 = .ok (.invokevirtual 51, 3) := by decide +kernel
theorem dX7_says_45 : decode cX7_says 45 = .ok (.aload_n 0, 1) := by decide +kernel
theorem dX7_says_46 : decode cX7_says 46 = .ok (.iconst 2, 1) := by decide +kernel
theorem dX7_says_47 : decode cX7_says 47 = .ok (.invokevirtual 85, 3) := by decide +kernel
theorem dX7_says_50 : decode cX7_says 50 = .ok (.ireturn, 1) := by decide +kernel
set_option maxRecDepth 20000 in
theorem ggX7_tellsBounded_X7_tells : GoodIn wsX7_tellsBounded wsX7_tells := goodIn_r _ [14, 15, 16, 17, 18, 19, 20, 21, 22, 23, 24, 25, 26, 27, 28, 13, 29, 30, 31, 32, 33, 34, 35, 36, 37, 38, 39, 40] rfl (by decide +kernel)
set_option maxRecDepth 20000 in
theorem gX7_tellsBounded_X7_tells : GoodIn wsX7_tellsBounded (wsV RX7 54 RX7 yX7_tells wsX7_tells) := goodIn_app (goodIn_of _ (by decide +kernel)) ggX7_tellsBounded_X7_tells
theorem dX7_tellsBounded_0 : decode cX7_tellsBounded 0 = .ok (.ldc 88, 2) := by decide +kernel
theorem dX7_tellsBounded_2 : decode cX7_tellsBounded 2 = .ok (.ldc 89, 2) := by decide +kernel
theorem dX7_tellsBounded_4 : decode cX7_tellsBounded 4 = .ok (.aload_n 0, 1) := by decide +kernel
theorem dX7_tellsBounded_5 : decode cX7_tellsBounded 5 = .ok (.iload_n 1, 1) := by decide +kernel
theorem dX7_tellsBounded_6 : decode cX7_tellsBounded 6 = .ok (.invokevirtual 54, 3) := by decide +kernel
theorem dX7_tellsBounded_9 : decode cX7_tellsBounded 9 = .ok (.invokestatic 90, 3) := by decide +kernel
theorem dX7_tellsBounded_12 : decode cX7_tellsBounded 12 = .ok (.invokestatic 95, 3) := by decide +kernel
theorem dX7_tellsBounded_15 : decode cX7_tellsBounded 15 = .ok (.ireturn, 1) := by decide +kernel
set_option maxRecDepth 20000 in
theorem ggX7_tells_X6_endOf : GoodIn wsX7_tells wsX6_endOf := goodIn_r _ [6, 7, 8, 24, 25, 26, 27] rfl (by decide +kernel)
set_option maxRecDepth 20000 in
theorem gX7_tells_X6_endOf_n98 : GoodIn wsX7_tells (wsX6_endOf) := ggX7_tells_X6_endOf
set_option maxRecDepth 20000 in
theorem ggX7_tells_X6_startOf : GoodIn wsX7_tells wsX6_startOf := goodIn_r _ [11, 7, 8, 24, 25, 26, 27] rfl (by decide +kernel)
set_option maxRecDepth 20000 in
theorem gX7_tells_X6_startOf_n103 : GoodIn wsX7_tells (wsX6_startOf) := ggX7_tells_X6_startOf
set_option maxRecDepth 20000 in
theorem ggX7_tells_X7_valueOf : GoodIn wsX7_tells wsX7_valueOf := goodIn_r _ [16, 17, 21, 22, 23] rfl (by decide +kernel)
set_option maxRecDepth 20000 in
theorem gX7_tells_X7_valueOf : GoodIn wsX7_tells (wsV RX7 109 RX7 yX7_valueOf wsX7_valueOf) := goodIn_app (goodIn_of _ (by decide +kernel)) ggX7_tells_X7_valueOf
set_option maxRecDepth 20000 in
theorem ggX7_tells_X7_joined : GoodIn wsX7_tells wsX7_joined := goodIn_r _ [20] rfl (by decide +kernel)
set_option maxRecDepth 20000 in
theorem gX7_tells_X7_joined : GoodIn wsX7_tells (va_wsS RX7 112 yX7_joined wsX7_joined) := goodIn_app (goodIn_of _ (by decide +kernel)) ggX7_tells_X7_joined
theorem dX7_tells_0 : decode cX7_tells 0 = .ok (.aload_n 0, 1) := by decide +kernel
theorem dX7_tells_1 : decode cX7_tells 1 = .ok (.getfield 18, 3) := by decide +kernel
theorem dX7_tells_4 : decode cX7_tells 4 = .ok (.ifnonnull 5, 3) := by decide +kernel
theorem dX7_tells_7 : decode cX7_tells 7 = .ok (.iconst 0, 1) := by decide +kernel
theorem dX7_tells_8 : decode cX7_tells 8 = .ok (.ireturn, 1) := by decide +kernel
theorem dX7_tells_9 : decode cX7_tells 9 = .ok (.iconst 0, 1) := by decide +kernel
theorem dX7_tells_10 : decode cX7_tells 10 = .ok (.istore_n 2, 1) := by decide +kernel
theorem dX7_tells_11 : decode cX7_tells 11 = .ok (.aload_n 0, 1) := by decide +kernel
theorem dX7_tells_12 : decode cX7_tells 12 = .ok (.getfield 18, 3) := by decide +kernel
theorem dX7_tells_15 : decode cX7_tells 15 = .ok (.iload_n 1, 1) := by decide +kernel
theorem dX7_tells_16 : decode cX7_tells 16 = .ok (.invokevirtual 98, 3) := by decide +kernel
theorem dX7_tells_19 : decode cX7_tells 19 = .ok (.istore_n 3, 1) := by decide +kernel
theorem dX7_tells_20 : decode cX7_tells 20 = .ok (.aload_n 0, 1) := by decide +kernel
theorem dX7_tells_21 : decode cX7_tells 21 = .ok (.getfield 18, 3) := by decide +kernel
theorem dX7_tells_24 : decode cX7_tells 24 = .ok (.iload_n 1, 1) := by decide +kernel
theorem dX7_tells_25 : decode cX7_tells 25 = .ok (.invokevirtual 103, 3) := by decide +kernel
theorem dX7_tells_28 : decode cX7_tells 28 = .ok (.istore 4, 2) := by decide +kernel
theorem dX7_tells_30 : decode cX7_tells 30 = .ok (.iload 4, 2) := by decide +kernel
theorem dX7_tells_32 : decode cX7_tells 32 = .ok (.iload_n 3, 1) := by decide +kernel
theorem dX7_tells_33 : decode cX7_tells 33 = .ok (.if_icmp .ge 175, 3) := by decide +kernel
theorem dX7_tells_36 : decode cX7_tells 36 = .ok (.aload_n 0, 1) := by decide +kernel
theorem dX7_tells_37 : decode cX7_tells 37 = .ok (.getfield 18, 3) := by decide +kernel
theorem dX7_tells_40 : decode cX7_tells 40 = .ok (.getfield 106, 3) := by decide +kernel
theorem dX7_tells_43 : decode cX7_tells 43 = .ok (.iload 4, 2) := by decide +kernel
theorem dX7_tells_45 : decode cX7_tells 45 = .ok (.iaload, 1) := by decide +kernel
theorem dX7_tells_46 : decode cX7_tells 46 = .ok (.istore 5, 2) := by decide +kernel
theorem dX7_tells_48 : decode cX7_tells 48 = .ok (.iload 5, 2) := by decide +kernel
theorem dX7_tells_50 : decode cX7_tells 50 = .ok (.bipush 100, 2) := by decide +kernel
theorem dX7_tells_52 : decode cX7_tells 52 = .ok (.if_icmp .ge 10, 3) := by decide +kernel
theorem dX7_tells_55 : decode cX7_tells 55 = .ok (.iload 5, 2) := by decide +kernel
theorem dX7_tells_57 : decode cX7_tells 57 = .ok (.bipush 6, 2) := by decide +kernel
theorem dX7_tells_59 : decode cX7_tells 59 = .ok (.if_icmp .ge 43, 3) := by decide +kernel
theorem dX7_tells_62 : decode cX7_tells 62 = .ok (.iload_n 2, 1) := by decide +kernel
theorem dX7_tells_63 : decode cX7_tells 63 = .ok (.sipush 160, 3) := by decide +kernel
theorem dX7_tells_66 : decode cX7_tells 66 = .ok (.if_icmp .ge 136, 3) := by decide +kernel
theorem dX7_tells_69 : decode cX7_tells 69 = .ok (.aload_n 0, 1) := by decide +kernel
theorem dX7_tells_70 : decode cX7_tells 70 = .ok (.getfield 15, 3) := by decide +kernel
theorem dX7_tells_73 : decode cX7_tells 73 = .ok (.iload_n 2, 1) := by decide +kernel
theorem dX7_tells_74 : decode cX7_tells 74 = .ok (.iload 5, 2) := by decide +kernel
theorem dX7_tells_76 : decode cX7_tells 76 = .ok (.bipush 100, 2) := by decide +kernel
theorem dX7_tells_78 : decode cX7_tells 78 = .ok (.if_icmp .lt 11, 3) := by decide +kernel
theorem dX7_tells_81 : decode cX7_tells 81 = .ok (.iload 5, 2) := by decide +kernel
theorem dX7_tells_83 : decode cX7_tells 83 = .ok (.bipush 100, 2) := by decide +kernel
theorem dX7_tells_85 : decode cX7_tells 85 = .ok (.isub, 1) := by decide +kernel
theorem dX7_tells_86 : decode cX7_tells 86 = .ok (.goto 9, 3) := by decide +kernel
theorem dX7_tells_89 : decode cX7_tells 89 = .ok (.aload_n 0, 1) := by decide +kernel
theorem dX7_tells_90 : decode cX7_tells 90 = .ok (.iload 5, 2) := by decide +kernel
theorem dX7_tells_92 : decode cX7_tells 92 = .ok (.invokevirtual 109, 3) := by decide +kernel
theorem dX7_tells_95 : decode cX7_tells 95 = .ok (.iastore, 1) := by decide +kernel
theorem dX7_tells_96 : decode cX7_tells 96 = .ok (.iinc 2 1, 3) := by decide +kernel
theorem dX7_tells_99 : decode cX7_tells 99 = .ok (.goto 103, 3) := by decide +kernel
theorem dX7_tells_102 : decode cX7_tells 102 = .ok (.iload 5, 2) := by decide +kernel
theorem dX7_tells_104 : decode cX7_tells 104 = .ok (.bipush 8, 2) := by decide +kernel
theorem dX7_tells_106 : decode cX7_tells 106 = .ok (.if_icmp .eq 10, 3) := by decide +kernel
theorem dX7_tells_109 : decode cX7_tells 109 = .ok (.iload 5, 2) := by decide +kernel
theorem dX7_tells_111 : decode cX7_tells 111 = .ok (.bipush 14, 2) := by decide +kernel
theorem dX7_tells_113 : decode cX7_tells 113 = .ok (.if_icmp .ne 54, 3) := by decide +kernel
theorem dX7_tells_116 : decode cX7_tells 116 = .ok (.iload_n 2, 1) := by decide +kernel
theorem dX7_tells_117 : decode cX7_tells 117 = .ok (.iconst 1, 1) := by decide +kernel
theorem dX7_tells_118 : decode cX7_tells 118 = .ok (.if_icmp .lt 84, 3) := by decide +kernel
theorem dX7_tells_121 : decode cX7_tells 121 = .ok (.aload_n 0, 1) := by decide +kernel
theorem dX7_tells_122 : decode cX7_tells 122 = .ok (.getfield 15, 3) := by decide +kernel
theorem dX7_tells_125 : decode cX7_tells 125 = .ok (.iload_n 2, 1) := by decide +kernel
theorem dX7_tells_126 : decode cX7_tells 126 = .ok (.iconst 1, 1) := by decide +kernel
theorem dX7_tells_127 : decode cX7_tells 127 = .ok (.isub, 1) := by decide +kernel
theorem dX7_tells_128 : decode cX7_tells 128 = .ok (.iload 5, 2) := by decide +kernel
theorem dX7_tells_130 : decode cX7_tells 130 = .ok (.bipush 14, 2) := by decide +kernel
theorem dX7_tells_132 : decode cX7_tells 132 = .ok (.if_icmp .ne 15, 3) := by decide +kernel
theorem dX7_tells_135 : decode cX7_tells 135 = .ok (.aload_n 0, 1) := by decide +kernel
theorem dX7_tells_136 : decode cX7_tells 136 = .ok (.getfield 15, 3) := by decide +kernel
theorem dX7_tells_139 : decode cX7_tells 139 = .ok (.iload_n 2, 1) := by decide +kernel
theorem dX7_tells_140 : decode cX7_tells 140 = .ok (.iconst 1, 1) := by decide +kernel
theorem dX7_tells_141 : decode cX7_tells 141 = .ok (.isub, 1) := by decide +kernel
theorem dX7_tells_142 : decode cX7_tells 142 = .ok (.iaload, 1) := by decide +kernel
theorem dX7_tells_143 : decode cX7_tells 143 = .ok (.ineg, 1) := by decide +kernel
theorem dX7_tells_144 : decode cX7_tells 144 = .ok (.goto 19, 3) := by decide +kernel
theorem dX7_tells_147 : decode cX7_tells 147 = .ok (.aload_n 0, 1) := by decide +kernel
theorem dX7_tells_148 : decode cX7_tells 148 = .ok (.getfield 15, 3) := by decide +kernel
theorem dX7_tells_151 : decode cX7_tells 151 = .ok (.iload_n 2, 1) := by decide +kernel
theorem dX7_tells_152 : decode cX7_tells 152 = .ok (.iconst 1, 1) := by decide +kernel
theorem dX7_tells_153 : decode cX7_tells 153 = .ok (.isub, 1) := by decide +kernel
theorem dX7_tells_154 : decode cX7_tells 154 = .ok (.iaload, 1) := by decide +kernel
theorem dX7_tells_155 : decode cX7_tells 155 = .ok (.ifCond .ne 7, 3) := by decide +kernel
theorem dX7_tells_158 : decode cX7_tells 158 = .ok (.iconst 1, 1) := by decide +kernel
theorem dX7_tells_159 : decode cX7_tells 159 = .ok (.goto 4, 3) := by decide +kernel
theorem dX7_tells_162 : decode cX7_tells 162 = .ok (.iconst 0, 1) := by decide +kernel
theorem dX7_tells_163 : decode cX7_tells 163 = .ok (.iastore, 1) := by decide +kernel
theorem dX7_tells_164 : decode cX7_tells 164 = .ok (.goto 38, 3) := by decide +kernel
theorem dX7_tells_167 : decode cX7_tells 167 = .ok (.iload_n 2, 1) := by decide +kernel
theorem dX7_tells_168 : decode cX7_tells 168 = .ok (.iconst 2, 1) := by decide +kernel
theorem dX7_tells_169 : decode cX7_tells 169 = .ok (.if_icmp .lt 33, 3) := by decide +kernel
theorem dX7_tells_172 : decode cX7_tells 172 = .ok (.iinc 2 (-1), 3) := by decide +kernel
theorem dX7_tells_175 : decode cX7_tells 175 = .ok (.aload_n 0, 1) := by decide +kernel
theorem dX7_tells_176 : decode cX7_tells 176 = .ok (.getfield 15, 3) := by decide +kernel
theorem dX7_tells_179 : decode cX7_tells 179 = .ok (.iload_n 2, 1) := by decide +kernel
theorem dX7_tells_180 : decode cX7_tells 180 = .ok (.iconst 1, 1) := by decide +kernel
theorem dX7_tells_181 : decode cX7_tells 181 = .ok (.isub, 1) := by decide +kernel
theorem dX7_tells_182 : decode cX7_tells 182 = .ok (.iload 5, 2) := by decide +kernel
theorem dX7_tells_184 : decode cX7_tells 184 = .ok (.aload_n 0, 1) := by decide +kernel
theorem dX7_tells_185 : decode cX7_tells 185 = .ok (.getfield 15, 3) := by decide +kernel
theorem dX7_tells_188 : decode cX7_tells 188 = .ok (.iload_n 2, 1) := by decide +kernel
theorem dX7_tells_189 : decode cX7_tells 189 = .ok (.iconst 1, 1) := by decide +kernel
theorem dX7_tells_190 : decode cX7_tells 190 = .ok (.isub, 1) := by decide +kernel
theorem dX7_tells_191 : decode cX7_tells 191 = .ok (.iaload, 1) := by decide +kernel
theorem dX7_tells_192 : decode cX7_tells 192 = .ok (.aload_n 0, 1) := by decide +kernel
theorem dX7_tells_193 : decode cX7_tells 193 = .ok (.getfield 15, 3) := by decide +kernel
theorem dX7_tells_196 : decode cX7_tells 196 = .ok (.iload_n 2, 1) := by decide +kernel
theorem dX7_tells_197 : decode cX7_tells 197 = .ok (.iaload, 1) := by decide +kernel
theorem dX7_tells_198 : decode cX7_tells 198 = .ok (.invokestatic 112, 3) := by decide +kernel
theorem dX7_tells_201 : decode cX7_tells 201 = .ok (.iastore, 1) := by decide +kernel
theorem dX7_tells_202 : decode cX7_tells 202 = .ok (.iinc 4 1, 3) := by decide +kernel
theorem dX7_tells_205 : decode cX7_tells 205 = .ok (.goto (-175), 3) := by decide +kernel
theorem dX7_tells_208 : decode cX7_tells 208 = .ok (.aload_n 0, 1) := by decide +kernel
theorem dX7_tells_209 : decode cX7_tells 209 = .ok (.getfield 15, 3) := by decide +kernel
theorem dX7_tells_212 : decode cX7_tells 212 = .ok (.iconst 0, 1) := by decide +kernel
theorem dX7_tells_213 : decode cX7_tells 213 = .ok (.iaload, 1) := by decide +kernel
theorem dX7_tells_214 : decode cX7_tells 214 = .ok (.ireturn, 1) := by decide +kernel
theorem dX7_valueOf_0 : decode cX7_valueOf 0 = .ok (.iload_n 1, 1) := by decide +kernel
theorem dX7_valueOf_1 : decode cX7_valueOf 1 = .ok (.ifCond .lt 18, 3) := by decide +kernel
theorem dX7_valueOf_4 : decode cX7_valueOf 4 = .ok (.iload_n 1, 1) := by decide +kernel
theorem dX7_valueOf_5 : decode cX7_valueOf 5 = .ok (.bipush 6, 2) := by decide +kernel
theorem dX7_valueOf_7 : decode cX7_valueOf 7 = .ok (.if_icmp .ge 12, 3) := by decide +kernel
theorem dX7_valueOf_10 : decode cX7_valueOf 10 = .ok (.aload_n 0, 1) := by decide +kernel
theorem dX7_valueOf_11 : decode cX7_valueOf 11 = .ok (.getfield 9, 3) := by decide +kernel
theorem dX7_valueOf_14 : decode cX7_valueOf 14 = .ok (.iload_n 1, 1) := by decide +kernel
theorem dX7_valueOf_15 : decode cX7_valueOf 15 = .ok (.iaload, 1) := by decide +kernel
theorem dX7_valueOf_16 : decode cX7_valueOf 16 = .ok (.goto 4, 3) := by decide +kernel
theorem dX7_valueOf_19 : decode cX7_valueOf 19 = .ok (.iconst 0, 1) := by decide +kernel
theorem dX7_valueOf_20 : decode cX7_valueOf 20 = .ok (.ireturn, 1) := by decide +kernel
theorem dX7_joined_0 : decode cX7_joined 0 = .ok (.iload_n 0, 1) := by decide +kernel
theorem dX7_joined_1 : decode cX7_joined 1 = .ok (.tableswitch 101 6 12 #[43, 57, 101, 71, 82, 93, 97], 43) := by decide +kernel
theorem dX7_joined_44 : decode cX7_joined 44 = .ok (.iload_n 1, 1) := by decide +kernel
theorem dX7_joined_45 : decode cX7_joined 45 = .ok (.ifCond .ne 7, 3) := by decide +kernel
theorem dX7_joined_48 : decode cX7_joined 48 = .ok (.iload_n 2, 1) := by decide +kernel
theorem dX7_joined_49 : decode cX7_joined 49 = .ok (.ifCond .eq 7, 3) := by decide +kernel
theorem dX7_joined_52 : decode cX7_joined 52 = .ok (.iconst 1, 1) := by decide +kernel
theorem dX7_joined_53 : decode cX7_joined 53 = .ok (.goto 4, 3) := by decide +kernel
theorem dX7_joined_56 : decode cX7_joined 56 = .ok (.iconst 0, 1) := by decide +kernel
theorem dX7_joined_57 : decode cX7_joined 57 = .ok (.ireturn, 1) := by decide +kernel
theorem dX7_joined_58 : decode cX7_joined 58 = .ok (.iload_n 1, 1) := by decide +kernel
theorem dX7_joined_59 : decode cX7_joined 59 = .ok (.ifCond .eq 11, 3) := by decide +kernel
theorem dX7_joined_62 : decode cX7_joined 62 = .ok (.iload_n 2, 1) := by decide +kernel
theorem dX7_joined_63 : decode cX7_joined 63 = .ok (.ifCond .eq 7, 3) := by decide +kernel
theorem dX7_joined_66 : decode cX7_joined 66 = .ok (.iconst 1, 1) := by decide +kernel
theorem dX7_joined_67 : decode cX7_joined 67 = .ok (.goto 4, 3) := by decide +kernel
theorem dX7_joined_70 : decode cX7_joined 70 = .ok (.iconst 0, 1) := by decide +kernel
theorem dX7_joined_71 : decode cX7_joined 71 = .ok (.ireturn, 1) := by decide +kernel
theorem dX7_joined_72 : decode cX7_joined 72 = .ok (.iload_n 1, 1) := by decide +kernel
theorem dX7_joined_73 : decode cX7_joined 73 = .ok (.iload_n 2, 1) := by decide +kernel
theorem dX7_joined_74 : decode cX7_joined 74 = .ok (.if_icmp .ge 7, 3) := by decide +kernel
theorem dX7_joined_77 : decode cX7_joined 77 = .ok (.iconst 1, 1) := by decide +kernel
theorem dX7_joined_78 : decode cX7_joined 78 = .ok (.goto 4, 3) := by decide +kernel
theorem dX7_joined_81 : decode cX7_joined 81 = .ok (.iconst 0, 1) := by decide +kernel
theorem dX7_joined_82 : decode cX7_joined 82 = .ok (.ireturn, 1) := by decide +kernel
theorem dX7_joined_83 : decode cX7_joined 83 = .ok (.iload_n 1, 1) := by decide +kernel
theorem dX7_joined_84 : decode cX7_joined 84 = .ok (.iload_n 2, 1) := by decide +kernel
theorem dX7_joined_85 : decode cX7_joined 85 = .ok (.if_icmp .ne 7, 3) := by decide +kernel
theorem dX7_joined_88 : decode cX7_joined 88 = .ok (.iconst 1, 1) := by decide +kernel
theorem dX7_joined_89 : decode cX7_joined 89 = .ok (.goto 4, 3) := by decide +kernel
theorem dX7_joined_92 : decode cX7_joined 92 = .ok (.iconst 0, 1) := by decide +kernel
theorem dX7_joined_93 : decode cX7_joined 93 = .ok (.ireturn, 1) := by decide +kernel
theorem dX7_joined_94 : decode cX7_joined 94 = .ok (.iload_n 1, 1) := by decide +kernel
theorem dX7_joined_95 : decode cX7_joined 95 = .ok (.iload_n 2, 1) := by decide +kernel
theorem dX7_joined_96 : decode cX7_joined 96 = .ok (.iadd, 1) := by decide +kernel
theorem dX7_joined_97 : decode cX7_joined 97 = .ok (.ireturn, 1) := by decide +kernel
theorem dX7_joined_98 : decode cX7_joined 98 = .ok (.iload_n 1, 1) := by decide +kernel
theorem dX7_joined_99 : decode cX7_joined 99 = .ok (.iload_n 2, 1) := by decide +kernel
theorem dX7_joined_100 : decode cX7_joined 100 = .ok (.isub, 1) := by decide +kernel
theorem dX7_joined_101 : decode cX7_joined 101 = .ok (.ireturn, 1) := by decide +kernel
theorem dX7_joined_102 : decode cX7_joined 102 = .ok (.iload_n 1, 1) := by decide +kernel
theorem dX7_joined_103 : decode cX7_joined 103 = .ok (.iload_n 2, 1) := by decide +kernel
theorem dX7_joined_104 : decode cX7_joined 104 = .ok (.imul, 1) := by decide +kernel
theorem dX7_joined_105 : decode cX7_joined 105 = .ok (.ireturn, 1) := by decide +kernel
set_option maxRecDepth 20000 in
theorem ggX8_init_X4_init : GoodIn wsX8_init wsX4_init := goodIn_r _ [45, 46, 2, 3, 28, 47, 48, 248, 249] rfl (by decide +kernel)
set_option maxRecDepth 20000 in
theorem gX8_init_X4_init_n9 : GoodIn wsX8_init (wsX4_init) := ggX8_init_X4_init
set_option maxRecDepth 20000 in
theorem ggX8_init_X0_init : GoodIn wsX8_init wsX0_init := goodIn_r _ [50, 51, 2, 3, 52, 53, 54, 55, 56, 265, 266, 267, 268, 269] rfl (by decide +kernel)
set_option maxRecDepth 20000 in
theorem gX8_init_X0_init_n25 : GoodIn wsX8_init (wsX0_init) := ggX8_init_X0_init
set_option maxRecDepth 20000 in
theorem ggX8_init_X3_init : GoodIn wsX8_init wsX3_init := goodIn_r _ [58, 59, 2, 3, 28, 60, 61, 62, 63, 64, 65, 66, 270, 271, 272, 273, 274, 275, 276] rfl (by decide +kernel)
set_option maxRecDepth 20000 in
theorem gX8_init_X3_init_n32 : GoodIn wsX8_init (wsX3_init) := ggX8_init_X3_init
set_option maxRecDepth 20000 in
theorem ggX8_init_X7_init : GoodIn wsX8_init wsX7_init := goodIn_r _ [68, 69, 2, 3, 28, 70, 71, 72, 277, 278, 279] rfl (by decide +kernel)
set_option maxRecDepth 20000 in
theorem gX8_init_X7_init_n45 : GoodIn wsX8_init (wsX7_init) := ggX8_init_X7_init
set_option maxRecDepth 20000 in
theorem ggX8_init_X2_init : GoodIn wsX8_init wsX2_init := goodIn_r _ [74, 75, 2, 3, 76, 280] rfl (by decide +kernel)
set_option maxRecDepth 20000 in
theorem gX8_init_X2_init_n52 : GoodIn wsX8_init (wsX2_init) := ggX8_init_X2_init
set_option maxRecDepth 20000 in
theorem ggX8_init_X1_init : GoodIn wsX8_init wsX1_init := goodIn_r _ [78, 79, 2, 3, 80, 5, 6, 81, 82, 83, 84, 85, 86, 87, 11, 12, 44, 45, 46, 28, 47, 48, 49, 50, 51, 52, 53, 54, 55, 56, 248, 249, 281, 282, 283, 284, 285, 286, 265, 266, 267, 268, 269] rfl (by decide +kernel)
set_option maxRecDepth 20000 in
theorem gX8_init_X1_init_n69 : GoodIn wsX8_init (wsX1_init) := ggX8_init_X1_init
set_option maxRecDepth 20000 in
theorem ggX8_init_X6_init : GoodIn wsX8_init wsX6_init := goodIn_r _ [89, 90, 2, 3, 28, 91, 92, 93, 94, 287, 288, 289, 290] rfl (by decide +kernel)
set_option maxRecDepth 20000 in
theorem gX8_init_X6_init_n87 : GoodIn wsX8_init (wsX6_init) := ggX8_init_X6_init
set_option maxRecDepth 20000 in
theorem ggX8_init_X5_init : GoodIn wsX8_init wsX5_init := goodIn_r _ [96, 97, 2, 3, 28, 98, 99, 100, 291, 292, 293] rfl (by decide +kernel)
set_option maxRecDepth 20000 in
theorem gX8_init_X5_init_n88 : GoodIn wsX8_init (wsX5_init) := ggX8_init_X5_init
set_option maxRecDepth 20000 in
theorem ggX8_init_J0_length_8abf5 : GoodIn wsX8_init wsJ0_length_8abf5 := goodIn_r _ [105, 106, 107, 108, 109, 104, 110, 111, 112] rfl (by decide +kernel)
set_option maxRecDepth 20000 in
theorem gX8_init_J0_length_8abf5 : GoodIn wsX8_init (wsV RX8 91 RJ0 yJ0_length_8abf5 wsJ0_length_8abf5) := goodIn_app (goodIn_of _ (by decide +kernel)) ggX8_init_J0_length_8abf5
set_option maxRecDepth 20000 in
theorem ggX8_init_J0_charAt_5068e : GoodIn wsX8_init wsJ0_charAt_5068e := goodIn_r _ [116, 106, 117, 118, 119, 104, 120, 111, 112, 121, 122, 123, 124, 125, 126, 127, 128, 129, 130, 131, 132, 133, 134, 135, 136, 137, 138, 139, 140, 141, 142, 143, 144, 145, 146, 147, 148, 149] rfl (by decide +kernel)
set_option maxRecDepth 20000 in
theorem gX8_init_J0_charAt_5068e : GoodIn wsX8_init (wsV RX8 97 RJ0 yJ0_charAt_5068e wsJ0_charAt_5068e) := goodIn_app (goodIn_of _ (by decide +kernel)) ggX8_init_J0_charAt_5068e
set_option maxRecDepth 20000 in
theorem ggX8_init_X3_take : GoodIn wsX8_init wsX3_take := goodIn_r _ [152, 61, 60, 270, 271, 272, 273, 274, 275, 276] rfl (by decide +kernel)
set_option maxRecDepth 20000 in
theorem gX8_init_X3_take_n101 : GoodIn wsX8_init (wsX3_take) := ggX8_init_X3_take
set_option maxRecDepth 20000 in
theorem ggX8_init_X8_text : GoodIn wsX8_init wsX8_text := goodIn_r _ [157, 38, 17, 19, 158, 16, 159, 160, 66, 62, 65, 61, 161, 41, 162, 163, 93, 94, 164, 165, 166, 167, 60, 64, 63, 168, 169, 170, 171, 172, 173, 174, 175, 176, 177, 178, 179, 180, 181, 182, 183, 184, 185, 186, 102, 103, 104, 105, 106, 107, 108, 109, 110, 111, 112, 187, 114, 115, 116, 117, 118, 119, 120, 121, 122, 123, 124, 125, 126, 127, 128, 129, 130, 131, 132, 133, 134, 135, 136, 137, 138, 139, 140, 141, 142, 143, 144, 145, 146, 147, 148, 149, 188, 189, 190, 191, 192, 193, 194, 195, 196, 197, 198, 199, 200, 201, 202, 203, 204, 205, 206, 207, 208, 209, 210, 211, 212, 213, 214, 215, 216, 217, 218, 219, 220, 221, 222, 223, 91, 224, 225, 226, 227, 228, 229, 230, 231, 232, 233, 234, 235, 236, 237, 238, 239, 240, 241, 242, 243, 92, 244, 245, 246, 247, 250, 251, 252, 253, 254, 255, 256, 257, 258, 259, 260, 261, 262, 263, 264, 270, 271, 272, 273, 274, 275, 276, 287, 288, 289, 290] rfl (by decide +kernel)
set_option maxRecDepth 20000 in
theorem gX8_init_X8_text : GoodIn wsX8_init (wsV RX8 105 RX8 yX8_text wsX8_text) := goodIn_app (goodIn_of _ (by decide +kernel)) ggX8_init_X8_text
theorem dX8_init_0 : decode cX8_init 0 = .ok (.aload_n 0, 1) := by decide +kernel
theorem dX8_init_1 : decode cX8_init 1 = .ok (.invokespecial 1, 3) := by decide +kernel
theorem dX8_init_4 : decode cX8_init 4 = .ok (.aload_n 0, 1) := by decide +kernel
theorem dX8_init_5 : decode cX8_init 5 = .ok (.new 7, 3) := by decide +kernel
theorem dX8_init_8 : decode cX8_init 8 = .ok (.dup, 1) := by decide +kernel
theorem dX8_init_9 : decode cX8_init 9 = .ok (.invokespecial 9, 3) := by decide +kernel
theorem dX8_init_12 : decode cX8_init 12 = .ok (.putfield 10, 3) := by decide +kernel
theorem dX8_init_15 : decode cX8_init 15 = .ok (.aload_n 0, 1) := by decide +kernel
theorem dX8_init_16 : decode cX8_init 16 = .ok (.new 7, 3) := by decide +kernel
theorem dX8_init_19 : decode cX8_init 19 = .ok (.dup, 1) := by decide +kernel
theorem dX8_init_20 : decode cX8_init 20 = .ok (.invokespecial 9, 3) := by decide +kernel
theorem dX8_init_23 : decode cX8_init 23 = .ok (.putfield 16, 3) := by decide +kernel
theorem dX8_init_26 : decode cX8_init 26 = .ok (.aload_n 0, 1) := by decide +kernel
theorem dX8_init_27 : decode cX8_init 27 = .ok (.iconst 5, 1) := by decide +kernel
theorem dX8_init_28 : decode cX8_init 28 = .ok (.anewarray 19, 3) := by decide +kernel
theorem dX8_init_31 : decode cX8_init 31 = .ok (.putfield 21, 3) := by decide +kernel
theorem dX8_init_34 : decode cX8_init 34 = .ok (.aload_n 0, 1) := by decide +kernel
theorem dX8_init_35 : decode cX8_init 35 = .ok (.new 19, 3) := by decide +kernel
theorem dX8_init_38 : decode cX8_init 38 = .ok (.dup, 1) := by decide +kernel
theorem dX8_init_39 : decode cX8_init 39 = .ok (.invokespecial 25, 3) := by decide +kernel
theorem dX8_init_42 : decode cX8_init 42 = .ok (.putfield 26, 3) := by decide +kernel
theorem dX8_init_45 : decode cX8_init 45 = .ok (.aload_n 0, 1) := by decide +kernel
theorem dX8_init_46 : decode cX8_init 46 = .ok (.new 30, 3) := by decide +kernel
theorem dX8_init_49 : decode cX8_init 49 = .ok (.dup, 1) := by decide +kernel
theorem dX8_init_50 : decode cX8_init 50 = .ok (.invokespecial 32, 3) := by decide +kernel
theorem dX8_init_53 : decode cX8_init 53 = .ok (.putfield 33, 3) := by decide +kernel
theorem dX8_init_56 : decode cX8_init 56 = .ok (.aload_n 0, 1) := by decide +kernel
theorem dX8_init_57 : decode cX8_init 57 = .ok (.bipush 6, 2) := by decide +kernel
theorem dX8_init_59 : decode cX8_init 59 = .ok (.anewarray 37, 3) := by decide +kernel
theorem dX8_init_62 : decode cX8_init 62 = .ok (.putfield 39, 3) := by decide +kernel
theorem dX8_init_65 : decode cX8_init 65 = .ok (.aload_n 0, 1) := by decide +kernel
theorem dX8_init_66 : decode cX8_init 66 = .ok (.new 43, 3) := by decide +kernel
theorem dX8_init_69 : decode cX8_init 69 = .ok (.dup, 1) := by decide +kernel
theorem dX8_init_70 : decode cX8_init 70 = .ok (.invokespecial 45, 3) := by decide +kernel
theorem dX8_init_73 : decode cX8_init 73 = .ok (.putfield 46, 3) := by decide +kernel
theorem dX8_init_76 : decode cX8_init 76 = .ok (.aload_n 0, 1) := by decide +kernel
theorem dX8_init_77 : decode cX8_init 77 = .ok (.new 50, 3) := by decide +kernel
theorem dX8_init_80 : decode cX8_init 80 = .ok (.dup, 1) := by decide +kernel
theorem dX8_init_81 : decode cX8_init 81 = .ok (.invokespecial 52, 3) := by decide +kernel
theorem dX8_init_84 : decode cX8_init 84 = .ok (.putfield 53, 3) := by decide +kernel
theorem dX8_init_87 : decode cX8_init 87 = .ok (.aload_n 0, 1) := by decide +kernel
theorem dX8_init_88 : decode cX8_init 88 = .ok (.sipush 259, 3) := by decide +kernel
theorem dX8_init_91 : decode cX8_init 91 = .ok (.newarray .int, 2) := by decide +kernel
theorem dX8_init_93 : decode cX8_init 93 = .ok (.putfield 57, 3) := by decide +kernel
theorem dX8_init_96 : decode cX8_init 96 = .ok (.aload_n 0, 1) := by decide +kernel
theorem dX8_init_97 : decode cX8_init 97 = .ok (.iconst 4, 1) := by decide +kernel
theorem dX8_init_98 : decode cX8_init 98 = .ok (.anewarray 61, 3) := by decide +kernel
theorem dX8_init_101 : decode cX8_init 101 = .ok (.putfield 63, 3) := by decide +kernel
theorem dX8_init_104 : decode cX8_init 104 = .ok (.aload_n 0, 1) := by decide +kernel
theorem dX8_init_105 : decode cX8_init 105 = .ok (.new 67, 3) := by decide +kernel
theorem dX8_init_108 : decode cX8_init 108 = .ok (.dup, 1) := by decide +kernel
theorem dX8_init_109 : decode cX8_init 109 = .ok (.invokespecial 69, 3) := by decide +kernel
theorem dX8_init_112 : decode cX8_init 112 = .ok (.putfield 70, 3) := by decide +kernel
theorem dX8_init_115 : decode cX8_init 115 = .ok (.aload_n 0, 1) := by decide +kernel
theorem dX8_init_116 : decode cX8_init 116 = .ok (.bipush 10, 2) := by decide +kernel
theorem dX8_init_118 : decode cX8_init 118 = .ok (.putfield 74, 3) := by decide +kernel
theorem dX8_init_121 : decode cX8_init 121 = .ok (.aload_n 0, 1) := by decide +kernel
theorem dX8_init_122 : decode cX8_init 122 = .ok (.iconst 0, 1) := by decide +kernel
theorem dX8_init_123 : decode cX8_init 123 = .ok (.putfield 78, 3) := by decide +kernel
theorem dX8_init_126 : decode cX8_init 126 = .ok (.aload_n 0, 1) := by decide +kernel
theorem dX8_init_127 : decode cX8_init 127 = .ok (.iconst 0, 1) := by decide +kernel
theorem dX8_init_128 : decode cX8_init 128 = .ok (.putfield 81, 3) := by decide +kernel
theorem dX8_init_131 : decode cX8_init 131 = .ok (.aload_n 0, 1) := by decide +kernel
theorem dX8_init_132 : decode cX8_init 132 = .ok (.iconst 0, 1) := by decide +kernel
theorem dX8_init_133 : decode cX8_init 133 = .ok (.putfield 84, 3) := by decide +kernel
theorem dX8_init_136 : decode cX8_init 136 = .ok (.iconst 0, 1) := by decide +kernel
theorem dX8_init_137 : decode cX8_init 137 = .ok (.istore_n 1, 1) := by decide +kernel
theorem dX8_init_138 : decode cX8_init 138 = .ok (.iload_n 1, 1) := by decide +kernel
theorem dX8_init_139 : decode cX8_init 139 = .ok (.iconst 5, 1) := by decide +kernel
theorem dX8_init_140 : decode cX8_init 140 = .ok (.if_icmp .ge 22, 3) := by decide +kernel
theorem dX8_init_143 : decode cX8_init 143 = .ok (.aload_n 0, 1) := by decide +kernel
theorem dX8_init_144 : decode cX8_init 144 = .ok (.getfield 21, 3) := by decide +kernel
theorem dX8_init_147 : decode cX8_init 147 = .ok (.iload_n 1, 1) := by decide +kernel
theorem dX8_init_148 : decode cX8_init 148 = .ok (.new 19, 3) := by decide +kernel
theorem dX8_init_151 : decode cX8_init 151 = .ok (.dup, 1) := by decide +kernel
theorem dX8_init_152 : decode cX8_init 152 = .ok (.invokespecial 25, 3) := by decide +kernel
theorem dX8_init_155 : decode cX8_init 155 = .ok (.aastore, 1) := by decide +kernel
theorem dX8_init_156 : decode cX8_init 156 = .ok (.iinc 1 1, 3) := by decide +kernel
theorem dX8_init_159 : decode cX8_init 159 = .ok (.goto (-21), 3) := by decide +kernel
theorem dX8_init_162 : decode cX8_init 162 = .ok (.iconst 0, 1) := by decide +kernel
theorem dX8_init_163 : decode cX8_init 163 = .ok (.istore_n 1, 1) := by decide +kernel
theorem dX8_init_164 : decode cX8_init 164 = .ok (.iload_n 1, 1) := by decide +kernel
theorem dX8_init_165 : decode cX8_init 165 = .ok (.bipush 6, 2) := by decide +kernel
theorem dX8_init_167 : decode cX8_init 167 = .ok (.if_icmp .ge 22, 3) := by decide +kernel
theorem dX8_init_170 : decode cX8_init 170 = .ok (.aload_n 0, 1) := by decide +kernel
theorem dX8_init_171 : decode cX8_init 171 = .ok (.getfield 39, 3) := by decide +kernel
theorem dX8_init_174 : decode cX8_init 174 = .ok (.iload_n 1, 1) := by decide +kernel
theorem dX8_init_175 : decode cX8_init 175 = .ok (.new 37, 3) := by decide +kernel
theorem dX8_init_178 : decode cX8_init 178 = .ok (.dup, 1) := by decide +kernel
theorem dX8_init_179 : decode cX8_init 179 = .ok (.invokespecial 87, 3) := by decide +kernel
theorem dX8_init_182 : decode cX8_init 182 = .ok (.aastore, 1) := by decide +kernel
theorem dX8_init_183 : decode cX8_init 183 = .ok (.iinc 1 1, 3) := by decide +kernel
theorem dX8_init_186 : decode cX8_init 186 = .ok (.goto (-22), 3) := by decide +kernel
theorem dX8_init_189 : decode cX8_init 189 = .ok (.iconst 0, 1) := by decide +kernel
theorem dX8_init_190 : decode cX8_init 190 = .ok (.istore_n 1, 1) := by decide +kernel
theorem dX8_init_191 : decode cX8_init 191 = .ok (.iload_n 1, 1) := by decide +kernel
theorem dX8_init_192 : decode cX8_init 192 = .ok (.iconst 4, 1) := by decide +kernel
theorem dX8_init_193 : decode cX8_init 193 = .ok (.if_icmp .ge 22, 3) := by decide +kernel
theorem dX8_init_196 : decode cX8_init 196 = .ok (.aload_n 0, 1) := by decide +kernel
theorem dX8_init_197 : decode cX8_init 197 = .ok (.getfield 63, 3) := by decide +kernel
theorem dX8_init_200 : decode cX8_init 200 = .ok (.iload_n 1, 1) := by decide +kernel
theorem dX8_init_201 : decode cX8_init 201 = .ok (.new 61, 3) := by decide +kernel
theorem dX8_init_204 : decode cX8_init 204 = .ok (.dup, 1) := by decide +kernel
theorem dX8_init_205 : decode cX8_init 205 = .ok (.invokespecial 88, 3) := by decide +kernel
theorem dX8_init_208 : decode cX8_init 208 = .ok (.aastore, 1) := by decide +kernel
theorem dX8_init_209 : decode cX8_init 209 = .ok (.iinc 1 1, 3) := by decide +kernel
theorem dX8_init_212 : decode cX8_init 212 = .ok (.goto (-21), 3) := by decide +kernel
theorem dX8_init_215 : decode cX8_init 215 = .ok (.iconst 0, 1) := by decide +kernel
theorem dX8_init_216 : decode cX8_init 216 = .ok (.istore_n 1, 1) := by decide +kernel
theorem dX8_init_217 : decode cX8_init 217 = .ok (.iload_n 1, 1) := by decide +kernel
theorem dX8_init_218 : decode cX8_init 218 = .ok (.ldc 89, 2) := by decide +kernel
theorem dX8_init_220 : decode cX8_init 220 = .ok (.invokevirtual 91, 3) := by decide +kernel
theorem dX8_init_223 : decode cX8_init 223 = .ok (.if_icmp .ge 22, 3) := by decide +kernel
theorem dX8_init_226 : decode cX8_init 226 = .ok (.aload_n 0, 1) := by decide +kernel
theorem dX8_init_227 : decode cX8_init 227 = .ok (.getfield 33, 3) := by decide +kernel
theorem dX8_init_230 : decode cX8_init 230 = .ok (.ldc 89, 2) := by decide +kernel
theorem dX8_init_232 : decode cX8_init 232 = .ok (.iload_n 1, 1) := by decide +kernel
theorem dX8_init_233 : decode cX8_init 233 = .ok (.invokevirtual 97, 3) := by decide +kernel
theorem dX8_init_236 : decode cX8_init 236 = .ok (.invokevirtual 101, 3) := by decide +kernel
theorem dX8_init_239 : decode cX8_init 239 = .ok (.iinc 1 1, 3) := by decide +kernel
theorem dX8_init_242 : decode cX8_init 242 = .ok (.goto (-25), 3) := by decide +kernel
theorem dX8_init_245 : decode cX8_init 245 = .ok (.aload_n 0, 1) := by decide +kernel
theorem dX8_init_246 : decode cX8_init 246 = .ok (.invokevirtual 105, 3) := by decide +kernel
theorem dX8_init_249 : decode cX8_init 249 = .ok (.pop, 1) := by decide +kernel
theorem dX8_init_250 : decode cX8_init 250 = .ok (.return_, 1) := by decide +kernel
theorem dX8_count_0 : decode cX8_count 0 = .ok (.iload_n 1, 1) := by decide +kernel
theorem dX8_count_1 : decode cX8_count 1 = .ok (.tableswitch 75 0 5 #[39, 44, 49, 57, 62, 67], 39) := by decide +kernel
theorem dX8_count_40 : decode cX8_count 40 = .ok (.aload_n 0, 1) := by decide +kernel
theorem dX8_count_41 : decode cX8_count 41 = .ok (.getfield 78, 3) := by decide +kernel
theorem dX8_count_44 : decode cX8_count 44 = .ok (.ireturn, 1) := by decide +kernel
theorem dX8_count_45 : decode cX8_count 45 = .ok (.aload_n 0, 1) := by decide +kernel
theorem dX8_count_46 : decode cX8_count 46 = .ok (.getfield 74, 3) := by decide +kernel
theorem dX8_count_49 : decode cX8_count 49 = .ok (.ireturn, 1) := by decide +kernel
theorem dX8_count_50 : decode cX8_count 50 = .ok (.aload_n 0, 1) := by decide +kernel
theorem dX8_count_51 : decode cX8_count 51 = .ok (.getfield 10, 3) := by decide +kernel
theorem dX8_count_54 : decode cX8_count 54 = .ok (.getfield 108, 3) := by decide +kernel
theorem dX8_count_57 : decode cX8_count 57 = .ok (.ireturn, 1) := by decide +kernel
theorem dX8_count_58 : decode cX8_count 58 = .ok (.aload_n 0, 1) := by decide +kernel
theorem dX8_count_59 : decode cX8_count 59 = .ok (.getfield 81, 3) := by decide +kernel
theorem dX8_count_62 : decode cX8_count 62 = .ok (.ireturn, 1) := by decide +kernel
theorem dX8_count_63 : decode cX8_count 63 = .ok (.aload_n 0, 1) := by decide +kernel
theorem dX8_count_64 : decode cX8_count 64 = .ok (.getfield 84, 3) := by decide +kernel
theorem dX8_count_67 : decode cX8_count 67 = .ok (.ireturn, 1) := by decide +kernel
theorem dX8_count_68 : decode cX8_count 68 = .ok (.aload_n 0, 1) := by decide +kernel
theorem dX8_count_69 : decode cX8_count 69 = .ok (.getfield 33, 3) := by decide +kernel
theorem dX8_count_72 : decode cX8_count 72 = .ok (.getfield 111, 3) := by decide +kernel
theorem dX8_count_75 : decode cX8_count 75 = .ok (.ireturn, 1) := by decide +kernel
theorem dX8_count_76 : decode cX8_count 76 = .ok (.bipush (-2), 2) := by decide +kernel
theorem dX8_count_78 : decode cX8_count 78 = .ok (.ireturn, 1) := by decide +kernel
set_option maxRecDepth 20000 in
theorem ggX8_deal_X4_dropAbove : GoodIn wsX8_deal wsX4_dropAbove := goodIn_r _ [6, 7, 8, 9, 10, 11, 4, 12, 28, 29] rfl (by decide +kernel)
set_option maxRecDepth 20000 in
theorem gX8_deal_X4_dropAbove_n112 : GoodIn wsX8_deal (wsX4_dropAbove) := ggX8_deal_X4_dropAbove
theorem dX8_deal_0 : decode cX8_deal 0 = .ok (.iload_n 1, 1) := by decide +kernel
theorem dX8_deal_1 : decode cX8_deal 1 = .ok (.iconst 1, 1) := by decide +kernel
theorem dX8_deal_2 : decode cX8_deal 2 = .ok (.if_icmp .lt 9, 3) := by decide +kernel
theorem dX8_deal_5 : decode cX8_deal 5 = .ok (.iload_n 1, 1) := by decide +kernel
theorem dX8_deal_6 : decode cX8_deal 6 = .ok (.bipush 52, 2) := by decide +kernel
theorem dX8_deal_8 : decode cX8_deal 8 = .ok (.if_icmp .le 6, 3) := by decide +kernel
theorem dX8_deal_11 : decode cX8_deal 11 = .ok (.bipush (-2), 2) := by decide +kernel
theorem dX8_deal_13 : decode cX8_deal 13 = .ok (.ireturn, 1) := by decide +kernel
theorem dX8_deal_14 : decode cX8_deal 14 = .ok (.aload_n 0, 1) := by decide +kernel
theorem dX8_deal_15 : decode cX8_deal 15 = .ok (.getfield 74, 3) := by decide +kernel
theorem dX8_deal_18 : decode cX8_deal 18 = .ok (.istore_n 2, 1) := by decide +kernel
theorem dX8_deal_19 : decode cX8_deal 19 = .ok (.aload_n 0, 1) := by decide +kernel
theorem dX8_deal_20 : decode cX8_deal 20 = .ok (.iload_n 1, 1) := by decide +kernel
theorem dX8_deal_21 : decode cX8_deal 21 = .ok (.putfield 74, 3) := by decide +kernel
theorem dX8_deal_24 : decode cX8_deal 24 = .ok (.aload_n 0, 1) := by decide +kernel
theorem dX8_deal_25 : decode cX8_deal 25 = .ok (.getfield 10, 3) := by decide +kernel
theorem dX8_deal_28 : decode cX8_deal 28 = .ok (.iload_n 1, 1) := by decide +kernel
theorem dX8_deal_29 : decode cX8_deal 29 = .ok (.invokevirtual 112, 3) := by decide +kernel
theorem dX8_deal_32 : decode cX8_deal 32 = .ok (.iload_n 2, 1) := by decide +kernel
theorem dX8_deal_33 : decode cX8_deal 33 = .ok (.ireturn, 1) := by decide +kernel
set_option maxRecDepth 20000 in
theorem ggX8_card_X8_isCard : GoodIn wsX8_card wsX8_isCard := goodIn_r _ [6, 7, 14, 15, 16, 17, 18, 19, 20, 21, 22, 23, 24, 25, 26, 27, 28] rfl (by decide +kernel)
set_option maxRecDepth 20000 in
theorem gX8_card_X8_isCard : GoodIn wsX8_card (wsV RX8 115 RX8 yX8_isCard wsX8_isCard) := goodIn_app (goodIn_of _ (by decide +kernel)) ggX8_card_X8_isCard
set_option maxRecDepth 20000 in
theorem ggX8_card_X4_add : GoodIn wsX8_card wsX4_add := goodIn_r _ [11, 12, 13, 29, 30] rfl (by decide +kernel)
set_option maxRecDepth 20000 in
theorem gX8_card_X4_add_n119 : GoodIn wsX8_card (wsX4_add) := ggX8_card_X4_add
theorem dX8_card_0 : decode cX8_card 0 = .ok (.aload_n 0, 1) := by decide +kernel
theorem dX8_card_1 : decode cX8_card 1 = .ok (.iload_n 1, 1) := by decide +kernel
theorem dX8_card_2 : decode cX8_card 2 = .ok (.invokevirtual 115, 3) := by decide +kernel
theorem dX8_card_5 : decode cX8_card 5 = .ok (.ifCond .ne 6, 3) := by decide +kernel
theorem dX8_card_8 : decode cX8_card 8 = .ok (.bipush (-2), 2) := by decide +kernel
theorem dX8_card_10 : decode cX8_card 10 = .ok (.ireturn, 1) := by decide +kernel
theorem dX8_card_11 : decode cX8_card 11 = .ok (.aload_n 0, 1) := by decide +kernel
theorem dX8_card_12 : decode cX8_card 12 = .ok (.getfield 10, 3) := by decide +kernel
theorem dX8_card_15 : decode cX8_card 15 = .ok (.iload_n 1, 1) := by decide +kernel
theorem dX8_card_16 : decode cX8_card 16 = .ok (.invokevirtual 119, 3) := by decide +kernel
theorem dX8_card_19 : decode cX8_card 19 = .ok (.ifCond .eq 13, 3) := by decide +kernel
theorem dX8_card_22 : decode cX8_card 22 = .ok (.aload_n 0, 1) := by decide +kernel
theorem dX8_card_23 : decode cX8_card 23 = .ok (.getfield 10, 3) := by decide +kernel
theorem dX8_card_26 : decode cX8_card 26 = .ok (.getfield 108, 3) := by decide +kernel
theorem dX8_card_29 : decode cX8_card 29 = .ok (.goto 5, 3) := by decide +kernel
theorem dX8_card_32 : decode cX8_card 32 = .ok (.bipush (-4), 2) := by decide +kernel
theorem dX8_card_34 : decode cX8_card 34 = .ok (.ireturn, 1) := by decide +kernel
set_option maxRecDepth 20000 in
theorem ggX8_fill_X8_isCard : GoodIn wsX8_fill wsX8_isCard := goodIn_r _ [7, 2, 21, 22, 23, 24, 25, 26, 27, 28, 29, 30, 31, 32, 33, 34, 35] rfl (by decide +kernel)
set_option maxRecDepth 20000 in
theorem gX8_fill_X8_isCard : GoodIn wsX8_fill (wsV RX8 115 RX8 yX8_isCard wsX8_isCard) := goodIn_app (goodIn_of _ (by decide +kernel)) ggX8_fill_X8_isCard
set_option maxRecDepth 20000 in
theorem ggX8_fill_X8_isWay : GoodIn wsX8_fill wsX8_isWay := goodIn_r _ [10] rfl (by decide +kernel)
set_option maxRecDepth 20000 in
theorem gX8_fill_X8_isWay : GoodIn wsX8_fill (va_wsS RX8 122 yX8_isWay wsX8_isWay) := goodIn_app (goodIn_of _ (by decide +kernel)) ggX8_fill_X8_isWay
set_option maxRecDepth 20000 in
theorem ggX8_fill_X4_becomeAllBut : GoodIn wsX8_fill wsX4_becomeAllBut := goodIn_r _ [14, 15, 16, 17, 18, 12, 19, 20, 36, 37] rfl (by decide +kernel)
set_option maxRecDepth 20000 in
theorem gX8_fill_X4_becomeAllBut_n125 : GoodIn wsX8_fill (wsX4_becomeAllBut) := ggX8_fill_X4_becomeAllBut
theorem dX8_fill_0 : decode cX8_fill 0 = .ok (.iload_n 1, 1) := by decide +kernel
theorem dX8_fill_1 : decode cX8_fill 1 = .ok (.iconst (-1), 1) := by decide +kernel
theorem dX8_fill_2 : decode cX8_fill 2 = .ok (.if_icmp .eq 11, 3) := by decide +kernel
theorem dX8_fill_5 : decode cX8_fill 5 = .ok (.aload_n 0, 1) := by decide +kernel
theorem dX8_fill_6 : decode cX8_fill 6 = .ok (.iload_n 1, 1) := by decide +kernel
theorem dX8_fill_7 : decode cX8_fill 7 = .ok (.invokevirtual 115, 3) := by decide +kernel
theorem dX8_fill_10 : decode cX8_fill 10 = .ok (.ifCond .eq 10, 3) := by decide +kernel
theorem dX8_fill_13 : decode cX8_fill 13 = .ok (.iload_n 2, 1) := by decide +kernel
theorem dX8_fill_14 : decode cX8_fill 14 = .ok (.invokestatic 122, 3) := by decide +kernel
theorem dX8_fill_17 : decode cX8_fill 17 = .ok (.ifCond .ne 6, 3) := by decide +kernel
theorem dX8_fill_20 : decode cX8_fill 20 = .ok (.bipush (-2), 2) := by decide +kernel
theorem dX8_fill_22 : decode cX8_fill 22 = .ok (.ireturn, 1) := by decide +kernel
theorem dX8_fill_23 : decode cX8_fill 23 = .ok (.aload_n 0, 1) := by decide +kernel
theorem dX8_fill_24 : decode cX8_fill 24 = .ok (.getfield 10, 3) := by decide +kernel
theorem dX8_fill_27 : decode cX8_fill 27 = .ok (.iload_n 1, 1) := by decide +kernel
theorem dX8_fill_28 : decode cX8_fill 28 = .ok (.aload_n 0, 1) := by decide +kernel
theorem dX8_fill_29 : decode cX8_fill 29 = .ok (.getfield 74, 3) := by decide +kernel
theorem dX8_fill_32 : decode cX8_fill 32 = .ok (.iload_n 2, 1) := by decide +kernel
theorem dX8_fill_33 : decode cX8_fill 33 = .ok (.invokevirtual 125, 3) := by decide +kernel
theorem dX8_fill_36 : decode cX8_fill 36 = .ok (.aload_n 0, 1) := by decide +kernel
theorem dX8_fill_37 : decode cX8_fill 37 = .ok (.getfield 10, 3) := by decide +kernel
theorem dX8_fill_40 : decode cX8_fill 40 = .ok (.getfield 108, 3) := by decide +kernel
theorem dX8_fill_43 : decode cX8_fill 43 = .ok (.ireturn, 1) := by decide +kernel
set_option maxRecDepth 20000 in
theorem ggX8_at_X4_has : GoodIn wsX8_at wsX4_has := goodIn_r _ [5, 6, 22, 23] rfl (by decide +kernel)
set_option maxRecDepth 20000 in
theorem gX8_at_X4_has_n129 : GoodIn wsX8_at (wsX4_has) := ggX8_at_X4_has
theorem dX8_at_0 : decode cX8_at 0 = .ok (.aload_n 0, 1) := by decide +kernel
theorem dX8_at_1 : decode cX8_at 1 = .ok (.getfield 10, 3) := by decide +kernel
theorem dX8_at_4 : decode cX8_at 4 = .ok (.iload_n 1, 1) := by decide +kernel
theorem dX8_at_5 : decode cX8_at 5 = .ok (.invokevirtual 129, 3) := by decide +kernel
theorem dX8_at_8 : decode cX8_at 8 = .ok (.ifCond .eq 15, 3) := by decide +kernel
theorem dX8_at_11 : decode cX8_at 11 = .ok (.aload_n 0, 1) := by decide +kernel
theorem dX8_at_12 : decode cX8_at 12 = .ok (.getfield 10, 3) := by decide +kernel
theorem dX8_at_15 : decode cX8_at 15 = .ok (.getfield 132, 3) := by decide +kernel
theorem dX8_at_18 : decode cX8_at 18 = .ok (.iload_n 1, 1) := by decide +kernel
theorem dX8_at_19 : decode cX8_at 19 = .ok (.iaload, 1) := by decide +kernel
theorem dX8_at_20 : decode cX8_at 20 = .ok (.goto 5, 3) := by decide +kernel
theorem dX8_at_23 : decode cX8_at 23 = .ok (.bipush (-6), 2) := by decide +kernel
theorem dX8_at_25 : decode cX8_at 25 = .ok (.ireturn, 1) := by decide +kernel
set_option maxRecDepth 20000 in
theorem ggX8_turn_X4_beTurned : GoodIn wsX8_turn wsX4_beTurned := goodIn_r _ [5, 6, 7, 8, 9, 3, 10, 11, 12, 13, 14, 15, 31, 32] rfl (by decide +kernel)
set_option maxRecDepth 20000 in
theorem gX8_turn_X4_beTurned_n135 : GoodIn wsX8_turn (wsX4_beTurned) := ggX8_turn_X4_beTurned
theorem dX8_turn_0 : decode cX8_turn 0 = .ok (.iload_n 1, 1) := by decide +kernel
theorem dX8_turn_1 : decode cX8_turn 1 = .ok (.ifCond .lt 8, 3) := by decide +kernel
theorem dX8_turn_4 : decode cX8_turn 4 = .ok (.iload_n 1, 1) := by decide +kernel
theorem dX8_turn_5 : decode cX8_turn 5 = .ok (.iconst 2, 1) := by decide +kernel
theorem dX8_turn_6 : decode cX8_turn 6 = .ok (.if_icmp .le 6, 3) := by decide +kernel
theorem dX8_turn_9 : decode cX8_turn 9 = .ok (.bipush (-2), 2) := by decide +kernel
theorem dX8_turn_11 : decode cX8_turn 11 = .ok (.ireturn, 1) := by decide +kernel
theorem dX8_turn_12 : decode cX8_turn 12 = .ok (.aload_n 0, 1) := by decide +kernel
theorem dX8_turn_13 : decode cX8_turn 13 = .ok (.getfield 10, 3) := by decide +kernel
theorem dX8_turn_16 : decode cX8_turn 16 = .ok (.iload_n 1, 1) := by decide +kernel
theorem dX8_turn_17 : decode cX8_turn 17 = .ok (.invokevirtual 135, 3) := by decide +kernel
theorem dX8_turn_20 : decode cX8_turn 20 = .ok (.aload_n 0, 1) := by decide +kernel
theorem dX8_turn_21 : decode cX8_turn 21 = .ok (.getfield 10, 3) := by decide +kernel
theorem dX8_turn_24 : decode cX8_turn 24 = .ok (.getfield 108, 3) := by decide +kernel
theorem dX8_turn_27 : decode cX8_turn 27 = .ok (.ifCond .le 15, 3) := by decide +kernel
theorem dX8_turn_30 : decode cX8_turn 30 = .ok (.aload_n 0, 1) := by decide +kernel
theorem dX8_turn_31 : decode cX8_turn 31 = .ok (.getfield 10, 3) := by decide +kernel
theorem dX8_turn_34 : decode cX8_turn 34 = .ok (.getfield 132, 3) := by decide +kernel
theorem dX8_turn_37 : decode cX8_turn 37 = .ok (.iconst 0, 1) := by decide +kernel
theorem dX8_turn_38 : decode cX8_turn 38 = .ok (.iaload, 1) := by decide +kernel
theorem dX8_turn_39 : decode cX8_turn 39 = .ok (.goto 4, 3) := by decide +kernel
theorem dX8_turn_42 : decode cX8_turn 42 = .ok (.iconst (-1), 1) := by decide +kernel
theorem dX8_turn_43 : decode cX8_turn 43 = .ok (.ireturn, 1) := by decide +kernel
set_option maxRecDepth 20000 in
theorem ggX8_missing_X4_timesOf : GoodIn wsX8_missing wsX4_timesOf := goodIn_r _ [6, 7, 8, 24, 25] rfl (by decide +kernel)
set_option maxRecDepth 20000 in
theorem gX8_missing_X4_timesOf_n138 : GoodIn wsX8_missing (wsX4_timesOf) := ggX8_missing_X4_timesOf
theorem dX8_missing_0 : decode cX8_missing 0 = .ok (.iload_n 1, 1) := by decide +kernel
theorem dX8_missing_1 : decode cX8_missing 1 = .ok (.ifCond .lt 9, 3) := by decide +kernel
theorem dX8_missing_4 : decode cX8_missing 4 = .ok (.iload_n 1, 1) := by decide +kernel
theorem dX8_missing_5 : decode cX8_missing 5 = .ok (.bipush 52, 2) := by decide +kernel
theorem dX8_missing_7 : decode cX8_missing 7 = .ok (.if_icmp .lt 6, 3) := by decide +kernel
theorem dX8_missing_10 : decode cX8_missing 10 = .ok (.bipush (-2), 2) := by decide +kernel
theorem dX8_missing_12 : decode cX8_missing 12 = .ok (.ireturn, 1) := by decide +kernel
theorem dX8_missing_13 : decode cX8_missing 13 = .ok (.iconst 0, 1) := by decide +kernel
theorem dX8_missing_14 : decode cX8_missing 14 = .ok (.istore_n 2, 1) := by decide +kernel
theorem dX8_missing_15 : decode cX8_missing 15 = .ok (.iconst 1, 1) := by decide +kernel
theorem dX8_missing_16 : decode cX8_missing 16 = .ok (.istore_n 3, 1) := by decide +kernel
theorem dX8_missing_17 : decode cX8_missing 17 = .ok (.iload_n 3, 1) := by decide +kernel
theorem dX8_missing_18 : decode cX8_missing 18 = .ok (.aload_n 0, 1) := by decide +kernel
theorem dX8_missing_19 : decode cX8_missing 19 = .ok (.getfield 74, 3) := by decide +kernel
theorem dX8_missing_22 : decode cX8_missing 22 = .ok (.if_icmp .gt 30, 3) := by decide +kernel
theorem dX8_missing_25 : decode cX8_missing 25 = .ok (.aload_n 0, 1) := by decide +kernel
theorem dX8_missing_26 : decode cX8_missing 26 = .ok (.getfield 10, 3) := by decide +kernel
theorem dX8_missing_29 : decode cX8_missing 29 = .ok (.iload_n 3, 1) := by decide +kernel
theorem dX8_missing_30 : decode cX8_missing 30 = .ok (.invokevirtual 138, 3) := by decide +kernel
theorem dX8_missing_33 : decode cX8_missing 33 = .ok (.ifCond .ne 13, 3) := by decide +kernel
theorem dX8_missing_36 : decode cX8_missing 36 = .ok (.iload_n 2, 1) := by decide +kernel
theorem dX8_missing_37 : decode cX8_missing 37 = .ok (.iload_n 1, 1) := by decide +kernel
theorem dX8_missing_38 : decode cX8_missing 38 = .ok (.if_icmp .ne 5, 3) := by decide +kernel
theorem dX8_missing_41 : decode cX8_missing 41 = .ok (.iload_n 3, 1) := by decide +kernel
theorem dX8_missing_42 : decode cX8_missing 42 = .ok (.ireturn, 1) := by decide +kernel
theorem dX8_missing_43 : decode cX8_missing 43 = .ok (.iinc 2 1, 3) := by decide +kernel
theorem dX8_missing_46 : decode cX8_missing 46 = .ok (.iinc 3 1, 3) := by decide +kernel
theorem dX8_missing_49 : decode cX8_missing 49 = .ok (.goto (-32), 3) := by decide +kernel
theorem dX8_missing_52 : decode cX8_missing 52 = .ok (.iconst (-1), 1) := by decide +kernel
theorem dX8_missing_53 : decode cX8_missing 53 = .ok (.ireturn, 1) := by decide +kernel
set_option maxRecDepth 20000 in
theorem ggX8_truth_X8_unlikeCards : GoodIn wsX8_truth wsX8_unlikeCards := goodIn_r _ [7, 1, 2, 8, 9, 10, 11, 12, 13, 27, 28, 29, 30, 31, 32, 33, 34, 35, 36, 37, 38, 39, 40, 41, 42, 43] rfl (by decide +kernel)
set_option maxRecDepth 20000 in
theorem gX8_truth_X8_unlikeCards : GoodIn wsX8_truth (wsV RX8 142 RX8 yX8_unlikeCards wsX8_unlikeCards) := goodIn_app (goodIn_of _ (by decide +kernel)) ggX8_truth_X8_unlikeCards
set_option maxRecDepth 20000 in
theorem ggX8_truth_X8_commonestCard : GoodIn wsX8_truth wsX8_commonestCard := goodIn_r _ [17, 1, 2, 8, 9, 10, 11, 12, 13, 27, 28, 29, 30, 31, 32, 33, 34, 35, 36, 37, 38, 39, 40, 41, 42, 43] rfl (by decide +kernel)
set_option maxRecDepth 20000 in
theorem gX8_truth_X8_commonestCard : GoodIn wsX8_truth (wsV RX8 145 RX8 yX8_commonestCard wsX8_commonestCard) := goodIn_app (goodIn_of _ (by decide +kernel)) ggX8_truth_X8_commonestCard
set_option maxRecDepth 20000 in
theorem ggX8_truth_X4_timesOf : GoodIn wsX8_truth wsX4_timesOf := goodIn_r _ [11, 12, 13, 42, 43] rfl (by decide +kernel)
set_option maxRecDepth 20000 in
theorem gX8_truth_X4_timesOf_n138 : GoodIn wsX8_truth (wsX4_timesOf) := ggX8_truth_X4_timesOf
set_option maxRecDepth 20000 in
theorem ggX8_truth_X4_earliestTwice : GoodIn wsX8_truth wsX4_earliestTwice := goodIn_r _ [20, 12, 13, 42, 43] rfl (by decide +kernel)
set_option maxRecDepth 20000 in
theorem gX8_truth_X4_earliestTwice_n148 : GoodIn wsX8_truth (wsX4_earliestTwice) := ggX8_truth_X4_earliestTwice
set_option maxRecDepth 20000 in
theorem ggX8_truth_X4_sum : GoodIn wsX8_truth wsX4_sum := goodIn_r _ [23, 12, 13, 42, 43] rfl (by decide +kernel)
set_option maxRecDepth 20000 in
theorem gX8_truth_X4_sum_n151 : GoodIn wsX8_truth (wsX4_sum) := ggX8_truth_X4_sum
set_option maxRecDepth 20000 in
theorem ggX8_truth_X4_squares : GoodIn wsX8_truth wsX4_squares := goodIn_r _ [26, 12, 13, 42, 43] rfl (by decide +kernel)
set_option maxRecDepth 20000 in
theorem gX8_truth_X4_squares_n154 : GoodIn wsX8_truth (wsX4_squares) := ggX8_truth_X4_squares
theorem dX8_truth_0 : decode cX8_truth 0 = .ok (.iload_n 1, 1) := by decide +kernel
theorem dX8_truth_1 : decode cX8_truth 1 = .ok (.tableswitch 132 0 7 #[47, 57, 62, 67, 79, 108, 116, 124], 47) := by decide +kernel
theorem dX8_truth_48 : decode cX8_truth 48 = .ok (.aload_n 0, 1) := by decide +kernel
theorem dX8_truth_49 : decode cX8_truth 49 = .ok (.getfield 74, 3) := by decide +kernel
theorem dX8_truth_52 : decode cX8_truth 52 = .ok (.aload_n 0, 1) := by decide +kernel
theorem dX8_truth_53 : decode cX8_truth 53 = .ok (.invokevirtual 142, 3) := by decide +kernel
theorem dX8_truth_56 : decode cX8_truth 56 = .ok (.isub, 1) := by decide +kernel
theorem dX8_truth_57 : decode cX8_truth 57 = .ok (.ireturn, 1) := by decide +kernel
theorem dX8_truth_58 : decode cX8_truth 58 = .ok (.aload_n 0, 1) := by decide +kernel
theorem dX8_truth_59 : decode cX8_truth 59 = .ok (.invokevirtual 142, 3) := by decide +kernel
theorem dX8_truth_62 : decode cX8_truth 62 = .ok (.ireturn, 1) := by decide +kernel
theorem dX8_truth_63 : decode cX8_truth 63 = .ok (.aload_n 0, 1) := by decide +kernel
theorem dX8_truth_64 : decode cX8_truth 64 = .ok (.invokevirtual 145, 3) := by decide +kernel
theorem dX8_truth_67 : decode cX8_truth 67 = .ok (.ireturn, 1) := by decide +kernel
theorem dX8_truth_68 : decode cX8_truth 68 = .ok (.aload_n 0, 1) := by decide +kernel
theorem dX8_truth_69 : decode cX8_truth 69 = .ok (.getfield 10, 3) := by decide +kernel
theorem dX8_truth_72 : decode cX8_truth 72 = .ok (.aload_n 0, 1) := by decide +kernel
theorem dX8_truth_73 : decode cX8_truth 73 = .ok (.invokevirtual 145, 3) := by decide +kernel
theorem dX8_truth_76 : decode cX8_truth 76 = .ok (.invokevirtual 138, 3) := by decide +kernel
theorem dX8_truth_79 : decode cX8_truth 79 = .ok (.ireturn, 1) := by decide +kernel
theorem dX8_truth_80 : decode cX8_truth 80 = .ok (.aload_n 0, 1) := by decide +kernel
theorem dX8_truth_81 : decode cX8_truth 81 = .ok (.getfield 10, 3) := by decide +kernel
theorem dX8_truth_84 : decode cX8_truth 84 = .ok (.aload_n 0, 1) := by decide +kernel
theorem dX8_truth_85 : decode cX8_truth 85 = .ok (.invokevirtual 145, 3) := by decide +kernel
theorem dX8_truth_88 : decode cX8_truth 88 = .ok (.invokevirtual 138, 3) := by decide +kernel
theorem dX8_truth_91 : decode cX8_truth 91 = .ok (.iconst 2, 1) := by decide +kernel
theorem dX8_truth_92 : decode cX8_truth 92 = .ok (.imul, 1) := by decide +kernel
theorem dX8_truth_93 : decode cX8_truth 93 = .ok (.aload_n 0, 1) := by decide +kernel
theorem dX8_truth_94 : decode cX8_truth 94 = .ok (.getfield 10, 3) := by decide +kernel
theorem dX8_truth_97 : decode cX8_truth 97 = .ok (.getfield 108, 3) := by decide +kernel
